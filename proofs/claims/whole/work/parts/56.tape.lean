/-! ===== part 56: feed, end, fault ===== -/
section TAPE
variable {E : am_E} {d : Nat} {h : am_H} {Q : Int32 → am_H → Prop} {g g0 : Nat → Nat} {c : Nat → Nat → Nat} {t : Nat}
def byt (v : Int32) (j : Nat) : Nat := (un v >>> (24 - 8 * j)) &&& 255
theorem un_lt (v : Int32) : un v < 4294967296 := v.toBitVec.isLt
theorem byt_lt (v : Int32) (j : Nat) : byt v j < 256 := by
  unfold byt
  exact Nat.lt_of_le_of_lt Nat.and_le_right (by omega)
theorem byt_u {v : Int32} {s j : Nat} (hs : s = 24 - 8 * j) : am_ushr v (nI s) &&& nI 255 = nI (byt v j) := by
  have h1 : v = nI (un v) := (ni_un v).symm
  conv => lhs; rw [h1]
  rw [ni_ushr (un_lt v) (by omega), ni_and, hs]
  rfl
theorem sshr_and (x : BitVec 32) (s : Nat) (hs : s ≤ 24) : x.sshiftRight s &&& 255#32 = (x >>> s) &&& 255#32 := by
  apply BitVec.eq_of_getLsbD_eq
  intro i hi
  simp only [BitVec.getLsbD_and, BitVec.getLsbD_sshiftRight, BitVec.getLsbD_ushiftRight]
  by_cases h8 : i < 8
  · have e1 : decide (32 ≤ i) = false := by simp; omega
    have e2 : s + i < 32 := by omega
    simp [e1, e2]
  · have : (255#32).getLsbD i = false := by
      have hh : ∀ i, i < 32 → ¬ i < 8 → (255#32).getLsbD i = false := by decide
      exact hh i hi h8
    rw [this]; simp
theorem byt_s {v : Int32} {s j : Nat} (hs : s = 24 - 8 * j) : v >>> (nI s &&& 31) &&& nI 255 = nI (byt v j) := by
  rw [← byt_u hs]
  rw [ni_shk (by omega)]
  apply ni_ext
  have h1 : ∀ k, k < 32 → ((nI k).toUInt32 &&& Int32.toUInt32 31).toBitVec % 32 = BitVec.ofNat 32 k := by decide +kernel
  show v.toBitVec.sshiftRight' ((BitVec.ofNat 32 s).smod 32) &&& 255#32 = (v.toBitVec >>> (((nI s).toUInt32 &&& Int32.toUInt32 31).toBitVec % 32)) &&& 255#32
  rw [ni_smod s (by omega), h1 s (by omega), BitVec.sshiftRight', BitVec.ushiftRight_eq']
  have e : (BitVec.ofNat 32 s).toNat = s := by simp; omega
  rw [e]
  exact sshr_and _ _ (by omega)
theorem sel20 {P : Int32 → Prop} {k : Nat} {a b c d e : Int32} (h : P (A5 a b c d e (k / 4))) (hk : k < 20) : (4 ≤ k → (8 ≤ k → (12 ≤ k → (16 ≤ k → P e) ∧ (¬ 16 ≤ k → P d)) ∧ (¬ 12 ≤ k → P c)) ∧ (¬ 8 ≤ k → P b)) ∧ (¬ 4 ≤ k → P a) := by
  unfold A5 at h
  by_cases h4 : 4 ≤ k
  · by_cases h8 : 8 ≤ k
    · by_cases h12 : 12 ≤ k
      · by_cases h16 : 16 ≤ k
        · rw [if_neg (by omega), if_neg (by omega), if_neg (by omega), if_neg (by omega)] at h
          exact ⟨fun _ => ⟨fun _ => ⟨fun _ => ⟨fun _ => h, fun z => absurd h16 z⟩, fun z => absurd h12 z⟩, fun z => absurd h8 z⟩, fun z => absurd h4 z⟩
        · rw [if_neg (by omega), if_neg (by omega), if_neg (by omega), if_pos (by omega)] at h
          exact ⟨fun _ => ⟨fun _ => ⟨fun _ => ⟨fun z => absurd z h16, fun _ => h⟩, fun z => absurd h12 z⟩, fun z => absurd h8 z⟩, fun z => absurd h4 z⟩
      · rw [if_neg (by omega), if_neg (by omega), if_pos (by omega)] at h
        exact ⟨fun _ => ⟨fun _ => ⟨fun z => absurd z h12, fun _ => h⟩, fun z => absurd h8 z⟩, fun z => absurd h4 z⟩
    · rw [if_neg (by omega), if_pos (by omega)] at h
      exact ⟨fun _ => ⟨fun z => absurd z h8, fun _ => h⟩, fun z => absurd h4 z⟩
  · rw [if_pos (by omega)] at h
    exact ⟨fun z => absurd z h4, fun _ => h⟩
theorem ri_feed {n : Nat} {a b c' d' e : Int32} (hn : n ≤ 400) (h13 : h 63 13 = nI n) (hN : 380 < n → Q (-1) (hs h g))
    (hq : n ≤ 380 → ∀ h' : am_H, (∀ o, o ≠ 63 → o ≠ 70 → h' o = h o) → (∀ k, k ≠ 13 → h' 63 k = h 63 k) → h' 63 13 = nI (n + 20) → (∀ j, h' 70 j = if n ≤ j ∧ j < n + 20 then nI (byt (A5 a b c' d' e ((j - n) / 4)) ((j - n) % 4)) else h 70 j) → Q (nI (n + 20)) (hs h' g)) :
    am_C tT E d mX12_feed [.inr 63, .inl a, .inl b, .inl c', .inl d', .inl e] (hs h g) Q := by
  refine am_C.of (by decide) (Nat.le_of_ble_eq_true rfl) ?_
  show am_R tT E _ mX12_feed _ 0 [some (.inr 63), some (.inl a), some (.inl b), some (.inl c'), some (.inl d'), some (.inl e), none, none] [] (hs h g)
  refine am_goS gX12_feed [18] 400 ?_
  simp only [am_eqs, am_eqk, am_eqv, lX12_feed_0, lX12_feed_1, lX12_feed_2, fx_ref, ↓reduceIte, List.mem_cons, List.not_mem_nil, or_false, or_self, false_or, true_and, and_true, Nat.reduceEqDiff, reduceCtorEq, List.length_cons, List.length_nil, Nat.reduceAdd, Nat.reduceLeDiff, Nat.reduceSub, Nat.reduceLT, Nat.zero_le, Nat.zero_add, forall_const, not_true_eq_false, not_false_eq_true, false_implies, true_implies, implies_true, Nat.zero_lt_succ, am_z0, am_z1]
  simp (disch := omega) only [hs_at, hs_put, hs_63, NH_at, NH_put, NH_cpy, ni_add, ni_mul, ni_clamp, ni_in, ni_eq, ni_lt, ni_le, ni_sub, Nat.reduceAdd, Nat.reduceMul, Nat.reduceSub, eq_self, true_implies, not_true_eq_false, false_implies, and_true, true_and, not_false_eq_true, Nat.reduceEqDiff, Nat.reduceLeDiff, Nat.reduceLT, implies_true, ite_true, ite_false, hs_off, h13]
  refine ⟨fun z => ?_, fun z => hN (by omega)⟩
  have loop : ∀ m k (h1 : am_H) (v7 : Option am_V), k + m = 20 → (∀ o, o ≠ 63 → o ≠ 70 → h1 o = h o) → (∀ k, k ≠ 13 → h1 63 k = h 63 k) → h1 63 13 = nI (n + k) → (∀ j, h1 70 j = if n ≤ j ∧ j < n + k then nI (byt (A5 a b c' d' e ((j - n) / 4)) ((j - n) % 4)) else h 70 j) → am_R tT E d mX12_feed Q 18 [some (.inr 63), some (.inl a), some (.inl b), some (.inl c'), some (.inl d'), some (.inl e), some (.inl (nI k)), v7] [] (hs h1 g) := by
    intro m
    induction m with
    | zero =>
      intro k h1 v7 hk f1 f2 f3 f4
      have e : k = 20 := by omega
      subst e
      refine am_goS gX12_feed [18] 400 ?_
      simp only [am_eqs, am_eqk, am_eqv, lX12_feed_0, lX12_feed_1, lX12_feed_2, fx_ref, ↓reduceIte, List.mem_cons, List.not_mem_nil, or_false, or_self, false_or, true_and, and_true, Nat.reduceEqDiff, reduceCtorEq, List.length_cons, List.length_nil, Nat.reduceAdd, Nat.reduceLeDiff, Nat.reduceSub, Nat.reduceLT, Nat.zero_le, Nat.zero_add, forall_const, not_true_eq_false, not_false_eq_true, false_implies, true_implies, implies_true, Nat.zero_lt_succ, am_z0, am_z1]
      simp (disch := omega) only [hs_at, hs_put, hs_63, NH_at, NH_put, NH_cpy, ni_add, ni_mul, ni_clamp, ni_in, ni_eq, ni_lt, ni_le, ni_sub, Nat.reduceAdd, Nat.reduceMul, Nat.reduceSub, eq_self, true_implies, not_true_eq_false, false_implies, and_true, true_and, not_false_eq_true, Nat.reduceEqDiff, Nat.reduceLeDiff, Nat.reduceLT, implies_true, ite_true, ite_false, hs_off, f3]
      exact hq (by omega) h1 f1 f2 f3 f4
    | succ m ih =>
      intro k h1 v7 hk f1 f2 f3 f4
      have hnx := ih (k + 1)
      refine am_goS gX12_feed [18, 71] 400 ?_
      simp only [am_eqs, am_eqk, am_eqv, lX12_feed_0, lX12_feed_1, lX12_feed_2, fx_ref, ↓reduceIte, List.mem_cons, List.not_mem_nil, or_false, or_self, false_or, true_and, and_true, Nat.reduceEqDiff, reduceCtorEq, List.length_cons, List.length_nil, Nat.reduceAdd, Nat.reduceLeDiff, Nat.reduceSub, Nat.reduceLT, Nat.zero_le, Nat.zero_add, forall_const, not_true_eq_false, not_false_eq_true, false_implies, true_implies, implies_true, Nat.zero_lt_succ, am_z0, am_z1]
      simp (disch := omega) only [hs_at, hs_put, hs_63, NH_at, NH_put, NH_cpy, ni_add, ni_mul, ni_clamp, ni_in, ni_eq, ni_lt, ni_le, ni_sub, Nat.reduceAdd, Nat.reduceMul, Nat.reduceSub, eq_self, true_implies, not_true_eq_false, false_implies, and_true, true_and, not_false_eq_true, Nat.reduceEqDiff, Nat.reduceLeDiff, Nat.reduceLT, implies_true, ite_true, ite_false]
      refine ⟨fun z => absurd z (by omega), fun _ => ?_⟩
      refine sel20 (P := fun v => am_R tT E d mX12_feed Q 71 [some (.inr 63), some (.inl a), some (.inl b), some (.inl c'), some (.inl d'), some (.inl e), some (.inl (nI k)), v7] [.inl v] (hs h1 g)) ?_ (by omega)
      refine am_goS gX12_feed [18] 400 ?_
      simp only [am_eqs, am_eqk, am_eqv, lX12_feed_0, lX12_feed_1, lX12_feed_2, fx_ref, ↓reduceIte, List.mem_cons, List.not_mem_nil, or_false, or_self, false_or, true_and, and_true, Nat.reduceEqDiff, reduceCtorEq, List.length_cons, List.length_nil, Nat.reduceAdd, Nat.reduceLeDiff, Nat.reduceSub, Nat.reduceLT, Nat.zero_le, Nat.zero_add, forall_const, not_true_eq_false, not_false_eq_true, false_implies, true_implies, implies_true, Nat.zero_lt_succ, am_z0, am_z1]
      rw [ni_rem (by omega) (by omega), ni_mul, ni_sub (by omega), byt_s rfl]
      simp (disch := omega) only [hs_at, hs_put, hs_63, NH_at, NH_put, NH_cpy, ni_add, ni_mul, ni_clamp, ni_in, ni_eq, ni_lt, ni_le, ni_sub, Nat.reduceAdd, Nat.reduceMul, Nat.reduceSub, eq_self, true_implies, not_true_eq_false, false_implies, and_true, true_and, not_false_eq_true, Nat.reduceEqDiff, Nat.reduceLeDiff, Nat.reduceLT, implies_true, ite_true, ite_false, hs_off, f3, hs_upo, hs_up63]
      have hup : am_upd h1 70 (n + k) (nI (byt (A5 a b c' d' e (k / 4)) (k % 4))) 63 13 = nI (n + k) := by rw [am_upd_ne _ _ _ (by omega)]; exact f3
      simp (disch := omega) only [hs_at, hs_put, hs_63, NH_at, NH_put, NH_cpy, ni_add, ni_mul, ni_clamp, ni_in, ni_eq, ni_lt, ni_le, ni_sub, Nat.reduceAdd, Nat.reduceMul, Nat.reduceSub, eq_self, true_implies, not_true_eq_false, false_implies, and_true, true_and, not_false_eq_true, Nat.reduceEqDiff, Nat.reduceLeDiff, Nat.reduceLT, implies_true, ite_true, ite_false, hup]
      refine ⟨by decide, by omega, ?_⟩
      refine hnx _ _ (by omega) (fun o x y => ?_) (fun j hj => ?_) ?_ (fun j => ?_)
      · rw [am_upd_ne _ _ _ x, am_upd_ne _ _ _ y]; exact f1 o x y
      · rw [am_upd_self]; simp only [upd, if_neg hj]; rw [am_upd_ne _ _ _ (by omega)]; exact f2 j hj
      · rw [am_upd_at]; rfl
      · rw [am_upd_ne _ _ _ (by omega), am_upd_self]
        by_cases e : j = n + k
        · subst e
          simp only [upd, if_true]
          rw [if_pos (by omega), Nat.add_sub_cancel_left]
        · simp only [upd, if_neg e]
          rw [f4 j]
          by_cases e2 : n ≤ j ∧ j < n + k
          · rw [if_pos e2, if_pos (by omega)]
          · rw [if_neg e2, if_neg (by omega)]
  exact loop 20 0 h none rfl (fun _ _ _ => rfl) (fun _ _ => rfl) h13 (fun j => by rw [if_neg (by omega)])
theorem ri_fault {v k p : Int32} (hk : h 63 20 = k) (hp : h 63 22 = p) (hq : Q (if v = nI 0 then k else if v = nI 1 then p else -1) (hs h g)) : am_C tT E d mX12_fault [.inr 63, .inl v] (hs h g) Q := by
  refine am_C.of (by decide) (Nat.le_of_ble_eq_true rfl) ?_
  show am_R tT E _ mX12_fault _ 0 [some (.inr 63), some (.inl v)] [] (hs h g)
  refine am_goS gX12_fault [] 400 ?_
  simp only [am_eqs, am_eqk, am_eqv, lX12_fault_0, fx_ref, ↓reduceIte, List.mem_cons, List.not_mem_nil, or_false, or_self, false_or, true_and, and_true, Nat.reduceEqDiff, reduceCtorEq, List.length_cons, List.length_nil, Nat.reduceAdd, Nat.reduceLeDiff, Nat.reduceSub, Nat.reduceLT, Nat.zero_le, Nat.zero_add, forall_const, not_true_eq_false, not_false_eq_true, false_implies, true_implies, implies_true, Nat.zero_lt_succ, am_z0, am_z1]
  simp (disch := omega) only [hs_at, hs_put, hs_63, NH_at, NH_put, NH_cpy, ni_add, ni_mul, ni_clamp, ni_in, ni_eq, ni_lt, ni_le, ni_sub, Nat.reduceAdd, Nat.reduceMul, Nat.reduceSub, eq_self, true_implies, not_true_eq_false, false_implies, and_true, true_and, not_false_eq_true, Nat.reduceEqDiff, Nat.reduceLeDiff, Nat.reduceLT, implies_true, ite_true, ite_false, hs_off]
  refine ⟨fun e => ?_, fun e => ⟨fun e2 => ?_, fun e2 => ?_⟩⟩
  · rw [if_pos e] at hq; rw [hk]; exact hq
  · rw [if_neg e, if_pos e2] at hq; rw [hp]; exact hq
  · rw [if_neg e, if_neg e2] at hq; exact hq
theorem ci_fault {v k p : Int32} (hk : nI (c 46 1) = k) (hp : nI (c 46 2) = p) (hq : Q (if v = nI 0 then k else if v = nI 1 then p else -1) (NH c)) : am_C tT E d mX11_fault [.inr 0, .inl v] (NH c) Q := by
  refine am_C.of (by decide) (Nat.le_of_ble_eq_true rfl) ?_
  show am_R tT E _ mX11_fault _ 0 [some (.inr 0), some (.inl v)] [] (NH c)
  refine am_goS gX11_fault [] 400 ?_
  simp only [am_eqs, am_eqk, am_eqv, lX11_fault_0, fx_class, NH_at, NH_put, ↓reduceIte, List.mem_cons, List.not_mem_nil, or_false, or_self, false_or, true_and, and_true, Nat.reduceEqDiff, reduceCtorEq, List.length_cons, List.length_nil, Nat.reduceAdd, Nat.reduceLeDiff, Nat.reduceSub, Nat.reduceLT, Nat.zero_le, Nat.zero_add, forall_const, not_true_eq_false, not_false_eq_true, false_implies, true_implies, implies_true, Nat.zero_lt_succ, am_z0, am_z1]
  refine ⟨fun e => ?_, fun e => ⟨fun e2 => ?_, fun e2 => ?_⟩⟩
  · rw [if_pos e] at hq; rw [hk]; exact hq
  · rw [if_neg e, if_pos e2] at hq; rw [hp]; exact hq
  · rw [if_neg e, if_neg e2] at hq; exact hq
theorem ri_end {v : Int32} {n : Nat} (hn : n ≤ 400) (h13 : h 63 13 = nI n) (h1 : ∀ k, k ≤ n → v = nI k → Q (nI 1) (hs (am_upd h 63 13 (nI k)) g)) (h0 : ¬ isB v (n + 1) → Q (nI 0) (hs h g)) : am_C tT E (d + 1) mX12_end [.inr 63, .inl v] (hs h g) Q := by
  refine am_C.of (by decide) (Nat.le_of_ble_eq_true rfl) ?_
  show am_R tT E _ mX12_end _ 0 [some (.inr 63), some (.inl v)] [] (hs h g)
  refine am_goS gX12_end [] 400 ?_
  simp only [am_eqs, am_eqk, am_eqv, lX12_end_0, fx_ref, ↓reduceIte, List.mem_cons, List.not_mem_nil, or_false, or_self, false_or, true_and, and_true, Nat.reduceEqDiff, reduceCtorEq, List.length_cons, List.length_nil, Nat.reduceAdd, Nat.reduceLeDiff, Nat.reduceSub, Nat.reduceLT, Nat.zero_le, Nat.zero_add, forall_const, not_true_eq_false, not_false_eq_true, false_implies, true_implies, implies_true, Nat.zero_lt_succ, am_z0, am_z1]
  simp (disch := omega) only [hs_at, hs_put, hs_63, NH_at, NH_put, NH_cpy, ni_add, ni_mul, ni_clamp, ni_in, ni_eq, ni_lt, ni_le, ni_sub, Nat.reduceAdd, Nat.reduceMul, Nat.reduceSub, eq_self, true_implies, not_true_eq_false, false_implies, and_true, true_and, not_false_eq_true, Nat.reduceEqDiff, Nat.reduceLeDiff, Nat.reduceLT, implies_true, ite_true, ite_false, hs_off, h13]
  refine r_isIn (fun z => ?_) (fun z => ?_)
  · rw [isB_c (by omega)] at z
    obtain ⟨k, hk, rfl⟩ := z
    simp (disch := omega) only [hs_at, hs_put, hs_63, NH_at, NH_put, NH_cpy, ni_add, ni_mul, ni_clamp, ni_in, ni_eq, ni_lt, ni_le, ni_sub, Nat.reduceAdd, Nat.reduceMul, Nat.reduceSub, eq_self, true_implies, not_true_eq_false, false_implies, and_true, true_and, not_false_eq_true, Nat.reduceEqDiff, Nat.reduceLeDiff, Nat.reduceLT, implies_true, ite_true, ite_false, hs_up63]
    exact h1 k (by omega) rfl
  · rw [isB_c (by omega)] at z
    simp (disch := omega) only [hs_at, hs_put, hs_63, NH_at, NH_put, NH_cpy, ni_add, ni_mul, ni_clamp, ni_in, ni_eq, ni_lt, ni_le, ni_sub, Nat.reduceAdd, Nat.reduceMul, Nat.reduceSub, eq_self, true_implies, not_true_eq_false, false_implies, and_true, true_and, not_false_eq_true, Nat.reduceEqDiff, Nat.reduceLeDiff, Nat.reduceLT, implies_true, ite_true, ite_false]
    exact h0 z
theorem ci_end {v : Int32} {n : Nat} (hn : n ≤ 400) (h0' : c 46 0 = n) (h1 : ∀ k, k ≤ n → v = nI k → Q (nI 1) (NH (cup c 46 0 k))) (h0 : ¬ isB v (n + 1) → Q (nI 0) (NH c)) : am_C tT E (d + 1) mX11_end [.inr 0, .inl v] (NH c) Q := by
  refine am_C.of (by decide) (Nat.le_of_ble_eq_true rfl) ?_
  show am_R tT E _ mX11_end _ 0 [some (.inr 0), some (.inl v)] [] (NH c)
  refine am_goS gX11_end [] 400 ?_
  simp only [am_eqs, am_eqk, am_eqv, lX11_end_0, fx_class, NH_at, NH_put, ↓reduceIte, List.mem_cons, List.not_mem_nil, or_false, or_self, false_or, true_and, and_true, Nat.reduceEqDiff, reduceCtorEq, List.length_cons, List.length_nil, Nat.reduceAdd, Nat.reduceLeDiff, Nat.reduceSub, Nat.reduceLT, Nat.zero_le, Nat.zero_add, forall_const, not_true_eq_false, not_false_eq_true, false_implies, true_implies, implies_true, Nat.zero_lt_succ, am_z0, am_z1]
  simp (disch := omega) only [hs_at, hs_put, hs_63, NH_at, NH_put, NH_cpy, ni_add, ni_mul, ni_clamp, ni_in, ni_eq, ni_lt, ni_le, ni_sub, Nat.reduceAdd, Nat.reduceMul, Nat.reduceSub, eq_self, true_implies, not_true_eq_false, false_implies, and_true, true_and, not_false_eq_true, Nat.reduceEqDiff, Nat.reduceLeDiff, Nat.reduceLT, implies_true, ite_true, ite_false, h0']
  refine c_within (fun z => ?_) (fun z => ?_)
  · rw [isB_c (by omega)] at z
    obtain ⟨k, hk, rfl⟩ := z
    simp (disch := omega) only [hs_at, hs_put, hs_63, NH_at, NH_put, NH_cpy, ni_add, ni_mul, ni_clamp, ni_in, ni_eq, ni_lt, ni_le, ni_sub, Nat.reduceAdd, Nat.reduceMul, Nat.reduceSub, eq_self, true_implies, not_true_eq_false, false_implies, and_true, true_and, not_false_eq_true, Nat.reduceEqDiff, Nat.reduceLeDiff, Nat.reduceLT, implies_true, ite_true, ite_false]
    exact h1 k (by omega) rfl
  · rw [isB_c (by omega)] at z
    simp (disch := omega) only [hs_at, hs_put, hs_63, NH_at, NH_put, NH_cpy, ni_add, ni_mul, ni_clamp, ni_in, ni_eq, ni_lt, ni_le, ni_sub, Nat.reduceAdd, Nat.reduceMul, Nat.reduceSub, eq_self, true_implies, not_true_eq_false, false_implies, and_true, true_and, not_false_eq_true, Nat.reduceEqDiff, Nat.reduceLeDiff, Nat.reduceLT, implies_true, ite_true, ite_false]
    exact h0 z
end TAPE
