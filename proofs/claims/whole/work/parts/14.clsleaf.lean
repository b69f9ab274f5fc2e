/-! ===== part 14: the class's leaves, over the whole heap as naturals ===== -/
def NH (c : Nat → Nat → Nat) : am_H := fun o k => nI (c o k)
def cup (c : Nat → Nat → Nat) (o k v : Nat) : Nat → Nat → Nat := fun q => if q = o then nup (c o) k v else c q
theorem cup_self (c : Nat → Nat → Nat) (o k v : Nat) : cup c o k v o = nup (c o) k v := if_pos rfl
theorem cup_ne (c : Nat → Nat → Nat) {o q : Nat} (k v : Nat) (h : q ≠ o) : cup c o k v q = c q := if_neg h
theorem NH_at (c : Nat → Nat → Nat) (o k : Nat) : NH c o k = nI (c o k) := rfl
theorem NH_put (c : Nat → Nat → Nat) (o k v : Nat) : am_upd (NH c) o k (nI v) = NH (cup c o k v) := by
  funext q
  by_cases hq : q = o
  · subst hq
    rw [am_upd_self]
    funext j
    simp only [upd, NH, cup_self, nup]
    by_cases hj : j = k
    · rw [if_pos hj, if_pos hj]
    · rw [if_neg hj, if_neg hj]
  · rw [am_upd_ne _ _ _ hq]
    funext j
    simp only [NH, cup_ne c k v hq]
def ncpy (f f2 : Nat → Nat) (sp dp n : Nat) : Nat → Nat := fun k => if dp ≤ k ∧ k < dp + n then f (sp + (k - dp)) else f2 k
def ccp (c : Nat → Nat → Nat) (o sp q dp n : Nat) : Nat → Nat → Nat := fun z => if z = q then ncpy (c o) (c q) sp dp n else c z
theorem NH_cpy (c : Nat → Nat → Nat) (o sp q dp n : Nat) : am_cpy (NH c) o sp q dp n = NH (ccp c o sp q dp n) := by
  funext z
  simp only [am_cpy, ccp]
  by_cases hz : z = q
  · subst hz
    rw [if_pos rfl]
    funext k
    simp only [va_cpy, NH, ccp, if_true, ncpy]
    by_cases hk : dp ≤ k ∧ k < dp + n
    · rw [if_pos hk, if_pos hk]
    · rw [if_neg hk, if_neg hk]
  · rw [if_neg hz]
    funext k
    simp only [NH, ccp, if_neg hz]
theorem ni_all (v : Int32) : ∃ n, n < 4294967296 ∧ v = nI n := by
  refine ⟨v.toBitVec.toNat, v.toBitVec.isLt, ?_⟩
  apply ni_ext
  rw [ni_bv]
  simp
theorem NH_all (h : am_H) : ∃ c : Nat → Nat → Nat, h = NH c ∧ ∀ o k, c o k < 4294967296 := by
  refine ⟨fun o k => (h o k).toBitVec.toNat, ?_, fun o k => (h o k).toBitVec.isLt⟩
  funext o k
  apply ni_ext
  simp [NH, ni_bv]
theorem hs_NH (c : Nat → Nat → Nat) : hs (NH c) (c 64) = NH c := by
  funext o
  by_cases ho : o = 64
  · subst ho; rfl
  · rw [hs_off _ _ ho]
theorem NH_hs (c : Nat → Nat → Nat) (g : Nat → Nat) : hs (NH c) g = NH (fun o => if o = 64 then g else c o) := by
  funext o
  by_cases ho : o = 64
  · subst ho
    funext k
    simp [hs, NH]
  · rw [hs_off _ _ ho]
    funext k
    simp only [NH, if_neg ho]
section CL
variable {E : am_E} {d : Nat} {h : am_H} {Q : Int32 → am_H → Prop} {c : Nat → Nat → Nat}
theorem c_within {v a b : Int32} (h1 : a ≤ v ∧ v ≤ b → Q (nI 1) h) (h0 : ¬ (a ≤ v ∧ v ≤ b) → Q (nI 0) h) : am_C tT E d mX11_within [.inl v, .inl a, .inl b] h Q := by
  refine am_C.of (by decide) (Nat.le_of_ble_eq_true rfl) ?_
  show am_R tT E _ mX11_within _ 0 [some (.inl v), some (.inl a), some (.inl b)] [] h
  refine am_goS gX11_within [] 400 ?_
  simp only [am_eqs, am_eqk, am_eqv, lX11_within_0, fx_class, NH_at, NH_put, ↓reduceIte, List.mem_cons, List.not_mem_nil, or_false, or_self, false_or, true_and, and_true, Nat.reduceEqDiff, reduceCtorEq, List.length_cons, List.length_nil, Nat.reduceAdd, Nat.reduceLeDiff, Nat.reduceSub, Nat.reduceLT, Nat.zero_le, Nat.zero_add, forall_const, not_true_eq_false, not_false_eq_true, false_implies, true_implies, implies_true, Nat.zero_lt_succ, am_z0, am_z1]
  refine ⟨fun c => h0 fun z => ?_, fun c => ⟨fun c2 => h0 fun z => ?_, fun c2 => h1 ⟨Int32.not_lt.mp c, Int32.not_lt.mp c2⟩⟩⟩
  · exact Int32.not_lt.mpr z.1 c
  · exact Int32.not_lt.mpr z.2 c2
theorem c_isPlace {v : Int32} (h1 : isB v 8 → Q (nI 1) h) (h0 : ¬ isB v 8 → Q (nI 0) h) : am_C tT E (d + 1) mX11_isPlace [.inl v] h Q := by
  refine am_C.of (by decide) (Nat.le_of_ble_eq_true rfl) ?_
  show am_R tT E _ mX11_isPlace _ 0 [some (.inl v)] [] h
  refine am_goS gX11_isPlace [] 400 ?_
  simp only [am_eqs, am_eqk, am_eqv, lX11_isPlace_0, fx_class, NH_at, NH_put, ↓reduceIte, List.mem_cons, List.not_mem_nil, or_false, or_self, false_or, true_and, and_true, Nat.reduceEqDiff, reduceCtorEq, List.length_cons, List.length_nil, Nat.reduceAdd, Nat.reduceLeDiff, Nat.reduceSub, Nat.reduceLT, Nat.zero_le, Nat.zero_add, forall_const, not_true_eq_false, not_false_eq_true, false_implies, true_implies, implies_true, Nat.zero_lt_succ, am_z0, am_z1]
  refine c_within (fun c => ?_) (fun c => ?_)
  · exact ⟨Or.inr rfl, h1 ((isB_c (N := 7) (by decide)).mp c)⟩
  · exact ⟨Or.inl rfl, h0 (fun z => c ((isB_c (N := 7) (by decide)).mpr z))⟩
theorem c_isPart {v : Int32} {n : Nat} (hn : n < 1000) (h1 : (∃ k, k < n ∧ v = nI (10 + k)) → Q (nI 1) h) (h0 : ¬ (∃ k, k < n ∧ v = nI (10 + k)) → Q (nI 0) h) : am_C tT E (d + 1) mX11_isPart [.inl v, .inl (nI n)] h Q := by
  refine am_C.of (by decide) (Nat.le_of_ble_eq_true rfl) ?_
  show am_R tT E _ mX11_isPart _ 0 [some (.inl v), some (.inl (nI n))] [] h
  refine am_goS gX11_isPart [] 400 ?_
  simp only [am_eqs, am_eqk, am_eqv, lX11_isPart_0, fx_class, NH_at, NH_put, ↓reduceIte, List.mem_cons, List.not_mem_nil, or_false, or_self, false_or, true_and, and_true, Nat.reduceEqDiff, reduceCtorEq, List.length_cons, List.length_nil, Nat.reduceAdd, Nat.reduceLeDiff, Nat.reduceSub, Nat.reduceLT, Nat.zero_le, Nat.zero_add, forall_const, not_true_eq_false, not_false_eq_true, false_implies, true_implies, implies_true, Nat.zero_lt_succ, am_z0, am_z1]
  simp (disch := omega) only [hs_at, hs_put, hs_63, NH_at, NH_put, NH_cpy, ni_add, ni_mul, ni_clamp, ni_in, ni_eq, ni_lt, ni_le, ni_sub, Nat.reduceAdd, Nat.reduceMul, Nat.reduceSub]
  refine c_within (fun c => ?_) (fun c => ?_)
  · refine ⟨Or.inr rfl, h1 ?_⟩
    obtain ⟨e, hl⟩ := ni_ofInt (Int32.le_trans (show nI 0 ≤ nI 10 by decide) c.1)
    rw [e, ni_le (by omega) (by omega), ni_le (by omega) (by omega)] at c
    exact ⟨v.toInt.toNat - 10, by omega, e.trans (congrArg nI (by omega))⟩
  · refine ⟨Or.inl rfl, h0 ?_⟩
    rintro ⟨k, hk, rfl⟩
    apply c
    rw [ni_le (by omega) (by omega), ni_le (by omega) (by omega)]
    omega
theorem c_isName {v : Int32} (hN : c 1 4 < 2147483648) (h1 : isB v (c 1 4) → Q (nI 1) (NH c)) (h0 : ¬ isB v (c 1 4) → Q (nI 0) (NH c)) : am_C tT E d mX10_isName [.inr 1, .inl v] (NH c) Q := by
  refine am_C.of (by decide) (Nat.le_of_ble_eq_true rfl) ?_
  show am_R tT E _ mX10_isName _ 0 [some (.inr 1), some (.inl v)] [] (NH c)
  refine am_goS gX10_isName [] 400 ?_
  simp only [am_eqs, am_eqk, am_eqv, lX10_isName_0, fx_class, NH_at, NH_put, ↓reduceIte, List.mem_cons, List.not_mem_nil, or_false, or_self, false_or, true_and, and_true, Nat.reduceEqDiff, reduceCtorEq, List.length_cons, List.length_nil, Nat.reduceAdd, Nat.reduceLeDiff, Nat.reduceSub, Nat.reduceLT, Nat.zero_le, Nat.zero_add, forall_const, not_true_eq_false, not_false_eq_true, false_implies, true_implies, implies_true, Nat.zero_lt_succ, am_z0, am_z1]
  refine ⟨fun c1 => h0 fun z => ?_, fun c1 => ⟨fun c2 => h0 fun z => ?_, fun c2 => h1 ((isB_lt hN).mp ⟨Int32.not_lt.mp c1, Int32.not_le.mp c2⟩)⟩⟩
  · exact Int32.not_lt.mpr ((isB_lt hN).mpr z).1 c1
  · exact Int32.not_le.mpr ((isB_lt hN).mpr z).2 c2
theorem c_isPerson {v : Int32} (hN : c 6 0 < 2147483648) (h1 : isB v (c 6 0) → Q (nI 1) (NH c)) (h0 : ¬ isB v (c 6 0) → Q (nI 0) (NH c)) : am_C tT E d mX10_isPerson [.inr 1, .inl v] (NH c) Q := by
  refine am_C.of (by decide) (Nat.le_of_ble_eq_true rfl) ?_
  show am_R tT E _ mX10_isPerson _ 0 [some (.inr 1), some (.inl v)] [] (NH c)
  refine am_goS gX10_isPerson [] 400 ?_
  simp only [am_eqs, am_eqk, am_eqv, lX10_isPerson_0, fx_class, NH_at, NH_put, ↓reduceIte, List.mem_cons, List.not_mem_nil, or_false, or_self, false_or, true_and, and_true, Nat.reduceEqDiff, reduceCtorEq, List.length_cons, List.length_nil, Nat.reduceAdd, Nat.reduceLeDiff, Nat.reduceSub, Nat.reduceLT, Nat.zero_le, Nat.zero_add, forall_const, not_true_eq_false, not_false_eq_true, false_implies, true_implies, implies_true, Nat.zero_lt_succ, am_z0, am_z1]
  refine ⟨fun c1 => h0 fun z => ?_, fun c1 => ⟨fun c2 => h0 fun z => ?_, fun c2 => h1 ((isB_lt hN).mp ⟨Int32.not_lt.mp c1, Int32.not_le.mp c2⟩)⟩⟩
  · exact Int32.not_lt.mpr ((isB_lt hN).mpr z).1 c1
  · exact Int32.not_le.mpr ((isB_lt hN).mpr z).2 c2
theorem c_isBridge {v : Int32} (hN : c 14 0 < 2147483648) (h1 : isB v (c 14 0) → Q (nI 1) (NH c)) (h0 : ¬ isB v (c 14 0) → Q (nI 0) (NH c)) : am_C tT E d mX10_isBridge [.inr 1, .inl v] (NH c) Q := by
  refine am_C.of (by decide) (Nat.le_of_ble_eq_true rfl) ?_
  show am_R tT E _ mX10_isBridge _ 0 [some (.inr 1), some (.inl v)] [] (NH c)
  refine am_goS gX10_isBridge [] 400 ?_
  simp only [am_eqs, am_eqk, am_eqv, lX10_isBridge_0, fx_class, NH_at, NH_put, ↓reduceIte, List.mem_cons, List.not_mem_nil, or_false, or_self, false_or, true_and, and_true, Nat.reduceEqDiff, reduceCtorEq, List.length_cons, List.length_nil, Nat.reduceAdd, Nat.reduceLeDiff, Nat.reduceSub, Nat.reduceLT, Nat.zero_le, Nat.zero_add, forall_const, not_true_eq_false, not_false_eq_true, false_implies, true_implies, implies_true, Nat.zero_lt_succ, am_z0, am_z1]
  refine ⟨fun c1 => h0 fun z => ?_, fun c1 => ⟨fun c2 => h0 fun z => ?_, fun c2 => h1 ((isB_lt hN).mp ⟨Int32.not_lt.mp c1, Int32.not_le.mp c2⟩)⟩⟩
  · exact Int32.not_lt.mpr ((isB_lt hN).mpr z).1 c1
  · exact Int32.not_le.mpr ((isB_lt hN).mpr z).2 c2
theorem c_nameAt {p i : Nat} (hp : p < 8) (hi : i < 9) (hq : Q (nI (c 13 (9 * p + i))) (NH c)) : am_C tT E d mX5_nameAt [.inr 6, .inl (nI p), .inl (nI i)] (NH c) Q := by
  refine am_C.of (by decide) (Nat.le_of_ble_eq_true rfl) ?_
  show am_R tT E _ mX5_nameAt _ 0 [some (.inr 6), some (.inl (nI p)), some (.inl (nI i))] [] (NH c)
  refine am_goS gX5_nameAt [] 400 ?_
  simp only [am_eqs, am_eqk, am_eqv, lX5_nameAt_0, fx_class, NH_at, NH_put, ↓reduceIte, List.mem_cons, List.not_mem_nil, or_false, or_self, false_or, true_and, and_true, Nat.reduceEqDiff, reduceCtorEq, List.length_cons, List.length_nil, Nat.reduceAdd, Nat.reduceLeDiff, Nat.reduceSub, Nat.reduceLT, Nat.zero_le, Nat.zero_add, forall_const, not_true_eq_false, not_false_eq_true, false_implies, true_implies, implies_true, Nat.zero_lt_succ, am_z0, am_z1]
  simp (disch := omega) only [hs_at, hs_put, hs_63, NH_at, NH_put, NH_cpy, ni_add, ni_mul, ni_clamp, ni_in, ni_eq, ni_lt, ni_le, ni_sub, Nat.reduceAdd, Nat.reduceMul, Nat.reduceSub]
  rw [Nat.mul_comm p 9]
  exact ⟨by omega, hq⟩
theorem c_hasName {p n : Nat} (hp : p < 8) (hn : n < 32) (hb : c 11 p < 2147483648) (h1 : c 11 p >>> n &&& 1 = 1 → Q (nI 1) (NH c)) (h0 : c 11 p >>> n &&& 1 = 0 → Q (nI 0) (NH c)) : am_C tT E d mX5_hasName [.inr 6, .inl (nI p), .inl (nI n)] (NH c) Q := by
  refine am_C.of (by decide) (Nat.le_of_ble_eq_true rfl) ?_
  show am_R tT E _ mX5_hasName _ 0 [some (.inr 6), some (.inl (nI p)), some (.inl (nI n))] [] (NH c)
  refine am_goS gX5_hasName [] 400 ?_
  simp only [am_eqs, am_eqk, am_eqv, lX5_hasName_0, fx_class, NH_at, NH_put, ↓reduceIte, List.mem_cons, List.not_mem_nil, or_false, or_self, false_or, true_and, and_true, Nat.reduceEqDiff, reduceCtorEq, List.length_cons, List.length_nil, Nat.reduceAdd, Nat.reduceLeDiff, Nat.reduceSub, Nat.reduceLT, Nat.zero_le, Nat.zero_add, forall_const, not_true_eq_false, not_false_eq_true, false_implies, true_implies, implies_true, Nat.zero_lt_succ, am_z0, am_z1]
  have hb2 := bit01 (c 11 p) n
  simp (disch := omega) only [hs_at, hs_put, hs_63, NH_at, NH_put, NH_cpy, ni_add, ni_mul, ni_clamp, ni_in, ni_eq, ni_lt, ni_le, ni_sub, Nat.reduceAdd, Nat.reduceMul, Nat.reduceSub, ni_shr, ni_and]
  exact ⟨by omega, h0, fun z => h1 (by omega)⟩
theorem c_touches {b pl : Nat} (hb : b < 12) (hpl : pl < 8) (hs1 : c 15 (2 * b) < 8) (hs2 : c 15 (2 * b + 1) < 8) (h1 : c 15 (2 * b) = pl ∨ c 15 (2 * b + 1) = pl → Q (nI 1) (NH c)) (h0 : ¬ (c 15 (2 * b) = pl ∨ c 15 (2 * b + 1) = pl) → Q (nI 0) (NH c)) : am_C tT E d mX2_touches [.inr 14, .inl (nI b), .inl (nI pl)] (NH c) Q := by
  refine am_C.of (by decide) (Nat.le_of_ble_eq_true rfl) ?_
  show am_R tT E _ mX2_touches _ 0 [some (.inr 14), some (.inl (nI b)), some (.inl (nI pl))] [] (NH c)
  refine am_goS gX2_touches [] 400 ?_
  simp only [am_eqs, am_eqk, am_eqv, lX2_touches_0, fx_class, NH_at, NH_put, ↓reduceIte, List.mem_cons, List.not_mem_nil, or_false, or_self, false_or, true_and, and_true, Nat.reduceEqDiff, reduceCtorEq, List.length_cons, List.length_nil, Nat.reduceAdd, Nat.reduceLeDiff, Nat.reduceSub, Nat.reduceLT, Nat.zero_le, Nat.zero_add, forall_const, not_true_eq_false, not_false_eq_true, false_implies, true_implies, implies_true, Nat.zero_lt_succ, am_z0, am_z1]
  simp (disch := omega) only [hs_at, hs_put, hs_63, NH_at, NH_put, NH_cpy, ni_add, ni_mul, ni_clamp, ni_in, ni_eq, ni_lt, ni_le, ni_sub, Nat.reduceAdd, Nat.reduceMul, Nat.reduceSub]
  refine ⟨by omega, fun z => h1 (Or.inl z), fun z => ⟨by omega, fun z2 => h1 (Or.inr z2), fun z2 => h0 (fun q => ?_)⟩⟩
  rcases q with q | q
  · exact z q
  · exact z2 q
theorem c_across {b pl : Nat} (hb : b < 12) (hpl : pl < 8) (hs1 : c 15 (2 * b) < 8) (hs2 : c 15 (2 * b + 1) < 8) (hq : Q (nI (if c 15 (2 * b) = pl then c 15 (2 * b + 1) else c 15 (2 * b))) (NH c)) : am_C tT E d mX2_across [.inr 14, .inl (nI b), .inl (nI pl)] (NH c) Q := by
  refine am_C.of (by decide) (Nat.le_of_ble_eq_true rfl) ?_
  show am_R tT E _ mX2_across _ 0 [some (.inr 14), some (.inl (nI b)), some (.inl (nI pl))] [] (NH c)
  refine am_goS gX2_across [] 400 ?_
  simp only [am_eqs, am_eqk, am_eqv, lX2_across_0, fx_class, NH_at, NH_put, ↓reduceIte, List.mem_cons, List.not_mem_nil, or_false, or_self, false_or, true_and, and_true, Nat.reduceEqDiff, reduceCtorEq, List.length_cons, List.length_nil, Nat.reduceAdd, Nat.reduceLeDiff, Nat.reduceSub, Nat.reduceLT, Nat.zero_le, Nat.zero_add, forall_const, not_true_eq_false, not_false_eq_true, false_implies, true_implies, implies_true, Nat.zero_lt_succ, am_z0, am_z1]
  simp (disch := omega) only [hs_at, hs_put, hs_63, NH_at, NH_put, NH_cpy, ni_add, ni_mul, ni_clamp, ni_in, ni_eq, ni_lt, ni_le, ni_sub, Nat.reduceAdd, Nat.reduceMul, Nat.reduceSub]
  refine ⟨by omega, fun z => ⟨by omega, ?_⟩, fun z => ⟨by omega, ?_⟩⟩
  · rw [if_pos z] at hq; exact hq
  · rw [if_neg z] at hq; exact hq
theorem c_keptOf {b n : Nat} (hb : b < 12) (hn : n < 20) (hq : Q (nI (c 16 (20 * b + n))) (NH c)) : am_C tT E d mX2_keptOf [.inr 14, .inl (nI b), .inl (nI n)] (NH c) Q := by
  refine am_C.of (by decide) (Nat.le_of_ble_eq_true rfl) ?_
  show am_R tT E _ mX2_keptOf _ 0 [some (.inr 14), some (.inl (nI b)), some (.inl (nI n))] [] (NH c)
  refine am_goS gX2_keptOf [] 400 ?_
  simp only [am_eqs, am_eqk, am_eqv, lX2_keptOf_0, fx_class, NH_at, NH_put, ↓reduceIte, List.mem_cons, List.not_mem_nil, or_false, or_self, false_or, true_and, and_true, Nat.reduceEqDiff, reduceCtorEq, List.length_cons, List.length_nil, Nat.reduceAdd, Nat.reduceLeDiff, Nat.reduceSub, Nat.reduceLT, Nat.zero_le, Nat.zero_add, forall_const, not_true_eq_false, not_false_eq_true, false_implies, true_implies, implies_true, Nat.zero_lt_succ, am_z0, am_z1]
  simp (disch := omega) only [hs_at, hs_put, hs_63, NH_at, NH_put, NH_cpy, ni_add, ni_mul, ni_clamp, ni_in, ni_eq, ni_lt, ni_le, ni_sub, Nat.reduceAdd, Nat.reduceMul, Nat.reduceSub]
  rw [Nat.mul_comm b 20]
  exact ⟨by omega, hq⟩
end CL
