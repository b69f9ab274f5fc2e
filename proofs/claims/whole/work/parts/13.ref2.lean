/-! ===== part 13: the reference: coming, losing, counting, laying aside ===== -/
section RL2
variable {E : am_E} {d : Nat} {h : am_H} {Q : Int32 → am_H → Prop} {g : Nat → Nat}
def comG (g : Nat → Nat) (p n : Nat) : Nat → Nat := nup (nup g (90 + 16 * p + (5 + og g p 2)) n) (90 + 16 * p + 2) (og g p 2 + 1)
theorem r_comes {p n : Nat} (hp : p < 8) (hm : og g p 2 ≤ 9) (hq : Q 0 (hs h (comG g p n))) : am_C tT E (d + 1) mX12_comes [.inr 63, .inl (nI p), .inl (nI n)] (hs h g) Q := by
  refine am_C.of (by decide) (Nat.le_of_ble_eq_true rfl) ?_
  show am_R tT E _ mX12_comes _ 0 [some (.inr 63), some (.inl (nI p)), some (.inl (nI n))] [] (hs h g)
  refine am_goS gX12_comes [] 400 ?_
  simp only [am_eqs, am_eqk, am_eqv, lX12_comes_0, fx_ref, ↓reduceIte, List.mem_cons, List.not_mem_nil, or_false, or_self, false_or, true_and, and_true, Nat.reduceEqDiff, reduceCtorEq, List.length_cons, List.length_nil, Nat.reduceAdd, Nat.reduceLeDiff, Nat.reduceSub, Nat.reduceLT, Nat.zero_le, Nat.zero_add, forall_const, not_true_eq_false, not_false_eq_true, false_implies, true_implies, implies_true, Nat.zero_lt_succ, am_z0, am_z1]
  refine r_own hp (by omega) ?_
  simp (disch := omega) only [hs_at, hs_put, hs_63, ni_add, ni_mul, ni_clamp, ni_in, ni_eq, ni_lt, ni_le, ni_sub, Nat.reduceAdd, Nat.reduceMul, Nat.reduceSub]
  refine r_gives hp (by omega) ?_
  refine r_own hp (by omega) ?_
  have e : og (nup g (90 + 16 * p + (5 + og g p 2)) n) p 2 = og g p 2 := nup_ne g n (by omega)
  rw [e]
  simp (disch := omega) only [hs_at, hs_put, hs_63, ni_add, ni_mul, ni_clamp, ni_in, ni_eq, ni_lt, ni_le, ni_sub, Nat.reduceAdd, Nat.reduceMul, Nat.reduceSub]
  exact r_gives hp (by omega) hq
theorem r_canHave {p n : Nat} (hp : p < 8) (hn : n < 2147483648) (hm : og g p 2 ≤ 9) (hb : ∀ i, i < og g p 2 → og g p (5 + i) < 2147483648) (h1 : og g p 2 < 9 ∧ ¬ hasN g p n → Q (nI 1) (hs h g)) (h0 : ¬ (og g p 2 < 9 ∧ ¬ hasN g p n) → Q (nI 0) (hs h g)) : am_C tT E (d + 2) mX12_canHave [.inr 63, .inl (nI p), .inl (nI n)] (hs h g) Q := by
  refine am_C.of (by decide) (Nat.le_of_ble_eq_true rfl) ?_
  show am_R tT E _ mX12_canHave _ 0 [some (.inr 63), some (.inl (nI p)), some (.inl (nI n))] [] (hs h g)
  refine am_goS gX12_canHave [] 400 ?_
  simp only [am_eqs, am_eqk, am_eqv, lX12_canHave_0, fx_ref, ↓reduceIte, List.mem_cons, List.not_mem_nil, or_false, or_self, false_or, true_and, and_true, Nat.reduceEqDiff, reduceCtorEq, List.length_cons, List.length_nil, Nat.reduceAdd, Nat.reduceLeDiff, Nat.reduceSub, Nat.reduceLT, Nat.zero_le, Nat.zero_add, forall_const, not_true_eq_false, not_false_eq_true, false_implies, true_implies, implies_true, Nat.zero_lt_succ, am_z0, am_z1]
  refine r_own hp (by omega) ?_
  simp (disch := omega) only [hs_at, hs_put, hs_63, ni_add, ni_mul, ni_clamp, ni_in, ni_eq, ni_lt, ni_le, ni_sub, Nat.reduceAdd, Nat.reduceMul, Nat.reduceSub]
  refine ⟨fun c => h0 (by omega), fun c => ?_⟩
  refine r_has hp hn hm hb (fun z => ?_) (fun z => ?_)
  · simp (disch := omega) only [hs_at, hs_put, hs_63, ni_add, ni_mul, ni_clamp, ni_in, ni_eq, ni_lt, ni_le, ni_sub, Nat.reduceAdd, Nat.reduceMul, Nat.reduceSub, eq_self, true_implies, not_true_eq_false, false_implies, and_true, true_and, not_false_eq_true, Nat.reduceEqDiff, Nat.reduceLeDiff, Nat.reduceLT, implies_true, ite_true, ite_false]
    exact h0 (fun z2 => z2.2 z)
  · simp (disch := omega) only [hs_at, hs_put, hs_63, ni_add, ni_mul, ni_clamp, ni_in, ni_eq, ni_lt, ni_le, ni_sub, Nat.reduceAdd, Nat.reduceMul, Nat.reduceSub, eq_self, true_implies, not_true_eq_false, false_implies, and_true, true_and, not_false_eq_true, Nat.reduceEqDiff, Nat.reduceLeDiff, Nat.reduceLT, implies_true, ite_true, ite_false]
    exact h1 ⟨by omega, z⟩
/-- the row of p without its place o -/
def losG (g : Nat → Nat) (p o : Nat) : Nat → Nat := fun j => if j = 92 + 16 * p then og g p 2 - 1 else if 95 + 16 * p + o ≤ j ∧ j < 95 + 16 * p + (og g p 2 - 1) then g (j + 1) else g j
def losK (g : Nat → Nat) (p o i : Nat) : Nat → Nat := fun j => if 95 + 16 * p + o ≤ j ∧ j + 1 < 95 + 16 * p + i then g (j + 1) else g j
theorem r_loses {p o : Nat} (hp : p < 8) (hm : og g p 2 ≤ 9) (ho : o < og g p 2) (hq : Q 0 (hs h (losG g p o))) : am_C tT E (d + 1) mX12_loses [.inr 63, .inl (nI p), .inl (nI o)] (hs h g) Q := by
  refine am_C.of (by decide) (Nat.le_of_ble_eq_true rfl) ?_
  show am_R tT E _ mX12_loses _ 0 [some (.inr 63), some (.inl (nI p)), some (.inl (nI o)), none] [] (hs h g)
  refine am_goS gX12_loses [4] 400 ?_
  simp only [am_eqs, am_eqk, am_eqv, lX12_loses_0, lX12_loses_1, fx_ref, ↓reduceIte, List.mem_cons, List.not_mem_nil, or_false, or_self, false_or, true_and, and_true, Nat.reduceEqDiff, reduceCtorEq, List.length_cons, List.length_nil, Nat.reduceAdd, Nat.reduceLeDiff, Nat.reduceSub, Nat.reduceLT, Nat.zero_le, Nat.zero_add, forall_const, not_true_eq_false, not_false_eq_true, false_implies, true_implies, implies_true, Nat.zero_lt_succ, am_z0, am_z1]
  simp (disch := omega) only [hs_at, hs_put, hs_63, ni_add, ni_mul, ni_clamp, ni_in, ni_eq, ni_lt, ni_le, ni_sub, Nat.reduceAdd, Nat.reduceMul, Nat.reduceSub]
  have hmK : ∀ i, og (losK g p o i) p 2 = og g p 2 := fun i => if_neg (by omega)
  have loop : ∀ k i, i + k = og g p 2 → o < i → am_R tT E (d + 1) mX12_loses Q 4 [some (.inr 63), some (.inl (nI p)), some (.inl (nI o)), some (.inl (nI i))] [] (hs h (losK g p o i)) := by
    intro k
    induction k with
    | zero =>
      intro i hi hoi
      refine am_goS gX12_loses [4] 400 ?_
      simp only [am_eqs, am_eqk, am_eqv, lX12_loses_0, lX12_loses_1, fx_ref, ↓reduceIte, List.mem_cons, List.not_mem_nil, or_false, or_self, false_or, true_and, and_true, Nat.reduceEqDiff, reduceCtorEq, List.length_cons, List.length_nil, Nat.reduceAdd, Nat.reduceLeDiff, Nat.reduceSub, Nat.reduceLT, Nat.zero_le, Nat.zero_add, forall_const, not_true_eq_false, not_false_eq_true, false_implies, true_implies, implies_true, Nat.zero_lt_succ, am_z0, am_z1]
      refine r_own hp (by omega) ?_
      rw [hmK]
      simp (disch := omega) only [hs_at, hs_put, hs_63, ni_add, ni_mul, ni_clamp, ni_in, ni_eq, ni_lt, ni_le, ni_sub, Nat.reduceAdd, Nat.reduceMul, Nat.reduceSub]
      refine ⟨fun _ => ?_, fun c => absurd c (by omega)⟩
      refine r_own hp (by omega) ?_
      rw [hmK]
      simp (disch := omega) only [hs_at, hs_put, hs_63, ni_add, ni_mul, ni_clamp, ni_in, ni_eq, ni_lt, ni_le, ni_sub, Nat.reduceAdd, Nat.reduceMul, Nat.reduceSub]
      refine r_gives hp (by omega) ?_
      have e : nup (losK g p o i) (90 + 16 * p + 2) (og g p 2 - 1) = losG g p o := by
        funext j
        simp only [nup, losK, losG]
        rw [show 90 + 16 * p + 2 = 92 + 16 * p by omega]
        by_cases hj : j = 92 + 16 * p
        · rw [if_pos hj, if_pos hj]
        · rw [if_neg hj, if_neg hj]
          by_cases hc : 95 + 16 * p + o ≤ j ∧ j + 1 < 95 + 16 * p + i
          · rw [if_pos hc, if_pos (by omega)]
          · rw [if_neg hc, if_neg (by omega)]
      rw [e]
      exact hq
    | succ k ih =>
      intro i hi hoi
      refine am_goS gX12_loses [4] 400 ?_
      simp only [am_eqs, am_eqk, am_eqv, lX12_loses_0, lX12_loses_1, fx_ref, ↓reduceIte, List.mem_cons, List.not_mem_nil, or_false, or_self, false_or, true_and, and_true, Nat.reduceEqDiff, reduceCtorEq, List.length_cons, List.length_nil, Nat.reduceAdd, Nat.reduceLeDiff, Nat.reduceSub, Nat.reduceLT, Nat.zero_le, Nat.zero_add, forall_const, not_true_eq_false, not_false_eq_true, false_implies, true_implies, implies_true, Nat.zero_lt_succ, am_z0, am_z1]
      refine r_own hp (by omega) ?_
      rw [hmK]
      simp (disch := omega) only [hs_at, hs_put, hs_63, ni_add, ni_mul, ni_clamp, ni_in, ni_eq, ni_lt, ni_le, ni_sub, Nat.reduceAdd, Nat.reduceMul, Nat.reduceSub]
      refine ⟨fun c => absurd c (by omega), fun _ => ?_⟩
      refine r_own hp (by omega) ?_
      refine r_gives hp (by omega) ?_
      have e : nup (losK g p o i) (90 + 16 * p + (5 + i - 1)) (og (losK g p o i) p (5 + i)) = losK g p o (i + 1) := by
        funext j
        simp only [nup, losK, og]
        by_cases hj : j = 90 + 16 * p + (5 + i - 1)
        · rw [if_pos hj, if_neg (by omega), if_pos (by omega)]
          congr 1
          omega
        · rw [if_neg hj]
          by_cases hc : 95 + 16 * p + o ≤ j ∧ j + 1 < 95 + 16 * p + i
          · rw [if_pos hc, if_pos (by omega)]
          · rw [if_neg hc, if_neg (by omega)]
      rw [e]
      exact ih (i + 1) (by omega) (by omega)
  have e0 : losK g p o (o + 1) = g := by
    funext j
    exact if_neg (by omega)
  have := loop (og g p 2 - (o + 1)) (o + 1) (by omega) (by omega)
  rw [e0] at this
  exact this
/-- how many of the lowest k bits are set -/
def cntK (s : Nat) : Nat → Nat
  | 0 => 0
  | k + 1 => cntK s k + (s >>> k &&& 1)
theorem r_count {s : Nat} (hs2 : s < 2147483648) (hq : Q (nI (cntK s 20)) h) : am_C tT E d mX12_count [.inl (nI s)] h Q := by
  refine am_C.of (by decide) (Nat.le_of_ble_eq_true rfl) ?_
  show am_R tT E _ mX12_count _ 0 [some (.inl (nI s)), none, none] [] h
  refine am_goS gX12_count [4] 400 ?_
  simp only [am_eqs, am_eqk, am_eqv, lX12_count_0, fx_ref, ↓reduceIte, List.mem_cons, List.not_mem_nil, or_false, or_self, false_or, true_and, and_true, Nat.reduceEqDiff, reduceCtorEq, List.length_cons, List.length_nil, Nat.reduceAdd, Nat.reduceLeDiff, Nat.reduceSub, Nat.reduceLT, Nat.zero_le, Nat.zero_add, forall_const, not_true_eq_false, not_false_eq_true, false_implies, true_implies, implies_true, Nat.zero_lt_succ, am_z0, am_z1]
  have loop : ∀ k i, i + k = 20 → am_R tT E d mX12_count Q 4 [some (.inl (nI s)), some (.inl (nI (cntK s i))), some (.inl (nI i))] [] h := by
    intro k
    induction k with
    | zero =>
      intro i hi
      refine am_goS gX12_count [4] 400 ?_
      simp only [am_eqs, am_eqk, am_eqv, lX12_count_0, fx_ref, ↓reduceIte, List.mem_cons, List.not_mem_nil, or_false, or_self, false_or, true_and, and_true, Nat.reduceEqDiff, reduceCtorEq, List.length_cons, List.length_nil, Nat.reduceAdd, Nat.reduceLeDiff, Nat.reduceSub, Nat.reduceLT, Nat.zero_le, Nat.zero_add, forall_const, not_true_eq_false, not_false_eq_true, false_implies, true_implies, implies_true, Nat.zero_lt_succ, am_z0, am_z1]
      simp (disch := omega) only [hs_at, hs_put, hs_63, ni_add, ni_mul, ni_clamp, ni_in, ni_eq, ni_lt, ni_le, ni_sub, Nat.reduceAdd, Nat.reduceMul, Nat.reduceSub]
      have e : i = 20 := by omega
      refine ⟨fun _ => by rw [e]; exact hq, fun c => absurd c (by omega)⟩
    | succ k ih =>
      intro i hi
      refine am_goS gX12_count [4] 400 ?_
      simp only [am_eqs, am_eqk, am_eqv, lX12_count_0, fx_ref, ↓reduceIte, List.mem_cons, List.not_mem_nil, or_false, or_self, false_or, true_and, and_true, Nat.reduceEqDiff, reduceCtorEq, List.length_cons, List.length_nil, Nat.reduceAdd, Nat.reduceLeDiff, Nat.reduceSub, Nat.reduceLT, Nat.zero_le, Nat.zero_add, forall_const, not_true_eq_false, not_false_eq_true, false_implies, true_implies, implies_true, Nat.zero_lt_succ, am_z0, am_z1]
      simp (disch := omega) only [hs_at, hs_put, hs_63, ni_add, ni_mul, ni_clamp, ni_in, ni_eq, ni_lt, ni_le, ni_sub, Nat.reduceAdd, Nat.reduceMul, Nat.reduceSub, ni_shr, ni_and]
      refine ⟨fun c => absurd c (by omega), fun _ => ?_⟩
      exact ih (i + 1) (by omega)
  exact loop 20 0 (by omega)
theorem bit01 (s k : Nat) : s >>> k &&& 1 = 0 ∨ s >>> k &&& 1 = 1 := by
  have h := Nat.and_two_pow_sub_one_eq_mod (s >>> k) 1
  rw [show 2 ^ 1 - 1 = 1 from rfl] at h
  omega
theorem cntK_mono (s : Nat) : ∀ i j, i ≤ j → cntK s i ≤ cntK s j := by
  intro i j h
  induction h with
  | refl => exact Nat.le_refl _
  | step h ih => exact Nat.le_trans ih (Nat.le_add_right _ _)
theorem r_nth {s i k : Nat} (hs2 : s < 2147483648) (hk : k < 20) (hb : s >>> k &&& 1 = 1) (hc : cntK s k = i) (hq : Q (nI k) h) : am_C tT E d mX12_nth [.inl (nI s), .inl (nI i)] h Q := by
  refine am_C.of (by decide) (Nat.le_of_ble_eq_true rfl) ?_
  show am_R tT E _ mX12_nth _ 0 [some (.inl (nI s)), some (.inl (nI i)), none, none] [] h
  refine am_goS gX12_nth [4] 400 ?_
  simp only [am_eqs, am_eqk, am_eqv, lX12_nth_0, fx_ref, ↓reduceIte, List.mem_cons, List.not_mem_nil, or_false, or_self, false_or, true_and, and_true, Nat.reduceEqDiff, reduceCtorEq, List.length_cons, List.length_nil, Nat.reduceAdd, Nat.reduceLeDiff, Nat.reduceSub, Nat.reduceLT, Nat.zero_le, Nat.zero_add, forall_const, not_true_eq_false, not_false_eq_true, false_implies, true_implies, implies_true, Nat.zero_lt_succ, am_z0, am_z1]
  have hi20 : i ≤ 20 := by
    have : ∀ j, cntK s j ≤ j := by
      intro j
      induction j with
      | zero => exact Nat.le_refl _
      | succ j ih =>
        simp only [cntK]
        rcases bit01 s j with e | e <;> omega
    have := this k
    omega
  have loop : ∀ n j, j + n = k → am_R tT E d mX12_nth Q 4 [some (.inl (nI s)), some (.inl (nI i)), some (.inl (nI (i - cntK s j))), some (.inl (nI j))] [] h := by
    intro n
    induction n with
    | zero =>
      intro j hj
      have e : j = k := by omega
      subst e
      refine am_goS gX12_nth [4] 400 ?_
      simp only [am_eqs, am_eqk, am_eqv, lX12_nth_0, fx_ref, ↓reduceIte, List.mem_cons, List.not_mem_nil, or_false, or_self, false_or, true_and, and_true, Nat.reduceEqDiff, reduceCtorEq, List.length_cons, List.length_nil, Nat.reduceAdd, Nat.reduceLeDiff, Nat.reduceSub, Nat.reduceLT, Nat.zero_le, Nat.zero_add, forall_const, not_true_eq_false, not_false_eq_true, false_implies, true_implies, implies_true, Nat.zero_lt_succ, am_z0, am_z1]
      simp (disch := omega) only [hs_at, hs_put, hs_63, ni_add, ni_mul, ni_clamp, ni_in, ni_eq, ni_lt, ni_le, ni_sub, Nat.reduceAdd, Nat.reduceMul, Nat.reduceSub, ni_shr, ni_and]
      refine ⟨fun c => by omega, fun _ => ⟨fun _ => hq, fun c => by omega⟩⟩
    | succ n ih =>
      intro j hj
      have hm := cntK_mono s (j + 1) k (by omega)
      have hm0 := cntK_mono s j (j + 1) (by omega)
      have hc1 : cntK s (j + 1) = cntK s j + (s >>> j &&& 1) := rfl
      refine am_goS gX12_nth [4] 400 ?_
      simp only [am_eqs, am_eqk, am_eqv, lX12_nth_0, fx_ref, ↓reduceIte, List.mem_cons, List.not_mem_nil, or_false, or_self, false_or, true_and, and_true, Nat.reduceEqDiff, reduceCtorEq, List.length_cons, List.length_nil, Nat.reduceAdd, Nat.reduceLeDiff, Nat.reduceSub, Nat.reduceLT, Nat.zero_le, Nat.zero_add, forall_const, not_true_eq_false, not_false_eq_true, false_implies, true_implies, implies_true, Nat.zero_lt_succ, am_z0, am_z1]
      simp (disch := omega) only [hs_at, hs_put, hs_63, ni_add, ni_mul, ni_clamp, ni_in, ni_eq, ni_lt, ni_le, ni_sub, Nat.reduceAdd, Nat.reduceMul, Nat.reduceSub, ni_shr, ni_and]
      have hnext : am_R tT E d mX12_nth Q 4 [some (.inl (nI s)), some (.inl (nI i)), some (.inl (nI (i - cntK s j - (s >>> j &&& 1)))), some (.inl (nI (j + 1)))] [] h := by
        have := ih (j + 1) (by omega)
        rw [hc1, ← Nat.sub_sub] at this
        exact this
      refine ⟨fun _ => hnext, fun c => ⟨fun c2 => ?_, fun _ => hnext⟩⟩
      exfalso
      rcases bit01 s j with e | e <;> omega
  exact loop k 0 (by omega)
/-- what moves, laid aside and put back -/
theorem r_laysAside {deep : Nat} (hd : deep < 9) (hq : ∀ h' : am_H, (∀ o, o ≠ 67 → h' o = h o) → (∀ k, k < 370 → h' 67 (370 * deep + k) = nI (g (90 + k))) → (∀ j, j < 370 * deep ∨ 370 * deep + 370 ≤ j → h' 67 j = h 67 j) → Q 0 (hs h' g)) : am_C tT E d mX12_laysAside [.inr 63, .inl (nI deep)] (hs h g) Q := by
  refine am_C.of (by decide) (Nat.le_of_ble_eq_true rfl) ?_
  show am_R tT E _ mX12_laysAside _ 0 [some (.inr 63), some (.inl (nI deep)), none] [] (hs h g)
  refine am_goS gX12_laysAside [2] 400 ?_
  simp only [am_eqs, am_eqk, am_eqv, lX12_laysAside_0, fx_ref, ↓reduceIte, List.mem_cons, List.not_mem_nil, or_false, or_self, false_or, true_and, and_true, Nat.reduceEqDiff, reduceCtorEq, List.length_cons, List.length_nil, Nat.reduceAdd, Nat.reduceLeDiff, Nat.reduceSub, Nat.reduceLT, Nat.zero_le, Nat.zero_add, forall_const, not_true_eq_false, not_false_eq_true, false_implies, true_implies, implies_true, Nat.zero_lt_succ, am_z0, am_z1]
  have loop : ∀ k i (h1 : am_H), i + k = 370 → (∀ o, o ≠ 67 → h1 o = h o) → (∀ k, k < i → h1 67 (370 * deep + k) = nI (g (90 + k))) → (∀ j, j < 370 * deep ∨ 370 * deep + 370 ≤ j → h1 67 j = h 67 j) → am_R tT E d mX12_laysAside Q 2 [some (.inr 63), some (.inl (nI deep)), some (.inl (nI i))] [] (hs h1 g) := by
    intro k
    induction k with
    | zero =>
      intro i h1 hi e1 e2 e3
      refine am_goS gX12_laysAside [2] 400 ?_
      simp only [am_eqs, am_eqk, am_eqv, lX12_laysAside_0, fx_ref, ↓reduceIte, List.mem_cons, List.not_mem_nil, or_false, or_self, false_or, true_and, and_true, Nat.reduceEqDiff, reduceCtorEq, List.length_cons, List.length_nil, Nat.reduceAdd, Nat.reduceLeDiff, Nat.reduceSub, Nat.reduceLT, Nat.zero_le, Nat.zero_add, forall_const, not_true_eq_false, not_false_eq_true, false_implies, true_implies, implies_true, Nat.zero_lt_succ, am_z0, am_z1]
      simp (disch := omega) only [hs_at, hs_put, hs_63, ni_add, ni_mul, ni_clamp, ni_in, ni_eq, ni_lt, ni_le, ni_sub, Nat.reduceAdd, Nat.reduceMul, Nat.reduceSub]
      refine ⟨fun _ => hq h1 e1 (fun k hk => e2 k (by omega)) e3, fun c => absurd c (by omega)⟩
    | succ k ih =>
      intro i h1 hi e1 e2 e3
      refine am_goS gX12_laysAside [2] 400 ?_
      simp only [am_eqs, am_eqk, am_eqv, lX12_laysAside_0, fx_ref, ↓reduceIte, List.mem_cons, List.not_mem_nil, or_false, or_self, false_or, true_and, and_true, Nat.reduceEqDiff, reduceCtorEq, List.length_cons, List.length_nil, Nat.reduceAdd, Nat.reduceLeDiff, Nat.reduceSub, Nat.reduceLT, Nat.zero_le, Nat.zero_add, forall_const, not_true_eq_false, not_false_eq_true, false_implies, true_implies, implies_true, Nat.zero_lt_succ, am_z0, am_z1]
      simp (disch := omega) only [hs_at, hs_put, hs_63, ni_add, ni_mul, ni_clamp, ni_in, ni_eq, ni_lt, ni_le, ni_sub, Nat.reduceAdd, Nat.reduceMul, Nat.reduceSub, hs_upo]
      refine ⟨fun c => absurd c (by omega), fun _ => ⟨by omega, by omega, ?_⟩⟩
      refine ih (i + 1) _ (by omega) (fun o ho => ?_) (fun z hz => ?_) (fun j hj => ?_)
      · rw [am_upd_ne _ _ _ ho]; exact e1 o ho
      · rw [am_upd_self]
        by_cases hzi : z = i
        · rw [hzi]; simp [upd]
        · simp only [upd, if_neg (show ¬ 370 * deep + z = 370 * deep + i by omega)]
          exact e2 z (by omega)
      · rw [am_upd_self]
        simp only [upd, if_neg (show ¬ j = 370 * deep + i by omega)]
        exact e3 j hj
  exact loop 370 0 h (by omega) (fun _ _ => rfl) (fun k hk => absurd hk (by omega)) (fun _ _ => rfl)
def resM (g g0 : Nat → Nat) : Nat → Nat := fun j => if 90 ≤ j ∧ j < 460 then g0 j else g j
theorem r_putsBack {deep : Nat} {g0 : Nat → Nat} (hd : deep < 9) (hl : ∀ k, k < 370 → h 67 (370 * deep + k) = nI (g0 (90 + k))) (hq : Q 0 (hs h (resM g g0))) : am_C tT E d mX12_putsBack [.inr 63, .inl (nI deep)] (hs h g) Q := by
  refine am_C.of (by decide) (Nat.le_of_ble_eq_true rfl) ?_
  show am_R tT E _ mX12_putsBack _ 0 [some (.inr 63), some (.inl (nI deep)), none] [] (hs h g)
  refine am_goS gX12_putsBack [2] 400 ?_
  simp only [am_eqs, am_eqk, am_eqv, lX12_putsBack_0, fx_ref, ↓reduceIte, List.mem_cons, List.not_mem_nil, or_false, or_self, false_or, true_and, and_true, Nat.reduceEqDiff, reduceCtorEq, List.length_cons, List.length_nil, Nat.reduceAdd, Nat.reduceLeDiff, Nat.reduceSub, Nat.reduceLT, Nat.zero_le, Nat.zero_add, forall_const, not_true_eq_false, not_false_eq_true, false_implies, true_implies, implies_true, Nat.zero_lt_succ, am_z0, am_z1]
  have loop : ∀ k i, i + k = 370 → am_R tT E d mX12_putsBack Q 2 [some (.inr 63), some (.inl (nI deep)), some (.inl (nI i))] [] (hs h (fun j => if 90 ≤ j ∧ j < 90 + i then g0 j else g j)) := by
    intro k
    induction k with
    | zero =>
      intro i hi
      refine am_goS gX12_putsBack [2] 400 ?_
      simp only [am_eqs, am_eqk, am_eqv, lX12_putsBack_0, fx_ref, ↓reduceIte, List.mem_cons, List.not_mem_nil, or_false, or_self, false_or, true_and, and_true, Nat.reduceEqDiff, reduceCtorEq, List.length_cons, List.length_nil, Nat.reduceAdd, Nat.reduceLeDiff, Nat.reduceSub, Nat.reduceLT, Nat.zero_le, Nat.zero_add, forall_const, not_true_eq_false, not_false_eq_true, false_implies, true_implies, implies_true, Nat.zero_lt_succ, am_z0, am_z1]
      simp (disch := omega) only [hs_at, hs_put, hs_63, ni_add, ni_mul, ni_clamp, ni_in, ni_eq, ni_lt, ni_le, ni_sub, Nat.reduceAdd, Nat.reduceMul, Nat.reduceSub]
      have e : (fun j => if 90 ≤ j ∧ j < 90 + i then g0 j else g j) = resM g g0 := by
        funext j
        simp only [resM]
        rw [show 90 + i = 460 by omega]
      refine ⟨fun _ => by rw [e]; exact hq, fun c => absurd c (by omega)⟩
    | succ k ih =>
      intro i hi
      refine am_goS gX12_putsBack [2] 400 ?_
      simp only [am_eqs, am_eqk, am_eqv, lX12_putsBack_0, fx_ref, ↓reduceIte, List.mem_cons, List.not_mem_nil, or_false, or_self, false_or, true_and, and_true, Nat.reduceEqDiff, reduceCtorEq, List.length_cons, List.length_nil, Nat.reduceAdd, Nat.reduceLeDiff, Nat.reduceSub, Nat.reduceLT, Nat.zero_le, Nat.zero_add, forall_const, not_true_eq_false, not_false_eq_true, false_implies, true_implies, implies_true, Nat.zero_lt_succ, am_z0, am_z1]
      simp (disch := omega) only [hs_at, hs_put, hs_63, ni_add, ni_mul, ni_clamp, ni_in, ni_eq, ni_lt, ni_le, ni_sub, Nat.reduceAdd, Nat.reduceMul, Nat.reduceSub, hs_off, hl i (show i < 370 by omega)]
      refine ⟨fun c => absurd c (by omega), fun _ => ⟨by omega, by omega, ?_⟩⟩
      have e : nup (fun j => if 90 ≤ j ∧ j < 90 + i then g0 j else g j) (90 + i) (g0 (90 + i)) = (fun j => if 90 ≤ j ∧ j < 90 + (i + 1) then g0 j else g j) := by
        funext j
        simp only [nup]
        by_cases hj : j = 90 + i
        · rw [if_pos hj, if_pos (by omega), hj]
        · rw [if_neg hj]
          by_cases hc : 90 ≤ j ∧ j < 90 + i
          · rw [if_pos hc, if_pos (by omega)]
          · rw [if_neg hc, if_neg (by omega)]
      rw [e]
      exact ih (i + 1) (by omega)
  have e0 : (fun j => if 90 ≤ j ∧ j < 90 + 0 then g0 j else g j) = g := by
    funext j
    exact if_neg (by omega)
  have := loop 370 0 (by omega)
  rw [e0] at this
  exact this
end RL2
