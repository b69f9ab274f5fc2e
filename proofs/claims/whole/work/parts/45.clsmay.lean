/-! ===== part 45: the class: who else has it, may it be left, what is due ===== -/
def RAt (g : Nat → Nat) (c : Nat → Nat → Nat) : Prop := RW g c ∧ RP g c ∧ RK g c
def FT (c c' : Nat → Nat → Nat) : Prop := ∀ o, o ≠ 19 → o ≠ 21 → o ≠ 22 → c' o = c o
theorem FT.trans {c c' c'' : Nat → Nat → Nat} (h1 : FT c c') (h2 : FT c' c'') : FT c c'' := fun o a b e => (h2 o a b e).trans (h1 o a b e)
theorem RAt.ft {g : Nat → Nat} {c c' : Nat → Nat → Nat} (hA : RAt g c) (hf : FT c c') : RAt g c' := by
  obtain ⟨h1, h2, h3⟩ := hA
  refine ⟨?_, ?_, ?_⟩
  · unfold RW at *
    rw [hf 1 (by omega) (by omega) (by omega), hf 2 (by omega) (by omega) (by omega), hf 3 (by omega) (by omega) (by omega), hf 4 (by omega) (by omega) (by omega), hf 5 (by omega) (by omega) (by omega), hf 14 (by omega) (by omega) (by omega), hf 15 (by omega) (by omega) (by omega)]
    exact h1
  · unfold RP at *
    rw [hf 6 (by omega) (by omega) (by omega), hf 7 (by omega) (by omega) (by omega), hf 8 (by omega) (by omega) (by omega), hf 9 (by omega) (by omega) (by omega), hf 11 (by omega) (by omega) (by omega), hf 12 (by omega) (by omega) (by omega), hf 13 (by omega) (by omega) (by omega)]
    exact h2
  · unfold RK at *
    rw [hf 16 (by omega) (by omega) (by omega)]
    exact h3
theorem LC.ft {lw : Lw} {c c' : Nat → Nat → Nat} (hL : LC c lw) (hf : FT c c') : LC c' lw := by
  unfold LC at *
  rw [hf 17 (by omega) (by omega) (by omega), hf 18 (by omega) (by omega) (by omega)]
  exact hL
def VB (x : Nat) (P : Nat → Prop) : Prop := x < 262144 ∧ ∀ o, o < 9 → (x.testBit (2 * o + 1) = true ↔ x.testBit (2 * o) = true ∧ P o)
/-- the verdicts remembered: of bridge, name, count of names, place -/
def VI (V : Nat → Nat → Nat → Nat → Prop) (c : Nat → Nat → Nat) : Prop := c 20 3 = 0 ∨ (c 20 3 = 1 ∧ ∀ b n m, b < 12 → n < 20 → 1 ≤ m → m ≤ 9 → VB (c 22 ((b * 20 + n) * 9 + m - 1)) (V b n m))
theorem and_bit (x k : Nat) : (x &&& 1 <<< k = 0) ↔ x.testBit k = false := by
  constructor
  · intro e
    have : (x &&& 1 <<< k).testBit k = false := by rw [e]; exact Nat.zero_testBit k
    simpa [Nat.testBit_and, Nat.one_shiftLeft, Nat.testBit_two_pow_self] using this
  · intro e
    apply Nat.eq_of_testBit_eq
    intro i
    simp only [Nat.testBit_and, Nat.one_shiftLeft, Nat.testBit_two_pow, Nat.zero_testBit]
    by_cases hi : k = i
    · subst hi; simp [e]
    · simp [hi]
theorem two_shl (k : Nat) : 2 <<< k = 1 <<< (k + 1) := by
  rw [Nat.shiftLeft_eq, Nat.one_shiftLeft, Nat.pow_succ, Nat.mul_comm]
theorem shl_lt18 {k : Nat} (hk : k < 18) : 1 <<< k < 2 ^ 18 := by
  rw [Nat.one_shiftLeft]; exact Nat.pow_lt_pow_right (by omega) hk
theorem VB_yes {x : Nat} {P : Nat → Prop} {o : Nat} (h : VB x P) (ho : o < 9) (hp : P o) : VB (x ||| (1 <<< (2 * o) ||| 2 <<< (2 * o))) P := by
  rw [two_shl]
  refine ⟨?_, fun o' ho' => ?_⟩
  · exact Nat.or_lt_two_pow (n := 18) h.1 (Nat.or_lt_two_pow (shl_lt18 (by omega)) (shl_lt18 (by omega)))
  · have := h.2 o' ho'
    simp only [Nat.testBit_or, Nat.one_shiftLeft, Nat.testBit_two_pow, Bool.or_eq_true, decide_eq_true_eq]
    by_cases e : o' = o
    · subst e; simp [hp]
    · have e1 : ¬ 2 * o = 2 * o' := by omega
      have e2 : ¬ 2 * o + 1 = 2 * o' := by omega
      have e3 : ¬ 2 * o = 2 * o' + 1 := by omega
      have e4 : ¬ 2 * o + 1 = 2 * o' + 1 := by omega
      simp only [e1, e2, e3, e4, or_false]
      exact this
theorem VB_no {x : Nat} {P : Nat → Prop} {o : Nat} (h : VB x P) (ho : o < 9) (hp : ¬ P o) : VB (x ||| 1 <<< (2 * o)) P := by
  refine ⟨?_, fun o' ho' => ?_⟩
  · exact Nat.or_lt_two_pow (n := 18) h.1 (shl_lt18 (by omega))
  · have := h.2 o' ho'
    simp only [Nat.testBit_or, Nat.one_shiftLeft, Nat.testBit_two_pow, Bool.or_eq_true, decide_eq_true_eq]
    have e3 : ¬ 2 * o = 2 * o' + 1 := by omega
    by_cases e : o' = o
    · subst e
      simp only [e3, or_false, or_true, true_and]
      rw [this]
      exact ⟨fun z => z.2, fun z => absurd z hp⟩
    · have e1 : ¬ 2 * o = 2 * o' := by omega
      simp only [e1, e3, or_false]
      exact this
theorem VI.ft {V : Nat → Nat → Nat → Nat → Prop} {c c' : Nat → Nat → Nat} (h : VI V c) (h20 : c' 20 = c 20) (h22 : c' 22 = c 22) : VI V c' := by
  unfold VI at *
  rw [h20, h22]
  exact h
theorem VI_put {V : Nat → Nat → Nat → Nat → Prop} {c : Nat → Nat → Nat} {b n m x : Nat} (h : VI V c) (hb : b < 12) (hn : n < 20) (hm1 : 1 ≤ m) (hm : m ≤ 9) (hx : VB x (V b n m)) : VI V (cup c 22 ((b * 20 + n) * 9 + m - 1) x) := by
  rcases h with h | ⟨h1, h2⟩
  · left; rw [cup_ne _ _ _ (by omega)]; exact h
  · right
    refine ⟨by rw [cup_ne _ _ _ (by omega)]; exact h1, fun b' n' m' hb' hn' hm1' hm' => ?_⟩
    rw [cup_self]
    by_cases e : (b' * 20 + n') * 9 + m' - 1 = (b * 20 + n) * 9 + m - 1
    · have e1 : b' = b := by omega
      have e2 : n' = n := by omega
      have e3 : m' = m := by omega
      subst e1 e2 e3
      rw [nup_self]; exact hx
    · rw [nup_ne _ _ e]; exact h2 b' n' m' hb' hn' hm1' hm'
section CMAY
variable {E : am_E} {d : Nat} {h : am_H} {Q : Int32 → am_H → Prop} {g : Nat → Nat} {c : Nat → Nat → Nat} {t : Nat}
theorem c_othersWith {p n : Nat} (hp : p < g 1) (hn : n < g 0) (hW : WF g t) (hR : RP g c) (hq : Q (nI (likK g p n (g 1))) (NH c)) : am_C tT E (d + 1) mX5_othersWith [.inr 6, .inl (nI p), .inl (nI n)] (NH c) Q := by
  have hW2 := hW
  obtain ⟨⟨w0, w1, -⟩, -⟩ := hW
  have e1 := hR.1
  refine am_C.of (by decide) (Nat.le_of_ble_eq_true rfl) ?_
  show am_R tT E _ mX5_othersWith _ 0 [some (.inr 6), some (.inl (nI p)), some (.inl (nI n)), none, none] [] (NH c)
  refine am_goS gX5_othersWith [5] 400 ?_
  simp only [am_eqs, am_eqk, am_eqv, lX5_othersWith_0, fx_class, NH_at, NH_put, ↓reduceIte, List.mem_cons, List.not_mem_nil, or_false, or_self, false_or, true_and, and_true, Nat.reduceEqDiff, reduceCtorEq, List.length_cons, List.length_nil, Nat.reduceAdd, Nat.reduceLeDiff, Nat.reduceSub, Nat.reduceLT, Nat.zero_le, Nat.zero_add, forall_const, not_true_eq_false, not_false_eq_true, false_implies, true_implies, implies_true, Nat.zero_lt_succ, am_z0, am_z1]
  have loop : ∀ k q, q + k = g 1 → am_R tT E (d + 1) mX5_othersWith Q 5 [some (.inr 6), some (.inl (nI p)), some (.inl (nI n)), some (.inl (nI (likK g p n q))), some (.inl (nI q))] [] (NH c) := by
    intro k
    induction k with
    | zero =>
      intro q hk
      have e : q = g 1 := by omega
      subst e
      refine am_goS gX5_othersWith [5] 400 ?_
      simp only [am_eqs, am_eqk, am_eqv, lX5_othersWith_0, fx_class, NH_at, NH_put, ↓reduceIte, List.mem_cons, List.not_mem_nil, or_false, or_self, false_or, true_and, and_true, Nat.reduceEqDiff, reduceCtorEq, List.length_cons, List.length_nil, Nat.reduceAdd, Nat.reduceLeDiff, Nat.reduceSub, Nat.reduceLT, Nat.zero_le, Nat.zero_add, forall_const, not_true_eq_false, not_false_eq_true, false_implies, true_implies, implies_true, Nat.zero_lt_succ, am_z0, am_z1]
      simp (disch := omega) only [hs_at, hs_put, hs_63, NH_at, NH_put, NH_cpy, ni_add, ni_mul, ni_clamp, ni_in, ni_eq, ni_lt, ni_le, ni_sub, Nat.reduceAdd, Nat.reduceMul, Nat.reduceSub, eq_self, true_implies, not_true_eq_false, false_implies, and_true, true_and, not_false_eq_true, Nat.reduceEqDiff, Nat.reduceLeDiff, Nat.reduceLT, implies_true, ite_true, ite_false, e1]
      exact ⟨fun _ => hq, fun z => absurd (Nat.le_refl _) z⟩
    | succ k ih =>
      intro q hk
      have hnx := ih (q + 1) (by omega)
      have hpe := hW2.p (show q < 8 by omega)
      have hh := had_20 w0 hpe
      have e11 := (hR.2 q (by omega)).2.2.2.1
      have hlk := likK_le g p n q
      refine am_goS gX5_othersWith [5] 400 ?_
      simp only [am_eqs, am_eqk, am_eqv, lX5_othersWith_0, fx_class, NH_at, NH_put, ↓reduceIte, List.mem_cons, List.not_mem_nil, or_false, or_self, false_or, true_and, and_true, Nat.reduceEqDiff, reduceCtorEq, List.length_cons, List.length_nil, Nat.reduceAdd, Nat.reduceLeDiff, Nat.reduceSub, Nat.reduceLT, Nat.zero_le, Nat.zero_add, forall_const, not_true_eq_false, not_false_eq_true, false_implies, true_implies, implies_true, Nat.zero_lt_succ, am_z0, am_z1]
      simp (disch := omega) only [hs_at, hs_put, hs_63, NH_at, NH_put, NH_cpy, ni_add, ni_mul, ni_clamp, ni_in, ni_eq, ni_lt, ni_le, ni_sub, Nat.reduceAdd, Nat.reduceMul, Nat.reduceSub, eq_self, true_implies, not_true_eq_false, false_implies, and_true, true_and, not_false_eq_true, Nat.reduceEqDiff, Nat.reduceLeDiff, Nat.reduceLT, implies_true, ite_true, ite_false, e1]
      refine ⟨fun z => absurd z (by omega), fun _ => ⟨fun e => ?_, fun e => ?_⟩⟩
      · rw [likK, cif_neg (fun y => y.1 e)] at hnx
        exact hnx
      · refine c_hasName (by omega) (by omega) (by omega) (fun y => ?_) (fun y => ?_)
        · rw [e11] at y
          simp (disch := omega) only [hs_at, hs_put, hs_63, NH_at, NH_put, NH_cpy, ni_add, ni_mul, ni_clamp, ni_in, ni_eq, ni_lt, ni_le, ni_sub, Nat.reduceAdd, Nat.reduceMul, Nat.reduceSub, eq_self, true_implies, not_true_eq_false, false_implies, and_true, true_and, not_false_eq_true, Nat.reduceEqDiff, Nat.reduceLeDiff, Nat.reduceLT, implies_true, ite_true, ite_false]
          rw [likK, cif_pos ⟨e, (had_bit g q n).mp y⟩] at hnx
          exact hnx
        · rw [e11] at y
          simp (disch := omega) only [hs_at, hs_put, hs_63, NH_at, NH_put, NH_cpy, ni_add, ni_mul, ni_clamp, ni_in, ni_eq, ni_lt, ni_le, ni_sub, Nat.reduceAdd, Nat.reduceMul, Nat.reduceSub, eq_self, true_implies, not_true_eq_false, false_implies, and_true, true_and, not_false_eq_true, Nat.reduceEqDiff, Nat.reduceLeDiff, Nat.reduceLT, implies_true, ite_true, ite_false]
          rw [likK, cif_neg (fun z => by have := (had_bit g q n).mpr z.2; omega)] at hnx
          exact hnx
  exact loop (g 1) 0 (by omega)
theorem c_mayTail {V : Nat → Nat → Nat → Nat → Prop} {lw : Lw} {p o b n m : Nat} (hnn : og g p (5 + o) = n) (hmm : og g p 2 = m) (hp : p < g 1) (ho : o < m) (hb : b < 12) (hW : WF g t) (ht : t < 1000000) (hA : RAt g c) (hL : LC c lw) (hok : LOK lw) (hVI : VI V c) (hV : c 20 3 = 1 → (V b n m o ↔ mayG g lw p o b))
    (h1 : mayG g lw p o b → ∀ c', FT c c' → VI V c' → Q (nI 1) (NH c')) (h0 : ¬ mayG g lw p o b → ∀ c', FT c c' → VI V c' → Q (nI 0) (NH c')) :
    am_R tT E (d + 2) mX7_mayLeave Q 98 [some (.inr 20), some (.inl (nI p)), some (.inl (nI b)), some (.inl (nI o)), some (.inl (nI m)), some (.inl (nI n)), some (.inl (nI ((b * 20 + n) * 9 + m - 1))), some (.inl (nI (1 <<< (2 * o)))), some (.inl (nI (2 <<< (2 * o)))), none] [] (NH c) := by
  have hW2 := hW
  obtain ⟨⟨w0, w1, w2, w3, -⟩, a2, -⟩ := hW
  have hpe := hW2.p (show p < 8 by omega)
  have hm9 := hpe.2.2.1
  have hn0 := hpe.2.2.2.2.2.1 o (by omega)
  rw [hnn] at hn0
  have hn : n < 20 := by omega
  have q2 : c 2 n = g (10 + n) := hA.1.2.1 n hn
  have q3 : c 3 n = g (30 + n) := hA.1.2.2.1 n hn
  have q13 : c 1 3 = g 3 := hA.1.1.2.2.2.1
  have q16 := hA.2.2 b n hb hn
  have ft1 : ∀ {c1 : Nat → Nat → Nat} {k v : Nat}, FT c c1 → FT c (cup c1 21 k v) := fun h1 o x y z => by rw [cup_ne _ _ _ y]; exact h1 o x y z
  have ft0 : FT c c := fun _ _ _ _ => rfl
  have key : ∀ c8, FT c c8 → c8 20 = c 20 → c8 22 = c 22 → (∀ s, 1 ≤ s → s ≤ 8 → c8 21 (s - 1) = fcN g p o b s) → am_R tT E (d + 2) mX7_mayLeave Q 205 [some (.inr 20), some (.inl (nI p)), some (.inl (nI b)), some (.inl (nI o)), some (.inl (nI m)), some (.inl (nI n)), some (.inl (nI ((b * 20 + n) * 9 + m - 1))), some (.inl (nI (1 <<< (2 * o)))), some (.inl (nI (2 <<< (2 * o)))), none] [] (NH c8) := by
    intro c8 hft e20 e22 hfc
    have hm1 : 1 ≤ m := by omega
    have hm9' : m ≤ 9 := by omega
    have hbnd : (b * 20 + n) * 9 + m - 1 < 2160 := by omega
    generalize hidx : (b * 20 + n) * 9 + m - 1 = idx at hbnd
    refine am_goS gX7_mayLeave [221] 400 ?_
    simp only [am_eqs, am_eqk, am_eqv, lX7_mayLeave_0, lX7_mayLeave_1, lX7_mayLeave_2, lX7_mayLeave_3, lX7_mayLeave_4, lX7_mayLeave_5, lX7_mayLeave_6, fx_class, NH_at, NH_put, ↓reduceIte, List.mem_cons, List.not_mem_nil, or_false, or_self, false_or, true_and, and_true, Nat.reduceEqDiff, reduceCtorEq, List.length_cons, List.length_nil, Nat.reduceAdd, Nat.reduceLeDiff, Nat.reduceSub, Nat.reduceLT, Nat.zero_le, Nat.zero_add, forall_const, not_true_eq_false, not_false_eq_true, false_implies, true_implies, implies_true, Nat.zero_lt_succ, am_z0, am_z1]
    refine c_allows (fc := fun s => nI (fcN g p o b s)) (hL.ft hft) hok (fun s x y => by rw [hfc s x y]) (fun hy c9 hc9 => ?_) (fun hy c9 hc9 => ?_)
    · refine am_goS gX7_mayLeave [] 400 ?_
      simp only [am_eqs, am_eqk, am_eqv, lX7_mayLeave_0, lX7_mayLeave_1, lX7_mayLeave_2, lX7_mayLeave_3, lX7_mayLeave_4, lX7_mayLeave_5, lX7_mayLeave_6, fx_class, NH_at, NH_put, ↓reduceIte, List.mem_cons, List.not_mem_nil, or_false, or_self, false_or, true_and, and_true, Nat.reduceEqDiff, reduceCtorEq, List.length_cons, List.length_nil, Nat.reduceAdd, Nat.reduceLeDiff, Nat.reduceSub, Nat.reduceLT, Nat.zero_le, Nat.zero_add, forall_const, not_true_eq_false, not_false_eq_true, false_implies, true_implies, implies_true, Nat.zero_lt_succ, am_z0, am_z1]
      have e20' : c9 20 = c 20 := (hc9 20 (by omega)).trans e20
      have e22' : c9 22 = c 22 := (hc9 22 (by omega)).trans e22
      have hft9 : FT c c9 := fun o x y z => (hc9 o x).trans (hft o x y z)
      have hvi9 := hVI.ft e20' e22'
      rcases hVI with hz | ⟨hz, hvb⟩
      · simp (disch := omega) only [hs_at, hs_put, hs_63, NH_at, NH_put, NH_cpy, ni_add, ni_mul, ni_clamp, ni_in, ni_eq, ni_lt, ni_le, ni_sub, Nat.reduceAdd, Nat.reduceMul, Nat.reduceSub, eq_self, true_implies, not_true_eq_false, false_implies, and_true, true_and, not_false_eq_true, Nat.reduceEqDiff, Nat.reduceLeDiff, Nat.reduceLT, implies_true, ite_true, ite_false, e20', hz]
        exact h1 hy c9 hft9 hvi9
      · simp (disch := omega) only [hs_at, hs_put, hs_63, NH_at, NH_put, NH_cpy, ni_add, ni_mul, ni_clamp, ni_in, ni_eq, ni_lt, ni_le, ni_sub, Nat.reduceAdd, Nat.reduceMul, Nat.reduceSub, eq_self, true_implies, not_true_eq_false, false_implies, and_true, true_and, not_false_eq_true, Nat.reduceEqDiff, Nat.reduceLeDiff, Nat.reduceLT, implies_true, ite_true, ite_false, e20', hz, ni_or]
        refine ⟨by omega, by omega, ?_⟩
        refine h1 hy _ (fun o x y z => by rw [cup_ne _ _ _ z]; exact hft9 o x y z) ?_
        rw [← hidx, e22']
        exact VI_put hvi9 hb hn hm1 hm9' (VB_yes (hvb b n m hb hn hm1 hm9') (by omega) ((hV hz).mpr hy))
    · refine am_goS gX7_mayLeave [] 400 ?_
      simp only [am_eqs, am_eqk, am_eqv, lX7_mayLeave_0, lX7_mayLeave_1, lX7_mayLeave_2, lX7_mayLeave_3, lX7_mayLeave_4, lX7_mayLeave_5, lX7_mayLeave_6, fx_class, NH_at, NH_put, ↓reduceIte, List.mem_cons, List.not_mem_nil, or_false, or_self, false_or, true_and, and_true, Nat.reduceEqDiff, reduceCtorEq, List.length_cons, List.length_nil, Nat.reduceAdd, Nat.reduceLeDiff, Nat.reduceSub, Nat.reduceLT, Nat.zero_le, Nat.zero_add, forall_const, not_true_eq_false, not_false_eq_true, false_implies, true_implies, implies_true, Nat.zero_lt_succ, am_z0, am_z1]
      have e20' : c9 20 = c 20 := (hc9 20 (by omega)).trans e20
      have e22' : c9 22 = c 22 := (hc9 22 (by omega)).trans e22
      have hft9 : FT c c9 := fun o x y z => (hc9 o x).trans (hft o x y z)
      have hvi9 := hVI.ft e20' e22'
      rcases hVI with hz | ⟨hz, hvb⟩
      · simp (disch := omega) only [hs_at, hs_put, hs_63, NH_at, NH_put, NH_cpy, ni_add, ni_mul, ni_clamp, ni_in, ni_eq, ni_lt, ni_le, ni_sub, Nat.reduceAdd, Nat.reduceMul, Nat.reduceSub, eq_self, true_implies, not_true_eq_false, false_implies, and_true, true_and, not_false_eq_true, Nat.reduceEqDiff, Nat.reduceLeDiff, Nat.reduceLT, implies_true, ite_true, ite_false, e20', hz]
        exact h0 hy c9 hft9 hvi9
      · simp (disch := omega) only [hs_at, hs_put, hs_63, NH_at, NH_put, NH_cpy, ni_add, ni_mul, ni_clamp, ni_in, ni_eq, ni_lt, ni_le, ni_sub, Nat.reduceAdd, Nat.reduceMul, Nat.reduceSub, eq_self, true_implies, not_true_eq_false, false_implies, and_true, true_and, not_false_eq_true, Nat.reduceEqDiff, Nat.reduceLeDiff, Nat.reduceLT, implies_true, ite_true, ite_false, e20', hz, ni_or]
        refine ⟨by omega, by omega, ?_⟩
        refine h0 hy _ (fun o x y z => by rw [cup_ne _ _ _ z]; exact hft9 o x y z) ?_
        rw [← hidx, e22']
        exact VI_put hvi9 hb hn hm1 hm9' (VB_no (hvb b n m hb hn hm1 hm9') (by omega) (fun z => hy ((hV hz).mp z)))
  refine am_goS gX7_mayLeave [164] 400 ?_
  simp only [am_eqs, am_eqk, am_eqv, lX7_mayLeave_0, lX7_mayLeave_1, lX7_mayLeave_2, lX7_mayLeave_3, lX7_mayLeave_4, lX7_mayLeave_5, lX7_mayLeave_6, fx_class, NH_at, NH_put, ↓reduceIte, List.mem_cons, List.not_mem_nil, or_false, or_self, false_or, true_and, and_true, Nat.reduceEqDiff, reduceCtorEq, List.length_cons, List.length_nil, Nat.reduceAdd, Nat.reduceLeDiff, Nat.reduceSub, Nat.reduceLT, Nat.zero_le, Nat.zero_add, forall_const, not_true_eq_false, not_false_eq_true, false_implies, true_implies, implies_true, Nat.zero_lt_succ, am_z0, am_z1]
  simp (disch := omega) only [hs_at, hs_put, hs_63, NH_at, NH_put, NH_cpy, ni_add, ni_mul, ni_clamp, ni_in, ni_eq, ni_lt, ni_le, ni_sub, Nat.reduceAdd, Nat.reduceMul, Nat.reduceSub, eq_self, true_implies, not_true_eq_false, false_implies, and_true, true_and, not_false_eq_true, Nat.reduceEqDiff, Nat.reduceLeDiff, Nat.reduceLT, implies_true, ite_true, ite_false, nup_self, nup_ne, cup_self, cup_ne, q2, q3]
  refine ⟨by omega, by omega, ?_⟩
  have hA4 := hA.ft (ft1 (k := 3) (v := o) (ft1 (k := 2) (v := m) (ft1 (k := 1) (v := g (30 + n)) (ft1 (k := 0) (v := g (10 + n)) ft0))))
  refine c_othersWith (g := g) (t := t) hp (by omega) hW2 hA4.2.1 ?_
  simp (disch := omega) only [hs_at, hs_put, hs_63, NH_at, NH_put, NH_cpy, ni_add, ni_mul, ni_clamp, ni_in, ni_eq, ni_lt, ni_le, ni_sub, Nat.reduceAdd, Nat.reduceMul, Nat.reduceSub, eq_self, true_implies, not_true_eq_false, false_implies, and_true, true_and, not_false_eq_true, Nat.reduceEqDiff, Nat.reduceLeDiff, Nat.reduceLT, implies_true, ite_true, ite_false]
  refine am_goS gX7_mayLeave [205] 400 ?_
  simp only [am_eqs, am_eqk, am_eqv, lX7_mayLeave_0, lX7_mayLeave_1, lX7_mayLeave_2, lX7_mayLeave_3, lX7_mayLeave_4, lX7_mayLeave_5, lX7_mayLeave_6, fx_class, NH_at, NH_put, ↓reduceIte, List.mem_cons, List.not_mem_nil, or_false, or_self, false_or, true_and, and_true, Nat.reduceEqDiff, reduceCtorEq, List.length_cons, List.length_nil, Nat.reduceAdd, Nat.reduceLeDiff, Nat.reduceSub, Nat.reduceLT, Nat.zero_le, Nat.zero_add, forall_const, not_true_eq_false, not_false_eq_true, false_implies, true_implies, implies_true, Nat.zero_lt_succ, am_z0, am_z1]
  simp (disch := omega) only [hs_at, hs_put, hs_63, NH_at, NH_put, NH_cpy, ni_add, ni_mul, ni_clamp, ni_in, ni_eq, ni_lt, ni_le, ni_sub, Nat.reduceAdd, Nat.reduceMul, Nat.reduceSub, eq_self, true_implies, not_true_eq_false, false_implies, and_true, true_and, not_false_eq_true, Nat.reduceEqDiff, Nat.reduceLeDiff, Nat.reduceLT, implies_true, ite_true, ite_false, nup_self, nup_ne, cup_self, cup_ne, q13]
  refine c_keptOf hb hn ?_
  simp (disch := omega) only [hs_at, hs_put, hs_63, NH_at, NH_put, NH_cpy, ni_add, ni_mul, ni_clamp, ni_in, ni_eq, ni_lt, ni_le, ni_sub, Nat.reduceAdd, Nat.reduceMul, Nat.reduceSub, eq_self, true_implies, not_true_eq_false, false_implies, and_true, true_and, not_false_eq_true, Nat.reduceEqDiff, Nat.reduceLeDiff, Nat.reduceLT, implies_true, ite_true, ite_false, nup_self, nup_ne, cup_self, cup_ne, q16]
  refine key _ (ft1 (ft1 (ft1 (ft1 (ft1 (ft1 (ft1 (ft1 ft0)))))))) ?_ ?_ (fun s hs1 hs2 => ?_)
  · simp (disch := omega) only [hs_at, hs_put, hs_63, NH_at, NH_put, NH_cpy, ni_add, ni_mul, ni_clamp, ni_in, ni_eq, ni_lt, ni_le, ni_sub, Nat.reduceAdd, Nat.reduceMul, Nat.reduceSub, eq_self, true_implies, not_true_eq_false, false_implies, and_true, true_and, not_false_eq_true, Nat.reduceEqDiff, Nat.reduceLeDiff, Nat.reduceLT, implies_true, ite_true, ite_false, nup_self, nup_ne, cup_self, cup_ne, cup_ne]
  · simp (disch := omega) only [hs_at, hs_put, hs_63, NH_at, NH_put, NH_cpy, ni_add, ni_mul, ni_clamp, ni_in, ni_eq, ni_lt, ni_le, ni_sub, Nat.reduceAdd, Nat.reduceMul, Nat.reduceSub, eq_self, true_implies, not_true_eq_false, false_implies, and_true, true_and, not_false_eq_true, Nat.reduceEqDiff, Nat.reduceLeDiff, Nat.reduceLT, implies_true, ite_true, ite_false, nup_self, nup_ne, cup_self, cup_ne, cup_ne]
  · unfold fcN
    rw [hnn, hmm]
    have : s = 1 ∨ s = 2 ∨ s = 3 ∨ s = 4 ∨ s = 5 ∨ s = 6 ∨ s = 7 ∨ s = 8 := by omega
    rcases this with rfl | rfl | rfl | rfl | rfl | rfl | rfl | rfl <;> simp [cup_self, nup]
theorem c_mayLeave {V : Nat → Nat → Nat → Nat → Prop} {lw : Lw} {p o b : Nat} (hp : p < g 1) (ho : o < og g p 2) (hb : b < 12) (hW : WF g t) (ht : t < 1000000) (hA : RAt g c) (hL : LC c lw) (hok : LOK lw) (hVI : VI V c) (hV : c 20 3 = 1 → (V b (og g p (5 + o)) (og g p 2) o ↔ mayG g lw p o b))
    (h1 : mayG g lw p o b → ∀ c', FT c c' → VI V c' → Q (nI 1) (NH c')) (h0 : ¬ mayG g lw p o b → ∀ c', FT c c' → VI V c' → Q (nI 0) (NH c')) :
    am_C tT E (d + 2) mX7_mayLeave [.inr 20, .inl (nI p), .inl (nI b), .inl (nI o)] (NH c) Q := by
  have hW2 := hW
  obtain ⟨⟨w0, w1, w2, w3, -⟩, a2, -⟩ := hW
  have hpe := hW2.p (show p < 8 by omega)
  have hm9 := hpe.2.2.1
  have hn0 := hpe.2.2.2.2.2.1 o ho
  have q12 : c 12 p = og g p 2 := (hA.2.1.2 p (by omega)).2.2.2.2.1
  have q13 : c 13 (9 * p + o) = og g p (5 + o) := (hA.2.1.2 p (by omega)).2.2.2.2.2 o ho
  have htail := c_mayTail (E := E) (d := d) (Q := Q) rfl rfl hp ho hb hW2 ht hA hL hok hVI hV h1 h0
  generalize hnn : og g p (5 + o) = n at hn0 q13 hV htail
  generalize hmm : og g p 2 = m at ho hm9 q12 hV htail
  have hbnd : (b * 20 + n) * 9 + m - 1 < 2160 := by omega
  refine am_C.of (by decide) (Nat.le_of_ble_eq_true rfl) ?_
  show am_R tT E _ mX7_mayLeave _ 0 [some (.inr 20), some (.inl (nI p)), some (.inl (nI b)), some (.inl (nI o)), none, none, none, none, none, none] [] (NH c)
  refine am_goS gX7_mayLeave [98] 400 ?_
  simp only [am_eqs, am_eqk, am_eqv, lX7_mayLeave_0, lX7_mayLeave_1, lX7_mayLeave_2, lX7_mayLeave_3, lX7_mayLeave_4, lX7_mayLeave_5, lX7_mayLeave_6, fx_class, NH_at, NH_put, ↓reduceIte, List.mem_cons, List.not_mem_nil, or_false, or_self, false_or, true_and, and_true, Nat.reduceEqDiff, reduceCtorEq, List.length_cons, List.length_nil, Nat.reduceAdd, Nat.reduceLeDiff, Nat.reduceSub, Nat.reduceLT, Nat.zero_le, Nat.zero_add, forall_const, not_true_eq_false, not_false_eq_true, false_implies, true_implies, implies_true, Nat.zero_lt_succ, am_z0, am_z1]
  simp (disch := omega) only [hs_at, hs_put, hs_63, NH_at, NH_put, NH_cpy, ni_add, ni_mul, ni_clamp, ni_in, ni_eq, ni_lt, ni_le, ni_sub, Nat.reduceAdd, Nat.reduceMul, Nat.reduceSub, eq_self, true_implies, not_true_eq_false, false_implies, and_true, true_and, not_false_eq_true, Nat.reduceEqDiff, Nat.reduceLeDiff, Nat.reduceLT, implies_true, ite_true, ite_false, q12]
  refine ⟨by omega, c_nameAt (by omega) (by omega) ?_⟩
  simp (disch := omega) only [hs_at, hs_put, hs_63, NH_at, NH_put, NH_cpy, ni_add, ni_mul, ni_clamp, ni_in, ni_eq, ni_lt, ni_le, ni_sub, Nat.reduceAdd, Nat.reduceMul, Nat.reduceSub, eq_self, true_implies, not_true_eq_false, false_implies, and_true, true_and, not_false_eq_true, Nat.reduceEqDiff, Nat.reduceLeDiff, Nat.reduceLT, implies_true, ite_true, ite_false, q13, ni_shl, ni_and]
  rcases hVI with hz | ⟨hz, hvb⟩
  · simp (disch := omega) only [hs_at, hs_put, hs_63, NH_at, NH_put, NH_cpy, ni_add, ni_mul, ni_clamp, ni_in, ni_eq, ni_lt, ni_le, ni_sub, Nat.reduceAdd, Nat.reduceMul, Nat.reduceSub, eq_self, true_implies, not_true_eq_false, false_implies, and_true, true_and, not_false_eq_true, Nat.reduceEqDiff, Nat.reduceLeDiff, Nat.reduceLT, implies_true, ite_true, ite_false, hz]
    exact htail
  · simp (disch := omega) only [hs_at, hs_put, hs_63, NH_at, NH_put, NH_cpy, ni_add, ni_mul, ni_clamp, ni_in, ni_eq, ni_lt, ni_le, ni_sub, Nat.reduceAdd, Nat.reduceMul, Nat.reduceSub, eq_self, true_implies, not_true_eq_false, false_implies, and_true, true_and, not_false_eq_true, Nat.reduceEqDiff, Nat.reduceLeDiff, Nat.reduceLT, implies_true, ite_true, ite_false, hz]
    have hvx := hvb b n m hb (by omega) (by omega) (by omega)
    have hbo := hvx.2 o (by omega)
    have hvi : VI V c := Or.inr ⟨hz, hvb⟩
    have hiff := hV hz
    generalize hidx : (b * 20 + n) * 9 + m - 1 = idx at hbnd hvx hbo htail
    have hl1 : c 22 idx &&& 1 <<< (2 * o) < 4294967296 := Nat.lt_of_le_of_lt Nat.and_le_left (by have := hvx.1; omega)
    have hl2 : c 22 idx &&& 2 <<< (2 * o) < 4294967296 := Nat.lt_of_le_of_lt Nat.and_le_left (by have := hvx.1; omega)
    simp (disch := omega) only [hs_at, hs_put, hs_63, NH_at, NH_put, NH_cpy, ni_add, ni_mul, ni_clamp, ni_in, ni_eq, ni_lt, ni_le, ni_sub, Nat.reduceAdd, Nat.reduceMul, Nat.reduceSub, eq_self, true_implies, not_true_eq_false, false_implies, and_true, true_and, not_false_eq_true, Nat.reduceEqDiff, Nat.reduceLeDiff, Nat.reduceLT, implies_true, ite_true, ite_false]
    refine ⟨by omega, fun _ => htail, fun e => ⟨by omega, fun e2 => ?_, fun e2 => ?_⟩⟩
    · rw [two_shl, and_bit] at e2
      refine h0 (fun z => ?_) c (fun _ _ _ _ => rfl) hvi
      rw [and_bit] at e
      have := hbo.mpr ⟨by simpa using e, hiff.mpr z⟩
      rw [e2] at this
      cases this
    · rw [two_shl, and_bit] at e2
      have := hbo.mp (by simpa using e2)
      exact h1 (hiff.mp this.2) c (fun _ _ _ _ => rfl) hvi
/-- what is due -/
theorem c_due {V : Nat → Nat → Nat → Nat → Prop} {lw : Lw} {p b : Nat} (hp : p < g 1) (hb : b < 12) (hW : WF g t) (ht : t < 1000000) (hA : RAt g c) (hL : LC c lw) (hok : LOK lw) (hVI : VI V c) (hV : c 20 3 = 1 → ∀ o, o < og g p 2 → (V b (og g p (5 + o)) (og g p 2) o ↔ mayG g lw p o b))
    (hF : duG g lw p b = 100 → Q (nI 100) (NH c)) (hB : duG g lw p b = 200 → ∀ c', FT c c' → VI V c' → Q (-2) (NH c'))
    (hO : ∀ o, o < og g p 2 → duG g lw p b = o → ∀ c', FT c c' → VI V c' → Q (nI o) (NH c')) :
    am_C tT E (d + 3) mX7_due [.inr 20, .inl (nI p), .inl (nI b)] (NH c) Q := by
  have hW2 := hW
  obtain ⟨⟨w0, w1, w2, w3, w4, w5, w6, w7, w8⟩, a2, -⟩ := hW
  have hpe := hW2.p (show p < 8 by omega)
  have hm := hpe.2.2.1
  have q12 : c 12 p = og g p 2 := (hA.2.1.2 p (by omega)).2.2.2.2.1
  have q7 : c 1 2 = g 7 := hA.1.1.2.2.1
  have hlt : letO g p < 2147483648 := by
    have : ∀ k, k ≤ og g p 2 → letK g p k ≤ 12 * k := by
      intro k
      induction k with
      | zero => intro _; exact Nat.le_refl _
      | succ k ih =>
        intro hk
        have h1 := ih (by omega)
        have h2 := hpe.r20 w0 k (by omega)
        have h3 := (a2 _ h2).2
        simp only [letK]
        omega
    have := this _ (Nat.le_refl _)
    unfold letO
    omega
  refine am_C.of (by decide) (Nat.le_of_ble_eq_true rfl) ?_
  show am_R tT E _ mX7_due _ 0 [some (.inr 20), some (.inl (nI p)), some (.inl (nI b)), none] [] (NH c)
  refine am_goS gX7_due [23] 400 ?_
  simp only [am_eqs, am_eqk, am_eqv, lX7_due_0, lX7_due_1, fx_class, NH_at, NH_put, ↓reduceIte, List.mem_cons, List.not_mem_nil, or_false, or_self, false_or, true_and, and_true, Nat.reduceEqDiff, reduceCtorEq, List.length_cons, List.length_nil, Nat.reduceAdd, Nat.reduceLeDiff, Nat.reduceSub, Nat.reduceLT, Nat.zero_le, Nat.zero_add, forall_const, not_true_eq_false, not_false_eq_true, false_implies, true_implies, implies_true, Nat.zero_lt_succ, am_z0, am_z1]
  refine c_lettersOf (by omega) hA.1 hA.2.1 hm (hpe.r20 w0) ?_
  simp (disch := omega) only [hs_at, hs_put, hs_63, NH_at, NH_put, NH_cpy, ni_add, ni_mul, ni_clamp, ni_in, ni_eq, ni_lt, ni_le, ni_sub, Nat.reduceAdd, Nat.reduceMul, Nat.reduceSub, eq_self, true_implies, not_true_eq_false, false_implies, and_true, true_and, not_false_eq_true, Nat.reduceEqDiff, Nat.reduceLeDiff, Nat.reduceLT, implies_true, ite_true, ite_false, q7]
  have loop : ∀ k o (c1 : Nat → Nat → Nat), o + k = og g p 2 → g 7 < letO g p → duF g lw p b k o = duG g lw p b → FT c c1 → VI V c1 → am_R tT E (d + 3) mX7_due Q 23 [some (.inr 20), some (.inl (nI p)), some (.inl (nI b)), some (.inl (nI o))] [] (NH c1) := by
    intro k
    induction k with
    | zero =>
      intro o c1 hk hlf hd hft hvi
      have e : o = og g p 2 := by omega
      have q12' : c1 12 p = og g p 2 := by rw [hft 12 (by omega) (by omega) (by omega)]; exact q12
      subst e
      refine am_goS gX7_due [23] 400 ?_
      simp only [am_eqs, am_eqk, am_eqv, lX7_due_0, lX7_due_1, fx_class, NH_at, NH_put, ↓reduceIte, List.mem_cons, List.not_mem_nil, or_false, or_self, false_or, true_and, and_true, Nat.reduceEqDiff, reduceCtorEq, List.length_cons, List.length_nil, Nat.reduceAdd, Nat.reduceLeDiff, Nat.reduceSub, Nat.reduceLT, Nat.zero_le, Nat.zero_add, forall_const, not_true_eq_false, not_false_eq_true, false_implies, true_implies, implies_true, Nat.zero_lt_succ, am_z0, am_z1]
      simp (disch := omega) only [hs_at, hs_put, hs_63, NH_at, NH_put, NH_cpy, ni_add, ni_mul, ni_clamp, ni_in, ni_eq, ni_lt, ni_le, ni_sub, Nat.reduceAdd, Nat.reduceMul, Nat.reduceSub, eq_self, true_implies, not_true_eq_false, false_implies, and_true, true_and, not_false_eq_true, Nat.reduceEqDiff, Nat.reduceLeDiff, Nat.reduceLT, implies_true, ite_true, ite_false, q12']
      exact ⟨by omega, fun _ => hB hd.symm c1 hft hvi, fun z => absurd (Nat.le_refl _) z⟩
    | succ k ih =>
      intro o c1 hk hlf hd hft hvi
      have q12' : c1 12 p = og g p 2 := by rw [hft 12 (by omega) (by omega) (by omega)]; exact q12
      have e20 : c1 20 3 = c 20 3 := by rw [hft 20 (by omega) (by omega) (by omega)]
      refine am_goS gX7_due [23] 400 ?_
      simp only [am_eqs, am_eqk, am_eqv, lX7_due_0, lX7_due_1, fx_class, NH_at, NH_put, ↓reduceIte, List.mem_cons, List.not_mem_nil, or_false, or_self, false_or, true_and, and_true, Nat.reduceEqDiff, reduceCtorEq, List.length_cons, List.length_nil, Nat.reduceAdd, Nat.reduceLeDiff, Nat.reduceSub, Nat.reduceLT, Nat.zero_le, Nat.zero_add, forall_const, not_true_eq_false, not_false_eq_true, false_implies, true_implies, implies_true, Nat.zero_lt_succ, am_z0, am_z1]
      simp (disch := omega) only [hs_at, hs_put, hs_63, NH_at, NH_put, NH_cpy, ni_add, ni_mul, ni_clamp, ni_in, ni_eq, ni_lt, ni_le, ni_sub, Nat.reduceAdd, Nat.reduceMul, Nat.reduceSub, eq_self, true_implies, not_true_eq_false, false_implies, and_true, true_and, not_false_eq_true, Nat.reduceEqDiff, Nat.reduceLeDiff, Nat.reduceLT, implies_true, ite_true, ite_false, q12']
      refine ⟨by omega, fun z => absurd z (by omega), fun _ => ?_⟩
      refine c_mayLeave (V := V) hp (by omega) hb hW2 ht (hA.ft hft) (hL.ft hft) hok hvi (fun z => hV (by rw [← e20]; exact z) o (by omega)) (fun y c2 hf2 hv2 => ?_) (fun y c2 hf2 hv2 => ?_)
      · simp (disch := omega) only [hs_at, hs_put, hs_63, NH_at, NH_put, NH_cpy, ni_add, ni_mul, ni_clamp, ni_in, ni_eq, ni_lt, ni_le, ni_sub, Nat.reduceAdd, Nat.reduceMul, Nat.reduceSub, eq_self, true_implies, not_true_eq_false, false_implies, and_true, true_and, not_false_eq_true, Nat.reduceEqDiff, Nat.reduceLeDiff, Nat.reduceLT, implies_true, ite_true, ite_false]
        exact hO o (by omega) (by rw [← hd, duF, cif_pos y]) c2 (hft.trans hf2) hv2
      · simp (disch := omega) only [hs_at, hs_put, hs_63, NH_at, NH_put, NH_cpy, ni_add, ni_mul, ni_clamp, ni_in, ni_eq, ni_lt, ni_le, ni_sub, Nat.reduceAdd, Nat.reduceMul, Nat.reduceSub, eq_self, true_implies, not_true_eq_false, false_implies, and_true, true_and, not_false_eq_true, Nat.reduceEqDiff, Nat.reduceLeDiff, Nat.reduceLT, implies_true, ite_true, ite_false]
        exact ih (o + 1) c2 (by omega) hlf (by rw [← hd, duF, cif_neg y]) (hft.trans hf2) hv2
  refine ⟨fun hfree => ?_, fun hfree => ?_⟩
  · exact loop (og g p 2) 0 c (by omega) (by omega) (by unfold duG; rw [if_neg (by omega)]) (fun _ _ _ _ => rfl) hVI
  · exact hF (by unfold duG; rw [if_pos (by omega)])
end CMAY
