/-! ===== part 24: alone ===== -/
section OPS5
variable {E : am_E} {d : Nat} {h : am_H} {Q : Int32 → am_H → Prop} {g : Nat → Nat} {c : Nat → Nat → Nat} {t : Nat}
def hdK (g : Nat → Nat) (s : Nat) : Nat → Nat
  | 0 => 0
  | p + 1 => if s >>> p &&& 1 = 1 then hdK g s p ||| had g p else hdK g s p
def twK (g : Nat → Nat) (s : Nat) : Nat → Nat
  | 0 => 0
  | p + 1 => if s >>> p &&& 1 = 1 then twK g s p ||| (hdK g s p &&& had g p) else twK g s p
theorem hdK_bit (g : Nat → Nat) (s n : Nat) : ∀ k, (hdK g s k).testBit n = true ↔ ∃ o, o < k ∧ s >>> o &&& 1 = 1 ∧ (had g o).testBit n = true := by
  intro k
  induction k with
  | zero => simp [hdK]
  | succ k ih =>
    by_cases hc : s >>> k &&& 1 = 1
    · simp only [hdK, if_pos hc, Nat.testBit_or, Bool.or_eq_true, ih]
      constructor
      · rintro (⟨o, h1, h2⟩ | h1)
        · exact ⟨o, by omega, h2⟩
        · exact ⟨k, by omega, hc, h1⟩
      · rintro ⟨o, h1, h2, h3⟩
        by_cases hok : o = k
        · exact Or.inr (hok ▸ h3)
        · exact Or.inl ⟨o, by omega, h2, h3⟩
    · simp only [hdK, if_neg hc, ih]
      constructor
      · rintro ⟨o, h1, h2⟩
        exact ⟨o, by omega, h2⟩
      · rintro ⟨o, h1, h2, h3⟩
        by_cases hok : o = k
        · exact absurd (hok ▸ h2) hc
        · exact ⟨o, by omega, h2, h3⟩
theorem twK_bit (g : Nat → Nat) (s n : Nat) : ∀ k, (twK g s k).testBit n = true ↔ ∃ o o', o < o' ∧ o' < k ∧ s >>> o &&& 1 = 1 ∧ s >>> o' &&& 1 = 1 ∧ (had g o).testBit n = true ∧ (had g o').testBit n = true := by
  intro k
  induction k with
  | zero => simp [twK]
  | succ k ih =>
    by_cases hc : s >>> k &&& 1 = 1
    · simp only [twK, if_pos hc, Nat.testBit_or, Nat.testBit_and, Bool.or_eq_true, Bool.and_eq_true, ih, hdK_bit]
      constructor
      · rintro (⟨o, o', h1, h2, h3⟩ | ⟨⟨o, h1, h2, h3⟩, h4⟩)
        · exact ⟨o, o', h1, by omega, h3⟩
        · exact ⟨o, k, h1, by omega, h2, hc, h3, h4⟩
      · rintro ⟨o, o', h1, h2, h3, h4, h5, h6⟩
        by_cases hok : o' = k
        · exact Or.inr ⟨⟨o, by omega, h3, h5⟩, hok ▸ h6⟩
        · exact Or.inl ⟨o, o', h1, by omega, h3, h4, h5, h6⟩
    · simp only [twK, if_neg hc, ih]
      constructor
      · rintro ⟨o, o', h1, h2, h3⟩
        exact ⟨o, o', h1, by omega, h3⟩
      · rintro ⟨o, o', h1, h2, h3, h4, h5⟩
        by_cases hok : o' = k
        · exact absurd (hok ▸ h4) hc
        · exact ⟨o, o', h1, by omega, h3, h4, h5⟩
theorem tw_aln (g : Nat → Nat) (s p : Nat) (hp : p < g 1) (hs : s >>> p &&& 1 = 1) (hh : had g p < 4294967296) : ¬ had g p &&& (twK g s (g 1) ^^^ 4294967295) = 0 ↔ alnB g s p := by
  rw [nz_bits hh]
  constructor
  · rintro ⟨n, h1, h2⟩
    refine ⟨n, h1, fun o ho hop hos => ?_⟩
    cases hb : (had g o).testBit n with
    | false => rfl
    | true =>
      exfalso
      have hno : ¬ (twK g s (g 1)).testBit n = true := by rw [h2]; decide
      rw [twK_bit] at hno
      apply hno
      by_cases hlt : o < p
      · exact ⟨o, p, hlt, hp, hos, hs, hb, h1⟩
      · exact ⟨p, o, by omega, ho, hs, hos, h1, hb⟩
  · rintro ⟨n, h1, h2⟩
    refine ⟨n, h1, ?_⟩
    cases hb : (twK g s (g 1)).testBit n with
    | false => rfl
    | true =>
      exfalso
      rw [twK_bit] at hb
      obtain ⟨o, o', k1, k2, k3, k4, k5, k6⟩ := hb
      by_cases hop : o = p
      · have := h2 o' k2 (by omega) k4
        rw [this] at k6; cases k6
      · have := h2 o (by omega) hop k3
        rw [this] at k5; cases k5
theorem c_aloneAmong {s : Nat} (hs31 : s < 2147483648) (hW : WF g t) (hR : RP g c) (hq : Q (nI (aln g s)) (NH c)) : am_C tT E d mX5_aloneAmong [.inr 6, .inl (nI s)] (NH c) Q := by
  have hW2 := hW
  obtain ⟨⟨w0, w1, w2, w3, w4, w5, w6, w7, w8⟩, -⟩ := hW
  have e1 := hR.1
  have e6 : ∀ p, p < 8 → c 11 p = had g p := fun p hp => (hR.2 p hp).2.2.2.1
  refine am_C.of (by decide) (Nat.le_of_ble_eq_true rfl) ?_
  show am_R tT E _ mX5_aloneAmong _ 0 [some (.inr 6), some (.inl (nI s)), none, none, none, none] [] (NH c)
  refine am_goS gX5_aloneAmong [7] 400 ?_
  simp only [am_eqs, am_eqk, am_eqv, lX5_aloneAmong_0, lX5_aloneAmong_1, lX5_aloneAmong_2, fx_class, NH_at, NH_put, ↓reduceIte, List.mem_cons, List.not_mem_nil, or_false, or_self, false_or, true_and, and_true, Nat.reduceEqDiff, reduceCtorEq, List.length_cons, List.length_nil, Nat.reduceAdd, Nat.reduceLeDiff, Nat.reduceSub, Nat.reduceLT, Nat.zero_le, Nat.zero_add, forall_const, not_true_eq_false, not_false_eq_true, false_implies, true_implies, implies_true, Nat.zero_lt_succ, am_z0, am_z1]
  have second : ∀ k p, p + k = g 1 → am_R tT E d mX5_aloneAmong Q 59 [some (.inr 6), some (.inl (nI s)), some (.inl (nI (hdK g s (g 1)))), some (.inl (nI (twK g s (g 1)))), some (.inl (nI (alnK g s p))), some (.inl (nI p))] [] (NH c) := by
    intro k
    induction k with
    | zero =>
      intro p hp
      refine am_goS gX5_aloneAmong [59] 400 ?_
      simp only [am_eqs, am_eqk, am_eqv, lX5_aloneAmong_0, lX5_aloneAmong_1, lX5_aloneAmong_2, fx_class, NH_at, NH_put, ↓reduceIte, List.mem_cons, List.not_mem_nil, or_false, or_self, false_or, true_and, and_true, Nat.reduceEqDiff, reduceCtorEq, List.length_cons, List.length_nil, Nat.reduceAdd, Nat.reduceLeDiff, Nat.reduceSub, Nat.reduceLT, Nat.zero_le, Nat.zero_add, forall_const, not_true_eq_false, not_false_eq_true, false_implies, true_implies, implies_true, Nat.zero_lt_succ, am_z0, am_z1]
      simp (disch := omega) only [hs_at, hs_put, hs_63, NH_at, NH_put, NH_cpy, ni_add, ni_mul, ni_clamp, ni_in, ni_eq, ni_lt, ni_le, ni_sub, Nat.reduceAdd, Nat.reduceMul, Nat.reduceSub, eq_self, true_implies, not_true_eq_false, false_implies, and_true, true_and, not_false_eq_true, Nat.reduceEqDiff, Nat.reduceLeDiff, Nat.reduceLT, implies_true, ite_true, ite_false, e1]
      have e : p = g 1 := by omega
      subst e
      refine ⟨fun _ => hq, fun c => absurd c (by omega)⟩
    | succ k ih =>
      intro p hp
      have hpe := hW2.p (show p < 8 by omega)
      have hh := had_20 w0 hpe
      have hb := bit01 s p
      have hand := Nat.and_le_left (n := had g p) (m := twK g s (g 1) ^^^ 4294967295)
      have hnx := ih (p + 1) (by omega)
      refine am_goS gX5_aloneAmong [59] 400 ?_
      simp only [am_eqs, am_eqk, am_eqv, lX5_aloneAmong_0, lX5_aloneAmong_1, lX5_aloneAmong_2, fx_class, NH_at, NH_put, ↓reduceIte, List.mem_cons, List.not_mem_nil, or_false, or_self, false_or, true_and, and_true, Nat.reduceEqDiff, reduceCtorEq, List.length_cons, List.length_nil, Nat.reduceAdd, Nat.reduceLeDiff, Nat.reduceSub, Nat.reduceLT, Nat.zero_le, Nat.zero_add, forall_const, not_true_eq_false, not_false_eq_true, false_implies, true_implies, implies_true, Nat.zero_lt_succ, am_z0, am_z1]
      simp (disch := omega) only [hs_at, hs_put, hs_63, NH_at, NH_put, NH_cpy, ni_add, ni_mul, ni_clamp, ni_in, ni_eq, ni_lt, ni_le, ni_sub, Nat.reduceAdd, Nat.reduceMul, Nat.reduceSub, eq_self, true_implies, not_true_eq_false, false_implies, and_true, true_and, not_false_eq_true, Nat.reduceEqDiff, Nat.reduceLeDiff, Nat.reduceLT, implies_true, ite_true, ite_false, e1, e6 p (by omega), ni_shr, ni_and, ni_m1, ni_xor, ni_shl, ni_or]
      refine ⟨fun c => absurd c (by omega), fun _ => ⟨fun e => ?_, fun e => ⟨by omega, fun e2 => ?_, fun e2 => ?_⟩⟩⟩
      · rw [alnK, cif_neg (fun q => by omega)] at hnx
        exact hnx
      · rw [alnK, cif_neg (fun q => (tw_aln g s p (by omega) (by omega) (by omega)).mpr q.2 e2)] at hnx
        exact hnx
      · rw [alnK, cif_pos ⟨by omega, (tw_aln g s p (by omega) (by omega) (by omega)).mp e2⟩] at hnx
        exact hnx
  have first : ∀ k p, p + k = g 1 → am_R tT E d mX5_aloneAmong Q 7 [some (.inr 6), some (.inl (nI s)), some (.inl (nI (hdK g s p))), some (.inl (nI (twK g s p))), some (.inl (nI p)), none] [] (NH c) := by
    intro k
    induction k with
    | zero =>
      intro p hp
      refine am_goS gX5_aloneAmong [7, 59] 400 ?_
      simp only [am_eqs, am_eqk, am_eqv, lX5_aloneAmong_0, lX5_aloneAmong_1, lX5_aloneAmong_2, fx_class, NH_at, NH_put, ↓reduceIte, List.mem_cons, List.not_mem_nil, or_false, or_self, false_or, true_and, and_true, Nat.reduceEqDiff, reduceCtorEq, List.length_cons, List.length_nil, Nat.reduceAdd, Nat.reduceLeDiff, Nat.reduceSub, Nat.reduceLT, Nat.zero_le, Nat.zero_add, forall_const, not_true_eq_false, not_false_eq_true, false_implies, true_implies, implies_true, Nat.zero_lt_succ, am_z0, am_z1]
      simp (disch := omega) only [hs_at, hs_put, hs_63, NH_at, NH_put, NH_cpy, ni_add, ni_mul, ni_clamp, ni_in, ni_eq, ni_lt, ni_le, ni_sub, Nat.reduceAdd, Nat.reduceMul, Nat.reduceSub, eq_self, true_implies, not_true_eq_false, false_implies, and_true, true_and, not_false_eq_true, Nat.reduceEqDiff, Nat.reduceLeDiff, Nat.reduceLT, implies_true, ite_true, ite_false, e1]
      have e : p = g 1 := by omega
      subst e
      refine ⟨fun _ => second (g 1) 0 (by omega), fun c => absurd c (by omega)⟩
    | succ k ih =>
      intro p hp
      have hb := bit01 s p
      have hnx := ih (p + 1) (by omega)
      refine am_goS gX5_aloneAmong [7, 59] 400 ?_
      simp only [am_eqs, am_eqk, am_eqv, lX5_aloneAmong_0, lX5_aloneAmong_1, lX5_aloneAmong_2, fx_class, NH_at, NH_put, ↓reduceIte, List.mem_cons, List.not_mem_nil, or_false, or_self, false_or, true_and, and_true, Nat.reduceEqDiff, reduceCtorEq, List.length_cons, List.length_nil, Nat.reduceAdd, Nat.reduceLeDiff, Nat.reduceSub, Nat.reduceLT, Nat.zero_le, Nat.zero_add, forall_const, not_true_eq_false, not_false_eq_true, false_implies, true_implies, implies_true, Nat.zero_lt_succ, am_z0, am_z1]
      simp (disch := omega) only [hs_at, hs_put, hs_63, NH_at, NH_put, NH_cpy, ni_add, ni_mul, ni_clamp, ni_in, ni_eq, ni_lt, ni_le, ni_sub, Nat.reduceAdd, Nat.reduceMul, Nat.reduceSub, eq_self, true_implies, not_true_eq_false, false_implies, and_true, true_and, not_false_eq_true, Nat.reduceEqDiff, Nat.reduceLeDiff, Nat.reduceLT, implies_true, ite_true, ite_false, e1, e6 p (by omega), ni_shr, ni_and, ni_or]
      refine ⟨fun c => absurd c (by omega), fun _ => ⟨fun e => ?_, fun e => ⟨by omega, by omega, ?_⟩⟩⟩
      · rw [hdK, twK, if_neg (by omega), if_neg (by omega)] at hnx
        exact hnx
      · rw [hdK, twK, if_pos (by omega), if_pos (by omega)] at hnx
        exact hnx
  exact first (g 1) 0 (by omega)
/-- who is at pl, of the first k -/
def atK (g : Nat → Nat) (pl : Nat) : Nat → Nat
  | 0 => 0
  | p + 1 => if og g p 0 = pl then atK g pl p ||| 1 <<< p else atK g pl p
theorem atK_lt (g : Nat → Nat) (pl : Nat) : ∀ k, atK g pl k < 2 ^ k := by
  intro k
  induction k with
  | zero => exact Nat.one_pos
  | succ k ih =>
    have h2 : 2 ^ k < 2 ^ (k + 1) := Nat.pow_lt_pow_right (by omega) (by omega)
    simp only [atK]
    split
    · exact Nat.or_lt_two_pow (Nat.lt_trans ih h2) (by rw [Nat.one_shiftLeft]; exact h2)
    · exact Nat.lt_trans ih h2
theorem atK_31 {pl : Nat} (h1 : g 1 ≤ 8) : atK g pl (g 1) < 2147483648 := by
  have := atK_lt g pl (g 1)
  have h2 : 2 ^ g 1 ≤ 2 ^ 8 := Nat.pow_le_pow_right (by decide) h1
  omega
noncomputable def sp_alone (g : Nat → Nat) (vp : Int32) : Int32 := cif (isB vp 8) (nI (aln g (atK g vp.toNatClampNeg (g 1)))) (-1)
theorem ri_alone {vp : Int32} (hW : WF g t) (hq : Q (sp_alone g vp) (hs h g)) : am_C tT E (d + 3) mX12_alone [.inr 63, .inl vp] (hs h g) Q := by
  have hW2 := hW
  obtain ⟨⟨w0, w1, w2, w3, w4, w5, w6, w7, w8⟩, -⟩ := hW
  refine am_C.of (by decide) (Nat.le_of_ble_eq_true rfl) ?_
  show am_R tT E _ mX12_alone _ 0 [some (.inr 63), some (.inl vp), none, none] [] (hs h g)
  refine am_goS gX12_alone [13] 400 ?_
  simp only [am_eqs, am_eqk, am_eqv, lX12_alone_0, lX12_alone_1, fx_ref, ↓reduceIte, List.mem_cons, List.not_mem_nil, or_false, or_self, false_or, true_and, and_true, Nat.reduceEqDiff, reduceCtorEq, List.length_cons, List.length_nil, Nat.reduceAdd, Nat.reduceLeDiff, Nat.reduceSub, Nat.reduceLT, Nat.zero_le, Nat.zero_add, forall_const, not_true_eq_false, not_false_eq_true, false_implies, true_implies, implies_true, Nat.zero_lt_succ, am_z0, am_z1]
  refine r_isPlace (fun z => ?_) (fun z => ?_)
  · simp (disch := omega) only [hs_at, hs_put, hs_63, NH_at, NH_put, NH_cpy, ni_add, ni_mul, ni_clamp, ni_in, ni_eq, ni_lt, ni_le, ni_sub, Nat.reduceAdd, Nat.reduceMul, Nat.reduceSub, eq_self, true_implies, not_true_eq_false, false_implies, and_true, true_and, not_false_eq_true, Nat.reduceEqDiff, Nat.reduceLeDiff, Nat.reduceLT, implies_true, ite_true, ite_false]
    rw [sp_alone, cif_pos z] at hq
    obtain ⟨pl, hpl, rfl⟩ := z
    rw [ni_clamp (by omega)] at hq
    have loop : ∀ k p, p + k = g 1 → am_R tT E (d + 3) mX12_alone Q 13 [some (.inr 63), some (.inl (nI pl)), some (.inl (nI (atK g pl p))), some (.inl (nI p))] [] (hs h g) := by
      intro k
      induction k with
      | zero =>
        intro p hp
        refine am_goS gX12_alone [13] 400 ?_
        simp only [am_eqs, am_eqk, am_eqv, lX12_alone_0, lX12_alone_1, fx_ref, ↓reduceIte, List.mem_cons, List.not_mem_nil, or_false, or_self, false_or, true_and, and_true, Nat.reduceEqDiff, reduceCtorEq, List.length_cons, List.length_nil, Nat.reduceAdd, Nat.reduceLeDiff, Nat.reduceSub, Nat.reduceLT, Nat.zero_le, Nat.zero_add, forall_const, not_true_eq_false, not_false_eq_true, false_implies, true_implies, implies_true, Nat.zero_lt_succ, am_z0, am_z1]
        simp (disch := omega) only [hs_at, hs_put, hs_63, NH_at, NH_put, NH_cpy, ni_add, ni_mul, ni_clamp, ni_in, ni_eq, ni_lt, ni_le, ni_sub, Nat.reduceAdd, Nat.reduceMul, Nat.reduceSub, eq_self, true_implies, not_true_eq_false, false_implies, and_true, true_and, not_false_eq_true, Nat.reduceEqDiff, Nat.reduceLeDiff, Nat.reduceLT, implies_true, ite_true, ite_false]
        have e : p = g 1 := by omega
        subst e
        refine ⟨fun _ => r_aloneOf (atK_31 w1) hW2 hq, fun c => absurd c (by omega)⟩
      | succ k ih =>
        intro p hp
        have hpe := hW2.p (show p < 8 by omega)
        have h08 := hpe.1
        have hnx := ih (p + 1) (by omega)
        refine am_goS gX12_alone [13] 400 ?_
        simp only [am_eqs, am_eqk, am_eqv, lX12_alone_0, lX12_alone_1, fx_ref, ↓reduceIte, List.mem_cons, List.not_mem_nil, or_false, or_self, false_or, true_and, and_true, Nat.reduceEqDiff, reduceCtorEq, List.length_cons, List.length_nil, Nat.reduceAdd, Nat.reduceLeDiff, Nat.reduceSub, Nat.reduceLT, Nat.zero_le, Nat.zero_add, forall_const, not_true_eq_false, not_false_eq_true, false_implies, true_implies, implies_true, Nat.zero_lt_succ, am_z0, am_z1]
        simp (disch := omega) only [hs_at, hs_put, hs_63, NH_at, NH_put, NH_cpy, ni_add, ni_mul, ni_clamp, ni_in, ni_eq, ni_lt, ni_le, ni_sub, Nat.reduceAdd, Nat.reduceMul, Nat.reduceSub, eq_self, true_implies, not_true_eq_false, false_implies, and_true, true_and, not_false_eq_true, Nat.reduceEqDiff, Nat.reduceLeDiff, Nat.reduceLT, implies_true, ite_true, ite_false]
        refine ⟨fun c => absurd c (by omega), fun _ => ?_⟩
        refine r_own (by omega) (by omega) ?_
        simp (disch := omega) only [hs_at, hs_put, hs_63, NH_at, NH_put, NH_cpy, ni_add, ni_mul, ni_clamp, ni_in, ni_eq, ni_lt, ni_le, ni_sub, Nat.reduceAdd, Nat.reduceMul, Nat.reduceSub, eq_self, true_implies, not_true_eq_false, false_implies, and_true, true_and, not_false_eq_true, Nat.reduceEqDiff, Nat.reduceLeDiff, Nat.reduceLT, implies_true, ite_true, ite_false, ni_shl, ni_or, Nat.or_zero]
        refine ⟨fun e => ?_, fun e => ?_⟩
        · rw [atK, if_pos e] at hnx; exact hnx
        · rw [atK, if_neg e] at hnx; exact hnx
    exact loop (g 1) 0 (by omega)
  · simp (disch := omega) only [hs_at, hs_put, hs_63, NH_at, NH_put, NH_cpy, ni_add, ni_mul, ni_clamp, ni_in, ni_eq, ni_lt, ni_le, ni_sub, Nat.reduceAdd, Nat.reduceMul, Nat.reduceSub, eq_self, true_implies, not_true_eq_false, false_implies, and_true, true_and, not_false_eq_true, Nat.reduceEqDiff, Nat.reduceLeDiff, Nat.reduceLT, implies_true, ite_true, ite_false]
    rw [sp_alone, cif_neg z] at hq
    exact hq
theorem c_at {pl : Nat} (hpl : pl < 8) (hW : WF g t) (hR : RP g c) (hq : Q (nI (atK g pl (g 1))) (NH c)) : am_C tT E d mX5_at [.inr 6, .inl (nI pl)] (NH c) Q := by
  have w1 := hW.1.2.1
  have e1 := hR.1
  refine am_C.of (by decide) (Nat.le_of_ble_eq_true rfl) ?_
  show am_R tT E _ mX5_at _ 0 [some (.inr 6), some (.inl (nI pl)), none, none] [] (NH c)
  refine am_goS gX5_at [4] 400 ?_
  simp only [am_eqs, am_eqk, am_eqv, lX5_at_0, fx_class, NH_at, NH_put, ↓reduceIte, List.mem_cons, List.not_mem_nil, or_false, or_self, false_or, true_and, and_true, Nat.reduceEqDiff, reduceCtorEq, List.length_cons, List.length_nil, Nat.reduceAdd, Nat.reduceLeDiff, Nat.reduceSub, Nat.reduceLT, Nat.zero_le, Nat.zero_add, forall_const, not_true_eq_false, not_false_eq_true, false_implies, true_implies, implies_true, Nat.zero_lt_succ, am_z0, am_z1]
  have loop : ∀ k p, p + k = g 1 → am_R tT E d mX5_at Q 4 [some (.inr 6), some (.inl (nI pl)), some (.inl (nI (atK g pl p))), some (.inl (nI p))] [] (NH c) := by
    intro k
    induction k with
    | zero =>
      intro p hp
      refine am_goS gX5_at [4] 400 ?_
      simp only [am_eqs, am_eqk, am_eqv, lX5_at_0, fx_class, NH_at, NH_put, ↓reduceIte, List.mem_cons, List.not_mem_nil, or_false, or_self, false_or, true_and, and_true, Nat.reduceEqDiff, reduceCtorEq, List.length_cons, List.length_nil, Nat.reduceAdd, Nat.reduceLeDiff, Nat.reduceSub, Nat.reduceLT, Nat.zero_le, Nat.zero_add, forall_const, not_true_eq_false, not_false_eq_true, false_implies, true_implies, implies_true, Nat.zero_lt_succ, am_z0, am_z1]
      simp (disch := omega) only [hs_at, hs_put, hs_63, NH_at, NH_put, NH_cpy, ni_add, ni_mul, ni_clamp, ni_in, ni_eq, ni_lt, ni_le, ni_sub, Nat.reduceAdd, Nat.reduceMul, Nat.reduceSub, eq_self, true_implies, not_true_eq_false, false_implies, and_true, true_and, not_false_eq_true, Nat.reduceEqDiff, Nat.reduceLeDiff, Nat.reduceLT, implies_true, ite_true, ite_false, e1]
      have e : p = g 1 := by omega
      subst e
      refine ⟨fun _ => hq, fun c => absurd c (by omega)⟩
    | succ k ih =>
      intro p hp
      have hpe := hW.p (show p < 8 by omega)
      have h08 := hpe.1
      have q0 := (hR.2 p (by omega)).1
      have hnx := ih (p + 1) (by omega)
      refine am_goS gX5_at [4] 400 ?_
      simp only [am_eqs, am_eqk, am_eqv, lX5_at_0, fx_class, NH_at, NH_put, ↓reduceIte, List.mem_cons, List.not_mem_nil, or_false, or_self, false_or, true_and, and_true, Nat.reduceEqDiff, reduceCtorEq, List.length_cons, List.length_nil, Nat.reduceAdd, Nat.reduceLeDiff, Nat.reduceSub, Nat.reduceLT, Nat.zero_le, Nat.zero_add, forall_const, not_true_eq_false, not_false_eq_true, false_implies, true_implies, implies_true, Nat.zero_lt_succ, am_z0, am_z1]
      simp (disch := omega) only [hs_at, hs_put, hs_63, NH_at, NH_put, NH_cpy, ni_add, ni_mul, ni_clamp, ni_in, ni_eq, ni_lt, ni_le, ni_sub, Nat.reduceAdd, Nat.reduceMul, Nat.reduceSub, eq_self, true_implies, not_true_eq_false, false_implies, and_true, true_and, not_false_eq_true, Nat.reduceEqDiff, Nat.reduceLeDiff, Nat.reduceLT, implies_true, ite_true, ite_false, e1, q0, ni_shl, ni_or]
      refine ⟨fun c => absurd c (by omega), fun _ => ⟨by omega, fun e => ?_, fun e => ?_⟩⟩
      · rw [atK, if_pos e] at hnx; exact hnx
      · rw [atK, if_neg e] at hnx; exact hnx
  exact loop (g 1) 0 (by omega)
theorem ci_alone {vp : Int32} (hW : WF g t) (hR : RP g c) (hq : Q (sp_alone g vp) (NH c)) : am_C tT E (d + 2) mX11_alone [.inr 0, .inl vp] (NH c) Q := by
  have w1 := hW.1.2.1
  refine am_C.of (by decide) (Nat.le_of_ble_eq_true rfl) ?_
  show am_R tT E _ mX11_alone _ 0 [some (.inr 0), some (.inl vp)] [] (NH c)
  refine am_goS gX11_alone [] 400 ?_
  simp only [am_eqs, am_eqk, am_eqv, lX11_alone_0, fx_class, NH_at, NH_put, ↓reduceIte, List.mem_cons, List.not_mem_nil, or_false, or_self, false_or, true_and, and_true, Nat.reduceEqDiff, reduceCtorEq, List.length_cons, List.length_nil, Nat.reduceAdd, Nat.reduceLeDiff, Nat.reduceSub, Nat.reduceLT, Nat.zero_le, Nat.zero_add, forall_const, not_true_eq_false, not_false_eq_true, false_implies, true_implies, implies_true, Nat.zero_lt_succ, am_z0, am_z1]
  refine c_isPlace (fun z => ?_) (fun z => ?_)
  · simp (disch := omega) only [hs_at, hs_put, hs_63, NH_at, NH_put, NH_cpy, ni_add, ni_mul, ni_clamp, ni_in, ni_eq, ni_lt, ni_le, ni_sub, Nat.reduceAdd, Nat.reduceMul, Nat.reduceSub, eq_self, true_implies, not_true_eq_false, false_implies, and_true, true_and, not_false_eq_true, Nat.reduceEqDiff, Nat.reduceLeDiff, Nat.reduceLT, implies_true, ite_true, ite_false]
    rw [sp_alone, cif_pos z] at hq
    obtain ⟨pl, hpl, rfl⟩ := z
    rw [ni_clamp (by omega)] at hq
    exact c_at hpl hW hR (c_aloneAmong (atK_31 w1) hW hR hq)
  · simp (disch := omega) only [hs_at, hs_put, hs_63, NH_at, NH_put, NH_cpy, ni_add, ni_mul, ni_clamp, ni_in, ni_eq, ni_lt, ni_le, ni_sub, Nat.reduceAdd, Nat.reduceMul, Nat.reduceSub, eq_self, true_implies, not_true_eq_false, false_implies, and_true, true_and, not_false_eq_true, Nat.reduceEqDiff, Nat.reduceLeDiff, Nat.reduceLT, implies_true, ite_true, ite_false]
    rw [sp_alone, cif_neg z] at hq
    exact hq
end OPS5
