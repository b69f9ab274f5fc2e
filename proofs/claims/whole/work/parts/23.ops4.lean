/-! ===== part 23: cousins, alone ===== -/
theorem nz_bits {a x : Nat} (ha : a < 4294967296) : ¬ a &&& (x ^^^ 4294967295) = 0 ↔ ∃ n, a.testBit n = true ∧ x.testBit n = false := by
  have hb : ∀ n, (a &&& (x ^^^ 4294967295)).testBit n = true ↔ a.testBit n = true ∧ x.testBit n = false := by
    intro n
    rw [Nat.testBit_and, Nat.testBit_xor, show 4294967295 = 2 ^ 32 - 1 from rfl, Nat.testBit_two_pow_sub_one]
    by_cases hn : n < 32
    · simp [hn]
    · have : a.testBit n = false := Nat.testBit_lt_two_pow (Nat.lt_of_lt_of_le ha (Nat.pow_le_pow_right (n := 2) (by decide) (show 32 ≤ n by omega)))
      simp [this]
  constructor
  · intro h
    obtain ⟨n, hn⟩ := Nat.exists_testBit_of_ne_zero h
    exact ⟨n, (hb n).mp hn⟩
  · rintro ⟨n, hn⟩ e
    have := (hb n).mpr hn
    rw [e, Nat.zero_testBit] at this
    cases this
section OPS4
variable {E : am_E} {d : Nat} {h : am_H} {Q : Int32 → am_H → Prop} {g : Nat → Nat} {c : Nat → Nat → Nat} {t : Nat}
def couN (g : Nat → Nat) : Nat → Nat × Nat → Nat × Nat
  | 0, x => x
  | o + 1, x => if og g o 4 &&& (couN g o x).2 = 0 then couN g o x else ((couN g o x).1 ||| 1 <<< o, (couN g o x).2 ||| og g o 4)
def couM (g : Nat → Nat) : Nat → Nat × Nat → Nat × Nat
  | 0, x => x
  | r + 1, x => couN g (g 1) (couM g r x)
def cou (g : Nat → Nat) (p : Nat) : Nat := (couM g (g 1) (1 <<< p, og g p 4)).1 &&& (1 <<< p ^^^ 4294967295)
noncomputable def sp_cousins (g : Nat → Nat) (vp : Int32) : Int32 := cif (isB vp (g 1)) (nI (cou g vp.toNatClampNeg)) (-1)
theorem ri_cousins {vp : Int32} (hW : WF g t) (hq : Q (sp_cousins g vp) (hs h g)) : am_C tT E (d + 2) mX12_cousins [.inr 63, .inl vp] (hs h g) Q := by
  have hW2 := hW
  obtain ⟨⟨w0, w1, w2, w3, w4, w5, w6, w7, w8⟩, -⟩ := hW
  have hp20 := pow_20 w0
  refine am_C.of (by decide) (Nat.le_of_ble_eq_true rfl) ?_
  show am_R tT E _ mX12_cousins _ 0 [some (.inr 63), some (.inl vp), none, none, none, none] [] (hs h g)
  refine am_goS gX12_cousins [24] 400 ?_
  simp only [am_eqs, am_eqk, am_eqv, lX12_cousins_0, lX12_cousins_1, lX12_cousins_2, fx_ref, ↓reduceIte, List.mem_cons, List.not_mem_nil, or_false, or_self, false_or, true_and, and_true, Nat.reduceEqDiff, reduceCtorEq, List.length_cons, List.length_nil, Nat.reduceAdd, Nat.reduceLeDiff, Nat.reduceSub, Nat.reduceLT, Nat.zero_le, Nat.zero_add, forall_const, not_true_eq_false, not_false_eq_true, false_implies, true_implies, implies_true, Nat.zero_lt_succ, am_z0, am_z1]
  refine r_isPerson (by omega) (fun z => ?_) (fun z => ?_)
  · simp (disch := omega) only [hs_at, hs_put, hs_63, NH_at, NH_put, NH_cpy, ni_add, ni_mul, ni_clamp, ni_in, ni_eq, ni_lt, ni_le, ni_sub, Nat.reduceAdd, Nat.reduceMul, Nat.reduceSub, eq_self, true_implies, not_true_eq_false, false_implies, and_true, true_and, not_false_eq_true, Nat.reduceEqDiff, Nat.reduceLeDiff, Nat.reduceLT, implies_true, ite_true, ite_false]
    rw [sp_cousins, cif_pos z] at hq
    obtain ⟨p, hp, rfl⟩ := z
    refine r_own (by omega) (by omega) ?_
    simp (disch := omega) only [hs_at, hs_put, hs_63, NH_at, NH_put, NH_cpy, ni_add, ni_mul, ni_clamp, ni_in, ni_eq, ni_lt, ni_le, ni_sub, Nat.reduceAdd, Nat.reduceMul, Nat.reduceSub, eq_self, true_implies, not_true_eq_false, false_implies, and_true, true_and, not_false_eq_true, Nat.reduceEqDiff, Nat.reduceLeDiff, Nat.reduceLT, implies_true, ite_true, ite_false, ni_shl] at hq ⊢
    have inner : ∀ (r : Nat) (x : Nat × Nat), (am_R tT E (d + 2) mX12_cousins Q 24 [some (.inr 63), some (.inl (nI p)), some (.inl (nI (couN g (g 1) x).1)), some (.inl (nI (couN g (g 1) x).2)), some (.inl (nI (r + 1))), some (.inl (nI (g 1)))] [] (hs h g)) → r < g 1 → ∀ k o, o + k = g 1 → am_R tT E (d + 2) mX12_cousins Q 38 [some (.inr 63), some (.inl (nI p)), some (.inl (nI (couN g o x).1)), some (.inl (nI (couN g o x).2)), some (.inl (nI r)), some (.inl (nI o))] [] (hs h g) := by
      intro r x hend hr k
      induction k with
      | zero =>
        intro o ho
        have e : o = g 1 := by omega
        subst e
        refine am_goS gX12_cousins [24, 38] 400 ?_
        simp only [am_eqs, am_eqk, am_eqv, lX12_cousins_0, lX12_cousins_1, lX12_cousins_2, fx_ref, ↓reduceIte, List.mem_cons, List.not_mem_nil, or_false, or_self, false_or, true_and, and_true, Nat.reduceEqDiff, reduceCtorEq, List.length_cons, List.length_nil, Nat.reduceAdd, Nat.reduceLeDiff, Nat.reduceSub, Nat.reduceLT, Nat.zero_le, Nat.zero_add, forall_const, not_true_eq_false, not_false_eq_true, false_implies, true_implies, implies_true, Nat.zero_lt_succ, am_z0, am_z1]
        simp (disch := omega) only [hs_at, hs_put, hs_63, NH_at, NH_put, NH_cpy, ni_add, ni_mul, ni_clamp, ni_in, ni_eq, ni_lt, ni_le, ni_sub, Nat.reduceAdd, Nat.reduceMul, Nat.reduceSub, eq_self, true_implies, not_true_eq_false, false_implies, and_true, true_and, not_false_eq_true, Nat.reduceEqDiff, Nat.reduceLeDiff, Nat.reduceLT, implies_true, ite_true, ite_false]
        refine ⟨fun _ => hend, fun c => absurd c (by omega)⟩
      | succ k ih =>
        intro o ho
        have hpe := hW2.p (show o < 8 by omega)
        have h4 := hpe.2.2.2.2.1
        have hand := Nat.and_le_left (n := og g o 4) (m := (couN g o x).2)
        have hnx := ih (o + 1) (by omega)
        refine am_goS gX12_cousins [24, 38] 400 ?_
        simp only [am_eqs, am_eqk, am_eqv, lX12_cousins_0, lX12_cousins_1, lX12_cousins_2, fx_ref, ↓reduceIte, List.mem_cons, List.not_mem_nil, or_false, or_self, false_or, true_and, and_true, Nat.reduceEqDiff, reduceCtorEq, List.length_cons, List.length_nil, Nat.reduceAdd, Nat.reduceLeDiff, Nat.reduceSub, Nat.reduceLT, Nat.zero_le, Nat.zero_add, forall_const, not_true_eq_false, not_false_eq_true, false_implies, true_implies, implies_true, Nat.zero_lt_succ, am_z0, am_z1]
        simp (disch := omega) only [hs_at, hs_put, hs_63, NH_at, NH_put, NH_cpy, ni_add, ni_mul, ni_clamp, ni_in, ni_eq, ni_lt, ni_le, ni_sub, Nat.reduceAdd, Nat.reduceMul, Nat.reduceSub, eq_self, true_implies, not_true_eq_false, false_implies, and_true, true_and, not_false_eq_true, Nat.reduceEqDiff, Nat.reduceLeDiff, Nat.reduceLT, implies_true, ite_true, ite_false]
        refine ⟨fun c => absurd c (by omega), fun _ => ?_⟩
        refine r_own (by omega) (by omega) ?_
        simp (disch := omega) only [hs_at, hs_put, hs_63, NH_at, NH_put, NH_cpy, ni_add, ni_mul, ni_clamp, ni_in, ni_eq, ni_lt, ni_le, ni_sub, Nat.reduceAdd, Nat.reduceMul, Nat.reduceSub, eq_self, true_implies, not_true_eq_false, false_implies, and_true, true_and, not_false_eq_true, Nat.reduceEqDiff, Nat.reduceLeDiff, Nat.reduceLT, implies_true, ite_true, ite_false, ni_and]
        refine ⟨fun e => ?_, fun e => ?_⟩
        · rw [couN, if_pos e] at hnx
          exact hnx
        · rw [couN, if_neg e] at hnx
          refine r_own (by omega) (by omega) ?_
          simp (disch := omega) only [hs_at, hs_put, hs_63, NH_at, NH_put, NH_cpy, ni_add, ni_mul, ni_clamp, ni_in, ni_eq, ni_lt, ni_le, ni_sub, Nat.reduceAdd, Nat.reduceMul, Nat.reduceSub, eq_self, true_implies, not_true_eq_false, false_implies, and_true, true_and, not_false_eq_true, Nat.reduceEqDiff, Nat.reduceLeDiff, Nat.reduceLT, implies_true, ite_true, ite_false, ni_shl, ni_or]
          exact hnx
    have outer : ∀ k r (v : Option am_V), r + k = g 1 → am_R tT E (d + 2) mX12_cousins Q 24 [some (.inr 63), some (.inl (nI p)), some (.inl (nI (couM g r (1 <<< p, og g p 4)).1)), some (.inl (nI (couM g r (1 <<< p, og g p 4)).2)), some (.inl (nI r)), v] [] (hs h g) := by
      intro k
      induction k with
      | zero =>
        intro r v hr
        refine am_goS gX12_cousins [24, 38] 400 ?_
        simp only [am_eqs, am_eqk, am_eqv, lX12_cousins_0, lX12_cousins_1, lX12_cousins_2, fx_ref, ↓reduceIte, List.mem_cons, List.not_mem_nil, or_false, or_self, false_or, true_and, and_true, Nat.reduceEqDiff, reduceCtorEq, List.length_cons, List.length_nil, Nat.reduceAdd, Nat.reduceLeDiff, Nat.reduceSub, Nat.reduceLT, Nat.zero_le, Nat.zero_add, forall_const, not_true_eq_false, not_false_eq_true, false_implies, true_implies, implies_true, Nat.zero_lt_succ, am_z0, am_z1]
        simp (disch := omega) only [hs_at, hs_put, hs_63, NH_at, NH_put, NH_cpy, ni_add, ni_mul, ni_clamp, ni_in, ni_eq, ni_lt, ni_le, ni_sub, Nat.reduceAdd, Nat.reduceMul, Nat.reduceSub, eq_self, true_implies, not_true_eq_false, false_implies, and_true, true_and, not_false_eq_true, Nat.reduceEqDiff, Nat.reduceLeDiff, Nat.reduceLT, implies_true, ite_true, ite_false, ni_shl, ni_m1, ni_xor, ni_and]
        have e : r = g 1 := by omega
        subst e
        refine ⟨fun _ => hq, fun c => absurd c (by omega)⟩
      | succ k ih =>
        intro r v hr
        refine am_goS gX12_cousins [24, 38] 400 ?_
        simp only [am_eqs, am_eqk, am_eqv, lX12_cousins_0, lX12_cousins_1, lX12_cousins_2, fx_ref, ↓reduceIte, List.mem_cons, List.not_mem_nil, or_false, or_self, false_or, true_and, and_true, Nat.reduceEqDiff, reduceCtorEq, List.length_cons, List.length_nil, Nat.reduceAdd, Nat.reduceLeDiff, Nat.reduceSub, Nat.reduceLT, Nat.zero_le, Nat.zero_add, forall_const, not_true_eq_false, not_false_eq_true, false_implies, true_implies, implies_true, Nat.zero_lt_succ, am_z0, am_z1]
        simp (disch := omega) only [hs_at, hs_put, hs_63, NH_at, NH_put, NH_cpy, ni_add, ni_mul, ni_clamp, ni_in, ni_eq, ni_lt, ni_le, ni_sub, Nat.reduceAdd, Nat.reduceMul, Nat.reduceSub, eq_self, true_implies, not_true_eq_false, false_implies, and_true, true_and, not_false_eq_true, Nat.reduceEqDiff, Nat.reduceLeDiff, Nat.reduceLT, implies_true, ite_true, ite_false]
        refine ⟨fun c => absurd c (by omega), fun _ => ?_⟩
        exact inner r _ (ih (r + 1) _ (by omega)) (by omega) (g 1) 0 (by omega)
    exact outer (g 1) 0 _ (by omega)
  · simp (disch := omega) only [hs_at, hs_put, hs_63, NH_at, NH_put, NH_cpy, ni_add, ni_mul, ni_clamp, ni_in, ni_eq, ni_lt, ni_le, ni_sub, Nat.reduceAdd, Nat.reduceMul, Nat.reduceSub, eq_self, true_implies, not_true_eq_false, false_implies, and_true, true_and, not_false_eq_true, Nat.reduceEqDiff, Nat.reduceLeDiff, Nat.reduceLT, implies_true, ite_true, ite_false]
    rw [sp_cousins, cif_neg z] at hq
    exact hq
theorem c_cousinsOf {p : Nat} (hp : p < g 1) (hW : WF g t) (hR : RP g c) (he : RE g c) (hq : Q (nI (cou g p)) (NH c)) : am_C tT E d mX5_cousinsOf [.inr 6, .inl (nI p)] (NH c) Q := by
  have hW2 := hW
  obtain ⟨⟨w0, w1, w2, w3, w4, w5, w6, w7, w8⟩, -⟩ := hW
  have hp20 := pow_20 w0
  have e1 := hR.1
  have e4 : ∀ q, q < 8 → c 10 q = og g q 4 := he
  refine am_C.of (by decide) (Nat.le_of_ble_eq_true rfl) ?_
  show am_R tT E _ mX5_cousinsOf _ 0 [some (.inr 6), some (.inl (nI p)), none, none, none, none] [] (NH c)
  refine am_goS gX5_cousinsOf [14] 400 ?_
  simp only [am_eqs, am_eqk, am_eqv, lX5_cousinsOf_0, lX5_cousinsOf_1, lX5_cousinsOf_2, fx_class, NH_at, NH_put, ↓reduceIte, List.mem_cons, List.not_mem_nil, or_false, or_self, false_or, true_and, and_true, Nat.reduceEqDiff, reduceCtorEq, List.length_cons, List.length_nil, Nat.reduceAdd, Nat.reduceLeDiff, Nat.reduceSub, Nat.reduceLT, Nat.zero_le, Nat.zero_add, forall_const, not_true_eq_false, not_false_eq_true, false_implies, true_implies, implies_true, Nat.zero_lt_succ, am_z0, am_z1]
  simp (disch := omega) only [hs_at, hs_put, hs_63, NH_at, NH_put, NH_cpy, ni_add, ni_mul, ni_clamp, ni_in, ni_eq, ni_lt, ni_le, ni_sub, Nat.reduceAdd, Nat.reduceMul, Nat.reduceSub, eq_self, true_implies, not_true_eq_false, false_implies, and_true, true_and, not_false_eq_true, Nat.reduceEqDiff, Nat.reduceLeDiff, Nat.reduceLT, implies_true, ite_true, ite_false, ni_shl, e4 p (by omega)]
  refine ⟨by omega, ?_⟩
  have inner : ∀ (r : Nat) (x : Nat × Nat), (am_R tT E d mX5_cousinsOf Q 14 [some (.inr 6), some (.inl (nI p)), some (.inl (nI (couN g (g 1) x).1)), some (.inl (nI (couN g (g 1) x).2)), some (.inl (nI (r + 1))), some (.inl (nI (g 1)))] [] (NH c)) → r < g 1 → ∀ k o, o + k = g 1 → am_R tT E d mX5_cousinsOf Q 26 [some (.inr 6), some (.inl (nI p)), some (.inl (nI (couN g o x).1)), some (.inl (nI (couN g o x).2)), some (.inl (nI r)), some (.inl (nI o))] [] (NH c) := by
    intro r x hend hr k
    induction k with
    | zero =>
      intro o ho
      have e : o = g 1 := by omega
      subst e
      refine am_goS gX5_cousinsOf [14, 26] 400 ?_
      simp only [am_eqs, am_eqk, am_eqv, lX5_cousinsOf_0, lX5_cousinsOf_1, lX5_cousinsOf_2, fx_class, NH_at, NH_put, ↓reduceIte, List.mem_cons, List.not_mem_nil, or_false, or_self, false_or, true_and, and_true, Nat.reduceEqDiff, reduceCtorEq, List.length_cons, List.length_nil, Nat.reduceAdd, Nat.reduceLeDiff, Nat.reduceSub, Nat.reduceLT, Nat.zero_le, Nat.zero_add, forall_const, not_true_eq_false, not_false_eq_true, false_implies, true_implies, implies_true, Nat.zero_lt_succ, am_z0, am_z1]
      simp (disch := omega) only [hs_at, hs_put, hs_63, NH_at, NH_put, NH_cpy, ni_add, ni_mul, ni_clamp, ni_in, ni_eq, ni_lt, ni_le, ni_sub, Nat.reduceAdd, Nat.reduceMul, Nat.reduceSub, eq_self, true_implies, not_true_eq_false, false_implies, and_true, true_and, not_false_eq_true, Nat.reduceEqDiff, Nat.reduceLeDiff, Nat.reduceLT, implies_true, ite_true, ite_false, e1]
      refine ⟨fun _ => hend, fun c => absurd c (by omega)⟩
    | succ k ih =>
      intro o ho
      have hpe := hW2.p (show o < 8 by omega)
      have h4 := hpe.2.2.2.2.1
      have hand := Nat.and_le_left (n := og g o 4) (m := (couN g o x).2)
      have hnx := ih (o + 1) (by omega)
      refine am_goS gX5_cousinsOf [14, 26] 400 ?_
      simp only [am_eqs, am_eqk, am_eqv, lX5_cousinsOf_0, lX5_cousinsOf_1, lX5_cousinsOf_2, fx_class, NH_at, NH_put, ↓reduceIte, List.mem_cons, List.not_mem_nil, or_false, or_self, false_or, true_and, and_true, Nat.reduceEqDiff, reduceCtorEq, List.length_cons, List.length_nil, Nat.reduceAdd, Nat.reduceLeDiff, Nat.reduceSub, Nat.reduceLT, Nat.zero_le, Nat.zero_add, forall_const, not_true_eq_false, not_false_eq_true, false_implies, true_implies, implies_true, Nat.zero_lt_succ, am_z0, am_z1]
      simp (disch := omega) only [hs_at, hs_put, hs_63, NH_at, NH_put, NH_cpy, ni_add, ni_mul, ni_clamp, ni_in, ni_eq, ni_lt, ni_le, ni_sub, Nat.reduceAdd, Nat.reduceMul, Nat.reduceSub, eq_self, true_implies, not_true_eq_false, false_implies, and_true, true_and, not_false_eq_true, Nat.reduceEqDiff, Nat.reduceLeDiff, Nat.reduceLT, implies_true, ite_true, ite_false, e1, e4 o (by omega), ni_and, ni_shl, ni_or]
      refine ⟨fun c => absurd c (by omega), fun _ => ⟨by omega, fun e => ?_, fun e => ⟨by omega, ?_⟩⟩⟩
      · rw [couN, if_pos e] at hnx
        exact hnx
      · rw [couN, if_neg e] at hnx
        exact hnx
  have outer : ∀ k r (v : Option am_V), r + k = g 1 → am_R tT E d mX5_cousinsOf Q 14 [some (.inr 6), some (.inl (nI p)), some (.inl (nI (couM g r (1 <<< p, og g p 4)).1)), some (.inl (nI (couM g r (1 <<< p, og g p 4)).2)), some (.inl (nI r)), v] [] (NH c) := by
    intro k
    induction k with
    | zero =>
      intro r v hr
      refine am_goS gX5_cousinsOf [14, 26] 400 ?_
      simp only [am_eqs, am_eqk, am_eqv, lX5_cousinsOf_0, lX5_cousinsOf_1, lX5_cousinsOf_2, fx_class, NH_at, NH_put, ↓reduceIte, List.mem_cons, List.not_mem_nil, or_false, or_self, false_or, true_and, and_true, Nat.reduceEqDiff, reduceCtorEq, List.length_cons, List.length_nil, Nat.reduceAdd, Nat.reduceLeDiff, Nat.reduceSub, Nat.reduceLT, Nat.zero_le, Nat.zero_add, forall_const, not_true_eq_false, not_false_eq_true, false_implies, true_implies, implies_true, Nat.zero_lt_succ, am_z0, am_z1]
      simp (disch := omega) only [hs_at, hs_put, hs_63, NH_at, NH_put, NH_cpy, ni_add, ni_mul, ni_clamp, ni_in, ni_eq, ni_lt, ni_le, ni_sub, Nat.reduceAdd, Nat.reduceMul, Nat.reduceSub, eq_self, true_implies, not_true_eq_false, false_implies, and_true, true_and, not_false_eq_true, Nat.reduceEqDiff, Nat.reduceLeDiff, Nat.reduceLT, implies_true, ite_true, ite_false, ni_shl, ni_m1, ni_xor, ni_and, e1]
      have e : r = g 1 := by omega
      subst e
      refine ⟨fun _ => hq, fun c => absurd c (by omega)⟩
    | succ k ih =>
      intro r v hr
      refine am_goS gX5_cousinsOf [14, 26] 400 ?_
      simp only [am_eqs, am_eqk, am_eqv, lX5_cousinsOf_0, lX5_cousinsOf_1, lX5_cousinsOf_2, fx_class, NH_at, NH_put, ↓reduceIte, List.mem_cons, List.not_mem_nil, or_false, or_self, false_or, true_and, and_true, Nat.reduceEqDiff, reduceCtorEq, List.length_cons, List.length_nil, Nat.reduceAdd, Nat.reduceLeDiff, Nat.reduceSub, Nat.reduceLT, Nat.zero_le, Nat.zero_add, forall_const, not_true_eq_false, not_false_eq_true, false_implies, true_implies, implies_true, Nat.zero_lt_succ, am_z0, am_z1]
      simp (disch := omega) only [hs_at, hs_put, hs_63, NH_at, NH_put, NH_cpy, ni_add, ni_mul, ni_clamp, ni_in, ni_eq, ni_lt, ni_le, ni_sub, Nat.reduceAdd, Nat.reduceMul, Nat.reduceSub, eq_self, true_implies, not_true_eq_false, false_implies, and_true, true_and, not_false_eq_true, Nat.reduceEqDiff, Nat.reduceLeDiff, Nat.reduceLT, implies_true, ite_true, ite_false, e1]
      refine ⟨fun c => absurd c (by omega), fun _ => ?_⟩
      exact inner r _ (ih (r + 1) _ (by omega)) (by omega) (g 1) 0 (by omega)
  exact outer (g 1) 0 _ (by omega)
theorem ci_cousins {vp : Int32} (hW : WF g t) (hR : RP g c) (he : RE g c) (hq : Q (sp_cousins g vp) (NH c)) : am_C tT E (d + 1) mX11_cousins [.inr 0, .inl vp] (NH c) Q := by
  have e1 := hR.1
  have w1 := hW.1.2.1
  refine am_C.of (by decide) (Nat.le_of_ble_eq_true rfl) ?_
  show am_R tT E _ mX11_cousins _ 0 [some (.inr 0), some (.inl vp)] [] (NH c)
  refine am_goS gX11_cousins [] 400 ?_
  simp only [am_eqs, am_eqk, am_eqv, lX11_cousins_0, fx_class, NH_at, NH_put, ↓reduceIte, List.mem_cons, List.not_mem_nil, or_false, or_self, false_or, true_and, and_true, Nat.reduceEqDiff, reduceCtorEq, List.length_cons, List.length_nil, Nat.reduceAdd, Nat.reduceLeDiff, Nat.reduceSub, Nat.reduceLT, Nat.zero_le, Nat.zero_add, forall_const, not_true_eq_false, not_false_eq_true, false_implies, true_implies, implies_true, Nat.zero_lt_succ, am_z0, am_z1]
  refine c_isPerson (by omega) (fun z => ?_) (fun z => ?_)
  · simp (disch := omega) only [hs_at, hs_put, hs_63, NH_at, NH_put, NH_cpy, ni_add, ni_mul, ni_clamp, ni_in, ni_eq, ni_lt, ni_le, ni_sub, Nat.reduceAdd, Nat.reduceMul, Nat.reduceSub, eq_self, true_implies, not_true_eq_false, false_implies, and_true, true_and, not_false_eq_true, Nat.reduceEqDiff, Nat.reduceLeDiff, Nat.reduceLT, implies_true, ite_true, ite_false]
    rw [e1] at z
    rw [sp_cousins, cif_pos z] at hq
    obtain ⟨p, hp, rfl⟩ := z
    rw [ni_clamp (by omega)] at hq
    exact c_cousinsOf hp hW hR he hq
  · simp (disch := omega) only [hs_at, hs_put, hs_63, NH_at, NH_put, NH_cpy, ni_add, ni_mul, ni_clamp, ni_in, ni_eq, ni_lt, ni_le, ni_sub, Nat.reduceAdd, Nat.reduceMul, Nat.reduceSub, eq_self, true_implies, not_true_eq_false, false_implies, and_true, true_and, not_false_eq_true, Nat.reduceEqDiff, Nat.reduceLeDiff, Nat.reduceLT, implies_true, ite_true, ite_false]
    rw [e1] at z
    rw [sp_cousins, cif_neg z] at hq
    exact hq
/-! alone -/
def alnB (g : Nat → Nat) (s p : Nat) : Prop := ∃ n, (had g p).testBit n = true ∧ ∀ o, o < g 1 → o ≠ p → s >>> o &&& 1 = 1 → (had g o).testBit n = false
noncomputable def alnK (g : Nat → Nat) (s : Nat) : Nat → Nat
  | 0 => 0
  | p + 1 => cif (s >>> p &&& 1 = 1 ∧ alnB g s p) (alnK g s p ||| 1 <<< p) (alnK g s p)
noncomputable def aln (g : Nat → Nat) (s : Nat) : Nat := alnK g s (g 1)
def othK (g : Nat → Nat) (s p : Nat) : Nat → Nat
  | 0 => 0
  | o + 1 => if o ≠ p ∧ s >>> o &&& 1 = 1 then othK g s p o ||| had g o else othK g s p o
theorem othK_bit (g : Nat → Nat) (s p n : Nat) : ∀ k, (othK g s p k).testBit n = false ↔ ∀ o, o < k → o ≠ p → s >>> o &&& 1 = 1 → (had g o).testBit n = false := by
  intro k
  induction k with
  | zero => simp [othK]
  | succ k ih =>
    by_cases hc : k ≠ p ∧ s >>> k &&& 1 = 1
    · simp only [othK, if_pos hc, Nat.testBit_or, Bool.or_eq_false_iff, ih]
      constructor
      · rintro ⟨h1, h2⟩ o ho hop hs
        by_cases hok : o = k
        · rw [hok]; exact h2
        · exact h1 o (by omega) hop hs
      · intro h1
        exact ⟨fun o ho => h1 o (by omega), h1 k (by omega) hc.1 hc.2⟩
    · simp only [othK, if_neg hc, ih]
      constructor
      · intro h1 o ho hop hs
        by_cases hok : o = k
        · exact absurd ⟨hok ▸ hop, hok ▸ hs⟩ hc
        · exact h1 o (by omega) hop hs
      · intro h1 o ho
        exact h1 o (by omega)
theorem r_aloneOf {s : Nat} (hs31 : s < 2147483648) (hW : WF g t) (hq : Q (nI (aln g s)) (hs h g)) : am_C tT E (d + 2) mX12_aloneOf [.inr 63, .inl (nI s)] (hs h g) Q := by
  have hW2 := hW
  obtain ⟨⟨w0, w1, w2, w3, w4, w5, w6, w7, w8⟩, -⟩ := hW
  refine am_C.of (by decide) (Nat.le_of_ble_eq_true rfl) ?_
  show am_R tT E _ mX12_aloneOf _ 0 [some (.inr 63), some (.inl (nI s)), none, none, none, none] [] (hs h g)
  refine am_goS gX12_aloneOf [4] 400 ?_
  simp only [am_eqs, am_eqk, am_eqv, lX12_aloneOf_0, lX12_aloneOf_1, lX12_aloneOf_2, fx_ref, ↓reduceIte, List.mem_cons, List.not_mem_nil, or_false, or_self, false_or, true_and, and_true, Nat.reduceEqDiff, reduceCtorEq, List.length_cons, List.length_nil, Nat.reduceAdd, Nat.reduceLeDiff, Nat.reduceSub, Nat.reduceLT, Nat.zero_le, Nat.zero_add, forall_const, not_true_eq_false, not_false_eq_true, false_implies, true_implies, implies_true, Nat.zero_lt_succ, am_z0, am_z1]
  have inner : ∀ (p : Nat), p < g 1 → s >>> p &&& 1 = 1 → (∀ v v', am_R tT E (d + 2) mX12_aloneOf Q 4 [some (.inr 63), some (.inl (nI s)), some (.inl (nI (alnK g s (p + 1)))), some (.inl (nI (p + 1))), v, v'] [] (hs h g)) → ∀ k o, o + k = g 1 → am_R tT E (d + 2) mX12_aloneOf Q 31 [some (.inr 63), some (.inl (nI s)), some (.inl (nI (alnK g s p))), some (.inl (nI p)), some (.inl (nI (othK g s p o))), some (.inl (nI o))] [] (hs h g) := by
    intro p hp hsp hend k
    have hpe := hW2.p (show p < 8 by omega)
    induction k with
    | zero =>
      intro o ho
      have e : o = g 1 := by omega
      subst e
      have hh := had_20 w0 hpe
      have hand := Nat.and_le_left (n := had g p) (m := othK g s p (g 1) ^^^ 4294967295)
      refine am_goS gX12_aloneOf [4, 31] 400 ?_
      simp only [am_eqs, am_eqk, am_eqv, lX12_aloneOf_0, lX12_aloneOf_1, lX12_aloneOf_2, fx_ref, ↓reduceIte, List.mem_cons, List.not_mem_nil, or_false, or_self, false_or, true_and, and_true, Nat.reduceEqDiff, reduceCtorEq, List.length_cons, List.length_nil, Nat.reduceAdd, Nat.reduceLeDiff, Nat.reduceSub, Nat.reduceLT, Nat.zero_le, Nat.zero_add, forall_const, not_true_eq_false, not_false_eq_true, false_implies, true_implies, implies_true, Nat.zero_lt_succ, am_z0, am_z1]
      simp (disch := omega) only [hs_at, hs_put, hs_63, NH_at, NH_put, NH_cpy, ni_add, ni_mul, ni_clamp, ni_in, ni_eq, ni_lt, ni_le, ni_sub, Nat.reduceAdd, Nat.reduceMul, Nat.reduceSub, eq_self, true_implies, not_true_eq_false, false_implies, and_true, true_and, not_false_eq_true, Nat.reduceEqDiff, Nat.reduceLeDiff, Nat.reduceLT, implies_true, ite_true, ite_false]
      refine ⟨fun _ => ?_, fun c => absurd c (by omega)⟩
      refine r_had (by omega) hpe.2.2.1 (hpe.r20 w0) ?_
      simp (disch := omega) only [hs_at, hs_put, hs_63, NH_at, NH_put, NH_cpy, ni_add, ni_mul, ni_clamp, ni_in, ni_eq, ni_lt, ni_le, ni_sub, Nat.reduceAdd, Nat.reduceMul, Nat.reduceSub, eq_self, true_implies, not_true_eq_false, false_implies, and_true, true_and, not_false_eq_true, Nat.reduceEqDiff, Nat.reduceLeDiff, Nat.reduceLT, implies_true, ite_true, ite_false, ni_shl, ni_m1, ni_xor, ni_and]
      have hn : ¬ had g p &&& (othK g s p (g 1) ^^^ 4294967295) = 0 ↔ alnB g s p := by
        rw [nz_bits (by omega)]
        constructor
        · rintro ⟨n, h1, h2⟩
          exact ⟨n, h1, (othK_bit g s p n (g 1)).mp h2⟩
        · rintro ⟨n, h1, h2⟩
          exact ⟨n, h1, (othK_bit g s p n (g 1)).mpr h2⟩
      refine ⟨fun e => ?_, fun e => ?_⟩
      · have hx := hend (some (.inl (nI (othK g s p (g 1))))) (some (.inl (nI (g 1))))
        rw [alnK, cif_neg (fun q => hn.mpr q.2 e)] at hx
        simp (disch := omega) only [hs_at, hs_put, hs_63, NH_at, NH_put, NH_cpy, ni_add, ni_mul, ni_clamp, ni_in, ni_eq, ni_lt, ni_le, ni_sub, Nat.reduceAdd, Nat.reduceMul, Nat.reduceSub, eq_self, true_implies, not_true_eq_false, false_implies, and_true, true_and, not_false_eq_true, Nat.reduceEqDiff, Nat.reduceLeDiff, Nat.reduceLT, implies_true, ite_true, ite_false, ni_or, Nat.or_zero]
        exact hx
      · have hx := hend (some (.inl (nI (othK g s p (g 1))))) (some (.inl (nI (g 1))))
        rw [alnK, cif_pos ⟨hsp, hn.mp e⟩] at hx
        simp (disch := omega) only [hs_at, hs_put, hs_63, NH_at, NH_put, NH_cpy, ni_add, ni_mul, ni_clamp, ni_in, ni_eq, ni_lt, ni_le, ni_sub, Nat.reduceAdd, Nat.reduceMul, Nat.reduceSub, eq_self, true_implies, not_true_eq_false, false_implies, and_true, true_and, not_false_eq_true, Nat.reduceEqDiff, Nat.reduceLeDiff, Nat.reduceLT, implies_true, ite_true, ite_false, ni_or]
        exact hx
    | succ k ih =>
      intro o ho
      have hpo := hW2.p (show o < 8 by omega)
      have hnx := ih (o + 1) (by omega)
      have hb := bit01 s o
      refine am_goS gX12_aloneOf [4, 31] 400 ?_
      simp only [am_eqs, am_eqk, am_eqv, lX12_aloneOf_0, lX12_aloneOf_1, lX12_aloneOf_2, fx_ref, ↓reduceIte, List.mem_cons, List.not_mem_nil, or_false, or_self, false_or, true_and, and_true, Nat.reduceEqDiff, reduceCtorEq, List.length_cons, List.length_nil, Nat.reduceAdd, Nat.reduceLeDiff, Nat.reduceSub, Nat.reduceLT, Nat.zero_le, Nat.zero_add, forall_const, not_true_eq_false, not_false_eq_true, false_implies, true_implies, implies_true, Nat.zero_lt_succ, am_z0, am_z1]
      simp (disch := omega) only [hs_at, hs_put, hs_63, NH_at, NH_put, NH_cpy, ni_add, ni_mul, ni_clamp, ni_in, ni_eq, ni_lt, ni_le, ni_sub, Nat.reduceAdd, Nat.reduceMul, Nat.reduceSub, eq_self, true_implies, not_true_eq_false, false_implies, and_true, true_and, not_false_eq_true, Nat.reduceEqDiff, Nat.reduceLeDiff, Nat.reduceLT, implies_true, ite_true, ite_false, ni_shr, ni_and]
      refine ⟨fun c => absurd c (by omega), fun _ => ⟨fun e => ?_, fun e => ⟨fun e2 => ?_, fun e2 => ?_⟩⟩⟩
      · simp (disch := omega) only [hs_at, hs_put, hs_63, NH_at, NH_put, NH_cpy, ni_add, ni_mul, ni_clamp, ni_in, ni_eq, ni_lt, ni_le, ni_sub, Nat.reduceAdd, Nat.reduceMul, Nat.reduceSub, eq_self, true_implies, not_true_eq_false, false_implies, and_true, true_and, not_false_eq_true, Nat.reduceEqDiff, Nat.reduceLeDiff, Nat.reduceLT, implies_true, ite_true, ite_false, ni_or, Nat.or_zero]
        rw [othK, if_neg (fun q => q.1 e)] at hnx
        exact hnx
      · refine r_had (by omega) hpo.2.2.1 (hpo.r20 w0) ?_
        simp (disch := omega) only [hs_at, hs_put, hs_63, NH_at, NH_put, NH_cpy, ni_add, ni_mul, ni_clamp, ni_in, ni_eq, ni_lt, ni_le, ni_sub, Nat.reduceAdd, Nat.reduceMul, Nat.reduceSub, eq_self, true_implies, not_true_eq_false, false_implies, and_true, true_and, not_false_eq_true, Nat.reduceEqDiff, Nat.reduceLeDiff, Nat.reduceLT, implies_true, ite_true, ite_false, ni_or]
        rw [othK, if_pos ⟨e, e2⟩] at hnx
        exact hnx
      · simp (disch := omega) only [hs_at, hs_put, hs_63, NH_at, NH_put, NH_cpy, ni_add, ni_mul, ni_clamp, ni_in, ni_eq, ni_lt, ni_le, ni_sub, Nat.reduceAdd, Nat.reduceMul, Nat.reduceSub, eq_self, true_implies, not_true_eq_false, false_implies, and_true, true_and, not_false_eq_true, Nat.reduceEqDiff, Nat.reduceLeDiff, Nat.reduceLT, implies_true, ite_true, ite_false, ni_or, Nat.or_zero]
        rw [othK, if_neg (fun q => e2 q.2)] at hnx
        exact hnx
  have outer : ∀ k p (v v' : Option am_V), p + k = g 1 → am_R tT E (d + 2) mX12_aloneOf Q 4 [some (.inr 63), some (.inl (nI s)), some (.inl (nI (alnK g s p))), some (.inl (nI p)), v, v'] [] (hs h g) := by
    intro k
    induction k with
    | zero =>
      intro p v v' hp
      refine am_goS gX12_aloneOf [4, 31] 400 ?_
      simp only [am_eqs, am_eqk, am_eqv, lX12_aloneOf_0, lX12_aloneOf_1, lX12_aloneOf_2, fx_ref, ↓reduceIte, List.mem_cons, List.not_mem_nil, or_false, or_self, false_or, true_and, and_true, Nat.reduceEqDiff, reduceCtorEq, List.length_cons, List.length_nil, Nat.reduceAdd, Nat.reduceLeDiff, Nat.reduceSub, Nat.reduceLT, Nat.zero_le, Nat.zero_add, forall_const, not_true_eq_false, not_false_eq_true, false_implies, true_implies, implies_true, Nat.zero_lt_succ, am_z0, am_z1]
      simp (disch := omega) only [hs_at, hs_put, hs_63, NH_at, NH_put, NH_cpy, ni_add, ni_mul, ni_clamp, ni_in, ni_eq, ni_lt, ni_le, ni_sub, Nat.reduceAdd, Nat.reduceMul, Nat.reduceSub, eq_self, true_implies, not_true_eq_false, false_implies, and_true, true_and, not_false_eq_true, Nat.reduceEqDiff, Nat.reduceLeDiff, Nat.reduceLT, implies_true, ite_true, ite_false]
      have e : p = g 1 := by omega
      subst e
      refine ⟨fun _ => hq, fun c => absurd c (by omega)⟩
    | succ k ih =>
      intro p v v' hp
      have hb := bit01 s p
      refine am_goS gX12_aloneOf [4, 31] 400 ?_
      simp only [am_eqs, am_eqk, am_eqv, lX12_aloneOf_0, lX12_aloneOf_1, lX12_aloneOf_2, fx_ref, ↓reduceIte, List.mem_cons, List.not_mem_nil, or_false, or_self, false_or, true_and, and_true, Nat.reduceEqDiff, reduceCtorEq, List.length_cons, List.length_nil, Nat.reduceAdd, Nat.reduceLeDiff, Nat.reduceSub, Nat.reduceLT, Nat.zero_le, Nat.zero_add, forall_const, not_true_eq_false, not_false_eq_true, false_implies, true_implies, implies_true, Nat.zero_lt_succ, am_z0, am_z1]
      simp (disch := omega) only [hs_at, hs_put, hs_63, NH_at, NH_put, NH_cpy, ni_add, ni_mul, ni_clamp, ni_in, ni_eq, ni_lt, ni_le, ni_sub, Nat.reduceAdd, Nat.reduceMul, Nat.reduceSub, eq_self, true_implies, not_true_eq_false, false_implies, and_true, true_and, not_false_eq_true, Nat.reduceEqDiff, Nat.reduceLeDiff, Nat.reduceLT, implies_true, ite_true, ite_false, ni_shr, ni_and]
      refine ⟨fun c => absurd c (by omega), fun _ => ⟨fun e => ?_, fun e => ?_⟩⟩
      · have hx := ih (p + 1) v v' (by omega)
        rw [alnK, cif_neg (fun q => by omega)] at hx
        exact hx
      · exact inner p (by omega) (by omega) (fun v v' => ih (p + 1) v v' (by omega)) (g 1) 0 (by omega)
  exact outer (g 1) 0 _ _ (by omega)
end OPS4
