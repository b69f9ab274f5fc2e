/-! ===== part 22: of, called, cousins ===== -/
theorem WF.p {g : Nat → Nat} {t : Nat} (hW : WF g t) {p : Nat} (hp : p < 8) : pers g p := hW.2.2.2.2.2.1 p hp
theorem pers.r20 {g : Nat → Nat} {p : Nat} (hp : pers g p) (h0 : g 0 ≤ 20) : ∀ i, i < og g p 2 → og g p (5 + i) < 20 := fun i hi => by have := hp.2.2.2.2.2.1 i hi; omega
theorem pers.r31 {g : Nat → Nat} {p : Nat} (hp : pers g p) (h0 : g 0 ≤ 20) : ∀ i, i < og g p 2 → og g p (5 + i) < 2147483648 := fun i hi => by have := hp.2.2.2.2.2.1 i hi; omega
section OPS3
variable {E : am_E} {d : Nat} {h : am_H} {Q : Int32 → am_H → Prop} {g : Nat → Nat} {c : Nat → Nat → Nat} {t : Nat}
noncomputable def sp_of1 (g : Nat → Nat) (p : Nat) (vw : Int32) : Int32 := cif (vw = nI 0) (nI (og g p 0)) (cif (vw = nI 1) (nI (og g p 1)) (cif (vw = nI 2) (nI (og g p 2)) (cif (vw = nI 3) (nI (letO g p)) (cif (vw = nI 4) (nI (og g p 3)) (cif (vw = nI 5) (nI (og g p 4)) (cif (vw = nI 6) (nI (had g p)) (cif (∃ k, k < og g p 2 ∧ vw = nI (10 + k)) (nI (og g p (vw.toNatClampNeg - 5))) (-1))))))))
noncomputable def sp_of (g : Nat → Nat) (vp vw : Int32) : Int32 := cif (isB vp (g 1)) (sp_of1 g vp.toNatClampNeg vw) (-1)
theorem ri_of {vp vw : Int32} (hW : WF g t) (hq : Q (sp_of g vp vw) (hs h g)) : am_C tT E (d + 2) mX12_of [.inr 63, .inl vp, .inl vw] (hs h g) Q := by
  have hW2 := hW
  obtain ⟨⟨w0, w1, w2, w3, w4, w5, w6, w7, w8⟩, -⟩ := hW
  refine am_C.of (by decide) (Nat.le_of_ble_eq_true rfl) ?_
  show am_R tT E _ mX12_of _ 0 [some (.inr 63), some (.inl vp), some (.inl vw)] [] (hs h g)
  refine am_goS gX12_of [] 400 ?_
  simp only [am_eqs, am_eqk, am_eqv, lX12_of_0, lX12_of_1, lX12_of_2, fx_ref, ↓reduceIte, List.mem_cons, List.not_mem_nil, or_false, or_self, false_or, true_and, and_true, Nat.reduceEqDiff, reduceCtorEq, List.length_cons, List.length_nil, Nat.reduceAdd, Nat.reduceLeDiff, Nat.reduceSub, Nat.reduceLT, Nat.zero_le, Nat.zero_add, forall_const, not_true_eq_false, not_false_eq_true, false_implies, true_implies, implies_true, Nat.zero_lt_succ, am_z0, am_z1]
  refine r_isPerson (by omega) (fun z => ?_) (fun z => ?_)
  · obtain ⟨p, hp, rfl⟩ := z
    have hpe := hW2.p (show p < 8 by omega)
    have hm := hpe.2.2.1
    rw [sp_of, cif_pos ⟨p, hp, rfl⟩, ni_clamp (by omega), sp_of1] at hq
    simp (disch := omega) only [hs_at, hs_put, hs_63, NH_at, NH_put, NH_cpy, ni_add, ni_mul, ni_clamp, ni_in, ni_eq, ni_lt, ni_le, ni_sub, Nat.reduceAdd, Nat.reduceMul, Nat.reduceSub, eq_self, true_implies, not_true_eq_false, false_implies, and_true, true_and, not_false_eq_true, Nat.reduceEqDiff, Nat.reduceLeDiff, Nat.reduceLT, implies_true, ite_true, ite_false]
    refine ⟨fun e => r_own (by omega) (by omega) ?_, fun n0 => ⟨fun e => r_own (by omega) (by omega) ?_, fun n1 => ⟨fun e => r_own (by omega) (by omega) ?_, fun n2 => ⟨fun e => r_lettersOf (by omega) hm (hpe.r20 w0) ?_, fun n3 => ⟨fun e => r_own (by omega) (by omega) ?_, fun n4 => ⟨fun e => r_own (by omega) (by omega) ?_, fun n5 => ⟨fun e => r_had (by omega) hm (hpe.r20 w0) ?_, fun n6 => r_own (by omega) (by omega) ?_⟩⟩⟩⟩⟩⟩⟩
    · rw [cif_pos e] at hq; exact hq
    · rw [cif_neg n0, cif_pos e] at hq; exact hq
    · rw [cif_neg n0, cif_neg n1, cif_pos e] at hq; exact hq
    · rw [cif_neg n0, cif_neg n1, cif_neg n2, cif_pos e] at hq; exact hq
    · rw [cif_neg n0, cif_neg n1, cif_neg n2, cif_neg n3, cif_pos e] at hq; exact hq
    · rw [cif_neg n0, cif_neg n1, cif_neg n2, cif_neg n3, cif_neg n4, cif_pos e] at hq; exact hq
    · rw [cif_neg n0, cif_neg n1, cif_neg n2, cif_neg n3, cif_neg n4, cif_neg n5, cif_pos e] at hq; exact hq
    · rw [cif_neg n0, cif_neg n1, cif_neg n2, cif_neg n3, cif_neg n4, cif_neg n5, cif_neg n6] at hq
      simp (disch := omega) only [hs_at, hs_put, hs_63, NH_at, NH_put, NH_cpy, ni_add, ni_mul, ni_clamp, ni_in, ni_eq, ni_lt, ni_le, ni_sub, Nat.reduceAdd, Nat.reduceMul, Nat.reduceSub, eq_self, true_implies, not_true_eq_false, false_implies, and_true, true_and, not_false_eq_true, Nat.reduceEqDiff, Nat.reduceLeDiff, Nat.reduceLT, implies_true, ite_true, ite_false]
      rw [show 9 + og g p 2 = 10 + og g p 2 - 1 by omega]
      refine r_isIn (fun z1 => ?_) (fun z1 => ?_)
      · have z1 := (isR (by omega) (by omega)).mp z1
        rw [cif_pos z1] at hq
        obtain ⟨k, hk, rfl⟩ := z1
        simp (disch := omega) only [hs_at, hs_put, hs_63, NH_at, NH_put, NH_cpy, ni_add, ni_mul, ni_clamp, ni_in, ni_eq, ni_lt, ni_le, ni_sub, Nat.reduceAdd, Nat.reduceMul, Nat.reduceSub, eq_self, true_implies, not_true_eq_false, false_implies, and_true, true_and, not_false_eq_true, Nat.reduceEqDiff, Nat.reduceLeDiff, Nat.reduceLT, implies_true, ite_true, ite_false] at hq ⊢
        refine r_own (by omega) (by omega) ?_
        rw [show 5 + (10 + k) - 10 = 10 + k - 5 by omega]
        exact hq
      · have z1 : ¬ _ := fun q => z1 ((isR (by omega) (by omega)).mpr q)
        rw [cif_neg z1] at hq
        simp (disch := omega) only [hs_at, hs_put, hs_63, NH_at, NH_put, NH_cpy, ni_add, ni_mul, ni_clamp, ni_in, ni_eq, ni_lt, ni_le, ni_sub, Nat.reduceAdd, Nat.reduceMul, Nat.reduceSub, eq_self, true_implies, not_true_eq_false, false_implies, and_true, true_and, not_false_eq_true, Nat.reduceEqDiff, Nat.reduceLeDiff, Nat.reduceLT, implies_true, ite_true, ite_false]
        exact hq
  · rw [sp_of, cif_neg z] at hq
    simp (disch := omega) only [hs_at, hs_put, hs_63, NH_at, NH_put, NH_cpy, ni_add, ni_mul, ni_clamp, ni_in, ni_eq, ni_lt, ni_le, ni_sub, Nat.reduceAdd, Nat.reduceMul, Nat.reduceSub, eq_self, true_implies, not_true_eq_false, false_implies, and_true, true_and, not_false_eq_true, Nat.reduceEqDiff, Nat.reduceLeDiff, Nat.reduceLT, implies_true, ite_true, ite_false]
    exact hq
theorem ci_of {vp vw : Int32} (hW : WF g t) (hw : RW g c) (hp : RP g c) (he : RE g c) (hq : Q (sp_of g vp vw) (NH c)) : am_C tT E (d + 2) mX11_of [.inr 0, .inl vp, .inl vw] (NH c) Q := by
  have hW2 := hW
  obtain ⟨⟨w0, w1, w2, w3, w4, w5, w6, w7, w8⟩, -⟩ := hW
  have e1 := hp.1
  refine am_C.of (by decide) (Nat.le_of_ble_eq_true rfl) ?_
  show am_R tT E _ mX11_of _ 0 [some (.inr 0), some (.inl vp), some (.inl vw), none] [] (NH c)
  refine am_goS gX11_of [] 400 ?_
  simp only [am_eqs, am_eqk, am_eqv, lX11_of_0, lX11_of_1, lX11_of_2, fx_class, NH_at, NH_put, ↓reduceIte, List.mem_cons, List.not_mem_nil, or_false, or_self, false_or, true_and, and_true, Nat.reduceEqDiff, reduceCtorEq, List.length_cons, List.length_nil, Nat.reduceAdd, Nat.reduceLeDiff, Nat.reduceSub, Nat.reduceLT, Nat.zero_le, Nat.zero_add, forall_const, not_true_eq_false, not_false_eq_true, false_implies, true_implies, implies_true, Nat.zero_lt_succ, am_z0, am_z1]
  refine c_isPerson (by omega) (fun z => ?_) (fun z => ?_)
  · rw [e1] at z
    obtain ⟨p, hpl, rfl⟩ := z
    have hpe := hW2.p (show p < 8 by omega)
    have hm := hpe.2.2.1
    obtain ⟨q0, q1, q3, q6, q2, q5⟩ := hp.2 p (by omega)
    have q4 := he p (by omega)
    rw [sp_of, cif_pos ⟨p, hpl, rfl⟩, ni_clamp (by omega), sp_of1] at hq
    simp (disch := omega) only [hs_at, hs_put, hs_63, NH_at, NH_put, NH_cpy, ni_add, ni_mul, ni_clamp, ni_in, ni_eq, ni_lt, ni_le, ni_sub, Nat.reduceAdd, Nat.reduceMul, Nat.reduceSub, eq_self, true_implies, not_true_eq_false, false_implies, and_true, true_and, not_false_eq_true, Nat.reduceEqDiff, Nat.reduceLeDiff, Nat.reduceLT, implies_true, ite_true, ite_false, q0, q1, q2, q3, q4, q6]
    have hp8 : p < 8 := by omega
    refine ⟨fun e => ⟨hp8, ?_⟩, fun n0 => ⟨fun e => ⟨hp8, ?_⟩, fun n1 => ⟨fun e => ⟨hp8, ?_⟩, fun n2 => ⟨fun e => c_lettersOf hp8 hw hp hm (hpe.r20 w0) ?_, fun n3 => ⟨fun e => ⟨hp8, ?_⟩, fun n4 => ⟨fun e => ⟨hp8, ?_⟩, fun n5 => ⟨fun e => ⟨hp8, ?_⟩, fun n6 => ⟨hp8, ?_⟩⟩⟩⟩⟩⟩⟩⟩
    · rw [cif_pos e] at hq; exact hq
    · rw [cif_neg n0, cif_pos e] at hq; exact hq
    · rw [cif_neg n0, cif_neg n1, cif_pos e] at hq; exact hq
    · rw [cif_neg n0, cif_neg n1, cif_neg n2, cif_pos e] at hq; exact hq
    · rw [cif_neg n0, cif_neg n1, cif_neg n2, cif_neg n3, cif_pos e] at hq; exact hq
    · rw [cif_neg n0, cif_neg n1, cif_neg n2, cif_neg n3, cif_neg n4, cif_pos e] at hq; exact hq
    · rw [cif_neg n0, cif_neg n1, cif_neg n2, cif_neg n3, cif_neg n4, cif_neg n5, cif_pos e] at hq; exact hq
    · rw [cif_neg n0, cif_neg n1, cif_neg n2, cif_neg n3, cif_neg n4, cif_neg n5, cif_neg n6] at hq
      refine c_isPart (by omega) (fun z1 => ?_) (fun z1 => ?_)
      · rw [cif_pos z1] at hq
        obtain ⟨k, hk, rfl⟩ := z1
        simp (disch := omega) only [hs_at, hs_put, hs_63, NH_at, NH_put, NH_cpy, ni_add, ni_mul, ni_clamp, ni_in, ni_eq, ni_lt, ni_le, ni_sub, Nat.reduceAdd, Nat.reduceMul, Nat.reduceSub, eq_self, true_implies, not_true_eq_false, false_implies, and_true, true_and, not_false_eq_true, Nat.reduceEqDiff, Nat.reduceLeDiff, Nat.reduceLT, implies_true, ite_true, ite_false] at hq ⊢
        refine c_nameAt hp8 (by omega) ?_
        rw [q5 _ (by omega), show 5 + (10 + k - 10) = 10 + k - 5 by omega]
        exact hq
      · rw [cif_neg z1] at hq
        simp (disch := omega) only [hs_at, hs_put, hs_63, NH_at, NH_put, NH_cpy, ni_add, ni_mul, ni_clamp, ni_in, ni_eq, ni_lt, ni_le, ni_sub, Nat.reduceAdd, Nat.reduceMul, Nat.reduceSub, eq_self, true_implies, not_true_eq_false, false_implies, and_true, true_and, not_false_eq_true, Nat.reduceEqDiff, Nat.reduceLeDiff, Nat.reduceLT, implies_true, ite_true, ite_false]
        exact hq
  · rw [e1] at z
    rw [sp_of, cif_neg z] at hq
    simp (disch := omega) only [hs_at, hs_put, hs_63, NH_at, NH_put, NH_cpy, ni_add, ni_mul, ni_clamp, ni_in, ni_eq, ni_lt, ni_le, ni_sub, Nat.reduceAdd, Nat.reduceMul, Nat.reduceSub, eq_self, true_implies, not_true_eq_false, false_implies, and_true, true_and, not_false_eq_true, Nat.reduceEqDiff, Nat.reduceLeDiff, Nat.reduceLT, implies_true, ite_true, ite_false]
    exact hq
/-- who at pl has the name n, of the first k -/
noncomputable def calK (g : Nat → Nat) (pl n : Nat) : Nat → Nat
  | 0 => 0
  | p + 1 => cif (og g p 0 = pl ∧ hasN g p n) (calK g pl n p ||| 1 <<< p) (calK g pl n p)
noncomputable def sp_called (g : Nat → Nat) (vp vn : Int32) : Int32 := cif (isB vp 8 ∧ isB vn (g 0)) (nI (calK g vp.toNatClampNeg vn.toNatClampNeg (g 1))) (-1)
theorem ri_called {vp vn : Int32} (hW : WF g t) (hq : Q (sp_called g vp vn) (hs h g)) : am_C tT E (d + 2) mX12_called [.inr 63, .inl vp, .inl vn] (hs h g) Q := by
  have hW2 := hW
  obtain ⟨⟨w0, w1, w2, w3, w4, w5, w6, w7, w8⟩, -⟩ := hW
  refine am_C.of (by decide) (Nat.le_of_ble_eq_true rfl) ?_
  show am_R tT E _ mX12_called _ 0 [some (.inr 63), some (.inl vp), some (.inl vn), none, none] [] (hs h g)
  refine am_goS gX12_called [22] 400 ?_
  simp only [am_eqs, am_eqk, am_eqv, lX12_called_0, lX12_called_1, fx_ref, ↓reduceIte, List.mem_cons, List.not_mem_nil, or_false, or_self, false_or, true_and, and_true, Nat.reduceEqDiff, reduceCtorEq, List.length_cons, List.length_nil, Nat.reduceAdd, Nat.reduceLeDiff, Nat.reduceSub, Nat.reduceLT, Nat.zero_le, Nat.zero_add, forall_const, not_true_eq_false, not_false_eq_true, false_implies, true_implies, implies_true, Nat.zero_lt_succ, am_z0, am_z1]
  refine r_isPlace (fun z1 => ?_) (fun z1 => ?_)
  · simp (disch := omega) only [hs_at, hs_put, hs_63, NH_at, NH_put, NH_cpy, ni_add, ni_mul, ni_clamp, ni_in, ni_eq, ni_lt, ni_le, ni_sub, Nat.reduceAdd, Nat.reduceMul, Nat.reduceSub, eq_self, true_implies, not_true_eq_false, false_implies, and_true, true_and, not_false_eq_true, Nat.reduceEqDiff, Nat.reduceLeDiff, Nat.reduceLT, implies_true, ite_true, ite_false]
    refine r_isName (by omega) (fun z2 => ?_) (fun z2 => ?_)
    · simp (disch := omega) only [hs_at, hs_put, hs_63, NH_at, NH_put, NH_cpy, ni_add, ni_mul, ni_clamp, ni_in, ni_eq, ni_lt, ni_le, ni_sub, Nat.reduceAdd, Nat.reduceMul, Nat.reduceSub, eq_self, true_implies, not_true_eq_false, false_implies, and_true, true_and, not_false_eq_true, Nat.reduceEqDiff, Nat.reduceLeDiff, Nat.reduceLT, implies_true, ite_true, ite_false]
      rw [sp_called, cif_pos ⟨z1, z2⟩] at hq
      obtain ⟨pl, hpl, rfl⟩ := z1
      obtain ⟨n, hn, rfl⟩ := z2
      rw [ni_clamp (by omega), ni_clamp (by omega)] at hq
      have loop : ∀ k p, p + k = g 1 → am_R tT E (d + 2) mX12_called Q 22 [some (.inr 63), some (.inl (nI pl)), some (.inl (nI n)), some (.inl (nI (calK g pl n p))), some (.inl (nI p))] [] (hs h g) := by
        intro k
        induction k with
        | zero =>
          intro p hk
          refine am_goS gX12_called [22] 400 ?_
          simp only [am_eqs, am_eqk, am_eqv, lX12_called_0, lX12_called_1, fx_ref, ↓reduceIte, List.mem_cons, List.not_mem_nil, or_false, or_self, false_or, true_and, and_true, Nat.reduceEqDiff, reduceCtorEq, List.length_cons, List.length_nil, Nat.reduceAdd, Nat.reduceLeDiff, Nat.reduceSub, Nat.reduceLT, Nat.zero_le, Nat.zero_add, forall_const, not_true_eq_false, not_false_eq_true, false_implies, true_implies, implies_true, Nat.zero_lt_succ, am_z0, am_z1]
          simp (disch := omega) only [hs_at, hs_put, hs_63, NH_at, NH_put, NH_cpy, ni_add, ni_mul, ni_clamp, ni_in, ni_eq, ni_lt, ni_le, ni_sub, Nat.reduceAdd, Nat.reduceMul, Nat.reduceSub, eq_self, true_implies, not_true_eq_false, false_implies, and_true, true_and, not_false_eq_true, Nat.reduceEqDiff, Nat.reduceLeDiff, Nat.reduceLT, implies_true, ite_true, ite_false]
          have e : p = g 1 := by omega
          refine ⟨fun _ => by rw [e]; exact hq, fun c => absurd c (by omega)⟩
        | succ k ih =>
          intro p hk
          have hpe := hW2.p (show p < 8 by omega)
          have hm := hpe.2.2.1
          have h08 := hpe.1
          refine am_goS gX12_called [22] 400 ?_
          simp only [am_eqs, am_eqk, am_eqv, lX12_called_0, lX12_called_1, fx_ref, ↓reduceIte, List.mem_cons, List.not_mem_nil, or_false, or_self, false_or, true_and, and_true, Nat.reduceEqDiff, reduceCtorEq, List.length_cons, List.length_nil, Nat.reduceAdd, Nat.reduceLeDiff, Nat.reduceSub, Nat.reduceLT, Nat.zero_le, Nat.zero_add, forall_const, not_true_eq_false, not_false_eq_true, false_implies, true_implies, implies_true, Nat.zero_lt_succ, am_z0, am_z1]
          simp (disch := omega) only [hs_at, hs_put, hs_63, NH_at, NH_put, NH_cpy, ni_add, ni_mul, ni_clamp, ni_in, ni_eq, ni_lt, ni_le, ni_sub, Nat.reduceAdd, Nat.reduceMul, Nat.reduceSub, eq_self, true_implies, not_true_eq_false, false_implies, and_true, true_and, not_false_eq_true, Nat.reduceEqDiff, Nat.reduceLeDiff, Nat.reduceLT, implies_true, ite_true, ite_false]
          refine ⟨fun c => absurd c (by omega), fun _ => ?_⟩
          refine r_own (by omega) (by omega) ?_
          simp (disch := omega) only [hs_at, hs_put, hs_63, NH_at, NH_put, NH_cpy, ni_add, ni_mul, ni_clamp, ni_in, ni_eq, ni_lt, ni_le, ni_sub, Nat.reduceAdd, Nat.reduceMul, Nat.reduceSub, eq_self, true_implies, not_true_eq_false, false_implies, and_true, true_and, not_false_eq_true, Nat.reduceEqDiff, Nat.reduceLeDiff, Nat.reduceLT, implies_true, ite_true, ite_false]
          have hnx := ih (p + 1) (by omega)
          refine ⟨fun e => r_has (by omega) (by omega) hm (hpe.r31 w0) (fun z => ?_) (fun z => ?_), fun e => ?_⟩
          · simp (disch := omega) only [hs_at, hs_put, hs_63, NH_at, NH_put, NH_cpy, ni_add, ni_mul, ni_clamp, ni_in, ni_eq, ni_lt, ni_le, ni_sub, Nat.reduceAdd, Nat.reduceMul, Nat.reduceSub, eq_self, true_implies, not_true_eq_false, false_implies, and_true, true_and, not_false_eq_true, Nat.reduceEqDiff, Nat.reduceLeDiff, Nat.reduceLT, implies_true, ite_true, ite_false, ni_shl, ni_or]
            rw [calK, cif_pos ⟨e, z⟩] at hnx
            exact hnx
          · simp (disch := omega) only [hs_at, hs_put, hs_63, NH_at, NH_put, NH_cpy, ni_add, ni_mul, ni_clamp, ni_in, ni_eq, ni_lt, ni_le, ni_sub, Nat.reduceAdd, Nat.reduceMul, Nat.reduceSub, eq_self, true_implies, not_true_eq_false, false_implies, and_true, true_and, not_false_eq_true, Nat.reduceEqDiff, Nat.reduceLeDiff, Nat.reduceLT, implies_true, ite_true, ite_false, ni_or, Nat.or_zero]
            rw [calK, cif_neg (fun q => z q.2)] at hnx
            exact hnx
          · simp (disch := omega) only [hs_at, hs_put, hs_63, NH_at, NH_put, NH_cpy, ni_add, ni_mul, ni_clamp, ni_in, ni_eq, ni_lt, ni_le, ni_sub, Nat.reduceAdd, Nat.reduceMul, Nat.reduceSub, eq_self, true_implies, not_true_eq_false, false_implies, and_true, true_and, not_false_eq_true, Nat.reduceEqDiff, Nat.reduceLeDiff, Nat.reduceLT, implies_true, ite_true, ite_false, ni_or, Nat.or_zero]
            rw [calK, cif_neg (fun q => e q.1)] at hnx
            exact hnx
      exact loop (g 1) 0 (by omega)
    · simp (disch := omega) only [hs_at, hs_put, hs_63, NH_at, NH_put, NH_cpy, ni_add, ni_mul, ni_clamp, ni_in, ni_eq, ni_lt, ni_le, ni_sub, Nat.reduceAdd, Nat.reduceMul, Nat.reduceSub, eq_self, true_implies, not_true_eq_false, false_implies, and_true, true_and, not_false_eq_true, Nat.reduceEqDiff, Nat.reduceLeDiff, Nat.reduceLT, implies_true, ite_true, ite_false]
      rw [sp_called, cif_neg (fun z => z2 z.2)] at hq
      exact hq
  · simp (disch := omega) only [hs_at, hs_put, hs_63, NH_at, NH_put, NH_cpy, ni_add, ni_mul, ni_clamp, ni_in, ni_eq, ni_lt, ni_le, ni_sub, Nat.reduceAdd, Nat.reduceMul, Nat.reduceSub, eq_self, true_implies, not_true_eq_false, false_implies, and_true, true_and, not_false_eq_true, Nat.reduceEqDiff, Nat.reduceLeDiff, Nat.reduceLT, implies_true, ite_true, ite_false]
    rw [sp_called, cif_neg (fun z => z1 z.1)] at hq
    exact hq
theorem ci_called {vp vn : Int32} (hW : WF g t) (hw : RW g c) (hp : RP g c) (hq : Q (sp_called g vp vn) (NH c)) : am_C tT E (d + 2) mX11_called [.inr 0, .inl vp, .inl vn] (NH c) Q := by
  have hW2 := hW
  obtain ⟨⟨w0, w1, w2, w3, w4, w5, w6, w7, w8⟩, -⟩ := hW
  obtain ⟨⟨e5, e6, e7, e3, e0, e4, e8⟩, ek, el, -, -, e2, es⟩ := hw
  have e1 := hp.1
  refine am_C.of (by decide) (Nat.le_of_ble_eq_true rfl) ?_
  show am_R tT E _ mX11_called _ 0 [some (.inr 0), some (.inl vp), some (.inl vn), none, none] [] (NH c)
  refine am_goS gX11_called [25] 400 ?_
  simp only [am_eqs, am_eqk, am_eqv, lX11_called_0, lX11_called_1, fx_class, NH_at, NH_put, ↓reduceIte, List.mem_cons, List.not_mem_nil, or_false, or_self, false_or, true_and, and_true, Nat.reduceEqDiff, reduceCtorEq, List.length_cons, List.length_nil, Nat.reduceAdd, Nat.reduceLeDiff, Nat.reduceSub, Nat.reduceLT, Nat.zero_le, Nat.zero_add, forall_const, not_true_eq_false, not_false_eq_true, false_implies, true_implies, implies_true, Nat.zero_lt_succ, am_z0, am_z1]
  refine c_isPlace (fun z1 => ?_) (fun z1 => ?_)
  · simp (disch := omega) only [hs_at, hs_put, hs_63, NH_at, NH_put, NH_cpy, ni_add, ni_mul, ni_clamp, ni_in, ni_eq, ni_lt, ni_le, ni_sub, Nat.reduceAdd, Nat.reduceMul, Nat.reduceSub, eq_self, true_implies, not_true_eq_false, false_implies, and_true, true_and, not_false_eq_true, Nat.reduceEqDiff, Nat.reduceLeDiff, Nat.reduceLT, implies_true, ite_true, ite_false]
    refine c_isName (by omega) (fun z2 => ?_) (fun z2 => ?_)
    · simp (disch := omega) only [hs_at, hs_put, hs_63, NH_at, NH_put, NH_cpy, ni_add, ni_mul, ni_clamp, ni_in, ni_eq, ni_lt, ni_le, ni_sub, Nat.reduceAdd, Nat.reduceMul, Nat.reduceSub, eq_self, true_implies, not_true_eq_false, false_implies, and_true, true_and, not_false_eq_true, Nat.reduceEqDiff, Nat.reduceLeDiff, Nat.reduceLT, implies_true, ite_true, ite_false]
      rw [e0] at z2
      rw [sp_called, cif_pos ⟨z1, z2⟩] at hq
      obtain ⟨pl, hpl, rfl⟩ := z1
      obtain ⟨n, hn, rfl⟩ := z2
      rw [ni_clamp (by omega), ni_clamp (by omega)] at hq
      have loop : ∀ k p, p + k = g 1 → am_R tT E (d + 2) mX11_called Q 25 [some (.inr 0), some (.inl (nI pl)), some (.inl (nI n)), some (.inl (nI (calK g pl n p))), some (.inl (nI p))] [] (NH c) := by
        intro k
        induction k with
        | zero =>
          intro p hk
          refine am_goS gX11_called [25] 400 ?_
          simp only [am_eqs, am_eqk, am_eqv, lX11_called_0, lX11_called_1, fx_class, NH_at, NH_put, ↓reduceIte, List.mem_cons, List.not_mem_nil, or_false, or_self, false_or, true_and, and_true, Nat.reduceEqDiff, reduceCtorEq, List.length_cons, List.length_nil, Nat.reduceAdd, Nat.reduceLeDiff, Nat.reduceSub, Nat.reduceLT, Nat.zero_le, Nat.zero_add, forall_const, not_true_eq_false, not_false_eq_true, false_implies, true_implies, implies_true, Nat.zero_lt_succ, am_z0, am_z1]
          simp (disch := omega) only [hs_at, hs_put, hs_63, NH_at, NH_put, NH_cpy, ni_add, ni_mul, ni_clamp, ni_in, ni_eq, ni_lt, ni_le, ni_sub, Nat.reduceAdd, Nat.reduceMul, Nat.reduceSub, eq_self, true_implies, not_true_eq_false, false_implies, and_true, true_and, not_false_eq_true, Nat.reduceEqDiff, Nat.reduceLeDiff, Nat.reduceLT, implies_true, ite_true, ite_false, e1]
          have e : p = g 1 := by omega
          refine ⟨fun _ => by rw [e]; exact hq, fun c => absurd c (by omega)⟩
        | succ k ih =>
          intro p hk
          have hpe := hW2.p (show p < 8 by omega)
          have h08 := hpe.1
          have hh := had_20 w0 hpe
          obtain ⟨q0, q1, q3, q6, q2, q5⟩ := hp.2 p (by omega)
          refine am_goS gX11_called [25] 400 ?_
          simp only [am_eqs, am_eqk, am_eqv, lX11_called_0, lX11_called_1, fx_class, NH_at, NH_put, ↓reduceIte, List.mem_cons, List.not_mem_nil, or_false, or_self, false_or, true_and, and_true, Nat.reduceEqDiff, reduceCtorEq, List.length_cons, List.length_nil, Nat.reduceAdd, Nat.reduceLeDiff, Nat.reduceSub, Nat.reduceLT, Nat.zero_le, Nat.zero_add, forall_const, not_true_eq_false, not_false_eq_true, false_implies, true_implies, implies_true, Nat.zero_lt_succ, am_z0, am_z1]
          simp (disch := omega) only [hs_at, hs_put, hs_63, NH_at, NH_put, NH_cpy, ni_add, ni_mul, ni_clamp, ni_in, ni_eq, ni_lt, ni_le, ni_sub, Nat.reduceAdd, Nat.reduceMul, Nat.reduceSub, eq_self, true_implies, not_true_eq_false, false_implies, and_true, true_and, not_false_eq_true, Nat.reduceEqDiff, Nat.reduceLeDiff, Nat.reduceLT, implies_true, ite_true, ite_false, e1, q0]
          refine ⟨fun c => absurd c (by omega), fun _ => ⟨by omega, ?_⟩⟩
          have hnx := ih (p + 1) (by omega)
          refine ⟨fun e => c_hasName (by omega) (by omega) (by omega) (fun z => ?_) (fun z => ?_), fun e => ?_⟩
          · simp (disch := omega) only [hs_at, hs_put, hs_63, NH_at, NH_put, NH_cpy, ni_add, ni_mul, ni_clamp, ni_in, ni_eq, ni_lt, ni_le, ni_sub, Nat.reduceAdd, Nat.reduceMul, Nat.reduceSub, eq_self, true_implies, not_true_eq_false, false_implies, and_true, true_and, not_false_eq_true, Nat.reduceEqDiff, Nat.reduceLeDiff, Nat.reduceLT, implies_true, ite_true, ite_false, ni_shl, ni_or]
            rw [q6, had_bit] at z
            rw [calK, cif_pos ⟨e, z⟩] at hnx
            exact hnx
          · simp (disch := omega) only [hs_at, hs_put, hs_63, NH_at, NH_put, NH_cpy, ni_add, ni_mul, ni_clamp, ni_in, ni_eq, ni_lt, ni_le, ni_sub, Nat.reduceAdd, Nat.reduceMul, Nat.reduceSub, eq_self, true_implies, not_true_eq_false, false_implies, and_true, true_and, not_false_eq_true, Nat.reduceEqDiff, Nat.reduceLeDiff, Nat.reduceLT, implies_true, ite_true, ite_false]
            rw [q6] at z
            have z : ¬ hasN g p n := fun q => by have := (had_bit g p n).mpr q; omega
            rw [calK, cif_neg (fun q => z q.2)] at hnx
            exact hnx
          · rw [calK, cif_neg (fun q => e q.1)] at hnx
            exact hnx
      exact loop (g 1) 0 (by omega)
    · simp (disch := omega) only [hs_at, hs_put, hs_63, NH_at, NH_put, NH_cpy, ni_add, ni_mul, ni_clamp, ni_in, ni_eq, ni_lt, ni_le, ni_sub, Nat.reduceAdd, Nat.reduceMul, Nat.reduceSub, eq_self, true_implies, not_true_eq_false, false_implies, and_true, true_and, not_false_eq_true, Nat.reduceEqDiff, Nat.reduceLeDiff, Nat.reduceLT, implies_true, ite_true, ite_false]
      rw [e0] at z2
      rw [sp_called, cif_neg (fun z => z2 z.2)] at hq
      exact hq
  · simp (disch := omega) only [hs_at, hs_put, hs_63, NH_at, NH_put, NH_cpy, ni_add, ni_mul, ni_clamp, ni_in, ni_eq, ni_lt, ni_le, ni_sub, Nat.reduceAdd, Nat.reduceMul, Nat.reduceSub, eq_self, true_implies, not_true_eq_false, false_implies, and_true, true_and, not_false_eq_true, Nat.reduceEqDiff, Nat.reduceLeDiff, Nat.reduceLT, implies_true, ite_true, ite_false]
    rw [sp_called, cif_neg (fun z => z1 z.1)] at hq
    exact hq
end OPS3
