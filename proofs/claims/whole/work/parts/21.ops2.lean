/-! ===== part 21: look, of, called, cousins ===== -/
theorem isR {v : Int32} {a n : Nat} (ha : 0 < a) (hn : a + n < 2147483648) : (nI a ≤ v ∧ v ≤ nI (a + n - 1)) ↔ ∃ k, k < n ∧ v = nI (a + k) := by
  constructor
  · intro ⟨h0, h1⟩
    obtain ⟨e, hl⟩ := ni_ofInt (Int32.le_trans (show nI 0 ≤ nI a by rw [ni_le (by omega) (by omega)]; omega) h0)
    rw [e, ni_le (by omega) (by omega)] at h0
    rw [e, ni_le (by omega) (by omega)] at h1
    exact ⟨v.toInt.toNat - a, by omega, e.trans (congrArg nI (by omega))⟩
  · rintro ⟨k, hk, rfl⟩
    rw [ni_le (by omega) (by omega), ni_le (by omega) (by omega)]
    omega
section OPS2
variable {E : am_E} {d : Nat} {h : am_H} {Q : Int32 → am_H → Prop} {g : Nat → Nat} {c : Nat → Nat → Nat} {t : Nat}
noncomputable def sp_look2 (g : Nat → Nat) (v : Int32) : Int32 :=
  cif (∃ k, k < g 0 ∧ v = nI (20 + k)) (nI (g (v.toNatClampNeg - 10))) (cif (∃ k, k < g 0 ∧ v = nI (40 + k)) (nI (g (v.toNatClampNeg - 10))) (cif (∃ k, k < 2 * g 2 ∧ v = nI (60 + k)) (nI (g (v.toNatClampNeg - 10))) (-1)))
noncomputable def sp_look (g : Nat → Nat) (bm ln : Nat) (v : Int32) : Int32 :=
  cif (isB v 8) (nI (g v.toNatClampNeg)) (cif (v = nI 8) (nI ln) (cif (v = nI 9) (nI (g 8)) (cif (v = nI 10) (nI bm) (sp_look2 g v))))
theorem ri_look {v : Int32} {bm : Nat} (hW : WF g t) (hbm : h 63 4 = nI bm) (hq : Q (sp_look g bm (g 865) v) (hs h g)) : am_C tT E (d + 1) mX12_look [.inr 63, .inl v] (hs h g) Q := by
  obtain ⟨⟨w0, w1, w2, w3, w4, w5, w6, w7, w8⟩, -⟩ := hW
  refine am_C.of (by decide) (Nat.le_of_ble_eq_true rfl) ?_
  show am_R tT E _ mX12_look _ 0 [some (.inr 63), some (.inl v)] [] (hs h g)
  refine am_goS gX12_look [] 400 ?_
  simp only [am_eqs, am_eqk, am_eqv, lX12_look_0, lX12_look_1, lX12_look_2, lX12_look_3, fx_ref, ↓reduceIte, List.mem_cons, List.not_mem_nil, or_false, or_self, false_or, true_and, and_true, Nat.reduceEqDiff, reduceCtorEq, List.length_cons, List.length_nil, Nat.reduceAdd, Nat.reduceLeDiff, Nat.reduceSub, Nat.reduceLT, Nat.zero_le, Nat.zero_add, forall_const, not_true_eq_false, not_false_eq_true, false_implies, true_implies, implies_true, Nat.zero_lt_succ, am_z0, am_z1]
  refine r_isIn (fun z => ?_) (fun z => ?_)
  · obtain ⟨k, hk, rfl⟩ := (isB_c (N := 7) (by omega)).mp z
    rw [sp_look, cif_pos ⟨k, hk, rfl⟩] at hq
    simp (disch := omega) only [hs_at, hs_put, hs_63, NH_at, NH_put, NH_cpy, ni_add, ni_mul, ni_clamp, ni_in, ni_eq, ni_lt, ni_le, ni_sub, Nat.reduceAdd, Nat.reduceMul, Nat.reduceSub, eq_self, true_implies, not_true_eq_false, false_implies, and_true, true_and, not_false_eq_true, Nat.reduceEqDiff, Nat.reduceLeDiff, Nat.reduceLT, implies_true, ite_true, ite_false] at hq ⊢
    exact ⟨by omega, hq⟩
  · have z0 : ¬ isB v 8 := fun q => z ((isB_c (N := 7) (by omega)).mpr q)
    rw [sp_look, cif_neg z0] at hq
    simp (disch := omega) only [hs_at, hs_put, hs_63, NH_at, NH_put, NH_cpy, ni_add, ni_mul, ni_clamp, ni_in, ni_eq, ni_lt, ni_le, ni_sub, Nat.reduceAdd, Nat.reduceMul, Nat.reduceSub, eq_self, true_implies, not_true_eq_false, false_implies, and_true, true_and, not_false_eq_true, Nat.reduceEqDiff, Nat.reduceLeDiff, Nat.reduceLT, implies_true, ite_true, ite_false, hbm]
    refine ⟨fun e => ?_, fun n8 => ⟨fun e => ?_, fun n9 => ⟨fun e => ?_, fun n10 => ?_⟩⟩⟩
    · rw [cif_pos e] at hq; exact hq
    · rw [cif_neg n8, cif_pos e] at hq; exact hq
    · rw [cif_neg n8, cif_neg n9, cif_pos e] at hq; exact hq
    · rw [cif_neg n8, cif_neg n9, cif_neg n10, sp_look2] at hq
      rw [show 19 + g 0 = 20 + g 0 - 1 by omega]
      refine r_isIn (fun z1 => ?_) (fun z1 => ?_)
      · have z1 := (isR (by omega) (by omega)).mp z1
        rw [cif_pos z1] at hq
        obtain ⟨k, hk, rfl⟩ := z1
        simp (disch := omega) only [hs_at, hs_put, hs_63, NH_at, NH_put, NH_cpy, ni_add, ni_mul, ni_clamp, ni_in, ni_eq, ni_lt, ni_le, ni_sub, Nat.reduceAdd, Nat.reduceMul, Nat.reduceSub, eq_self, true_implies, not_true_eq_false, false_implies, and_true, true_and, not_false_eq_true, Nat.reduceEqDiff, Nat.reduceLeDiff, Nat.reduceLT, implies_true, ite_true, ite_false] at hq ⊢
        exact ⟨by omega, by rw [show 10 + (20 + k) - 20 = 20 + k - 10 by omega]; exact hq⟩
      · have z1 : ¬ _ := fun q => z1 ((isR (by omega) (by omega)).mpr q)
        rw [cif_neg z1] at hq
        simp (disch := omega) only [hs_at, hs_put, hs_63, NH_at, NH_put, NH_cpy, ni_add, ni_mul, ni_clamp, ni_in, ni_eq, ni_lt, ni_le, ni_sub, Nat.reduceAdd, Nat.reduceMul, Nat.reduceSub, eq_self, true_implies, not_true_eq_false, false_implies, and_true, true_and, not_false_eq_true, Nat.reduceEqDiff, Nat.reduceLeDiff, Nat.reduceLT, implies_true, ite_true, ite_false]
        rw [show 39 + g 0 = 40 + g 0 - 1 by omega]
        refine r_isIn (fun z2 => ?_) (fun z2 => ?_)
        · have z2 := (isR (by omega) (by omega)).mp z2
          rw [cif_pos z2] at hq
          obtain ⟨k, hk, rfl⟩ := z2
          simp (disch := omega) only [hs_at, hs_put, hs_63, NH_at, NH_put, NH_cpy, ni_add, ni_mul, ni_clamp, ni_in, ni_eq, ni_lt, ni_le, ni_sub, Nat.reduceAdd, Nat.reduceMul, Nat.reduceSub, eq_self, true_implies, not_true_eq_false, false_implies, and_true, true_and, not_false_eq_true, Nat.reduceEqDiff, Nat.reduceLeDiff, Nat.reduceLT, implies_true, ite_true, ite_false] at hq ⊢
          exact ⟨by omega, by rw [show 30 + (40 + k) - 40 = 40 + k - 10 by omega]; exact hq⟩
        · have z2 : ¬ _ := fun q => z2 ((isR (by omega) (by omega)).mpr q)
          rw [cif_neg z2] at hq
          simp (disch := omega) only [hs_at, hs_put, hs_63, NH_at, NH_put, NH_cpy, ni_add, ni_mul, ni_clamp, ni_in, ni_eq, ni_lt, ni_le, ni_sub, Nat.reduceAdd, Nat.reduceMul, Nat.reduceSub, eq_self, true_implies, not_true_eq_false, false_implies, and_true, true_and, not_false_eq_true, Nat.reduceEqDiff, Nat.reduceLeDiff, Nat.reduceLT, implies_true, ite_true, ite_false]
          rw [show 59 + 2 * g 2 = 60 + 2 * g 2 - 1 by omega]
          refine r_isIn (fun z3 => ?_) (fun z3 => ?_)
          · have z3 := (isR (by omega) (by omega)).mp z3
            rw [cif_pos z3] at hq
            obtain ⟨k, hk, rfl⟩ := z3
            simp (disch := omega) only [hs_at, hs_put, hs_63, NH_at, NH_put, NH_cpy, ni_add, ni_mul, ni_clamp, ni_in, ni_eq, ni_lt, ni_le, ni_sub, Nat.reduceAdd, Nat.reduceMul, Nat.reduceSub, eq_self, true_implies, not_true_eq_false, false_implies, and_true, true_and, not_false_eq_true, Nat.reduceEqDiff, Nat.reduceLeDiff, Nat.reduceLT, implies_true, ite_true, ite_false] at hq ⊢
            exact ⟨by omega, by rw [show 50 + (60 + k) - 60 = 60 + k - 10 by omega]; exact hq⟩
          · have z3 : ¬ _ := fun q => z3 ((isR (by omega) (by omega)).mpr q)
            rw [cif_neg z3] at hq
            simp (disch := omega) only [hs_at, hs_put, hs_63, NH_at, NH_put, NH_cpy, ni_add, ni_mul, ni_clamp, ni_in, ni_eq, ni_lt, ni_le, ni_sub, Nat.reduceAdd, Nat.reduceMul, Nat.reduceSub, eq_self, true_implies, not_true_eq_false, false_implies, and_true, true_and, not_false_eq_true, Nat.reduceEqDiff, Nat.reduceLeDiff, Nat.reduceLT, implies_true, ite_true, ite_false]
            exact hq
theorem c_lookAtParts {v : Int32} (hW : WF g t) (hw : RW g c) (hq : Q (sp_look2 g v) (NH c)) : am_C tT E (d + 1) mX11_lookAtParts [.inr 0, .inl v] (NH c) Q := by
  obtain ⟨⟨w0, w1, w2, w3, w4, w5, w6, w7, w8⟩, -⟩ := hW
  obtain ⟨⟨e5, e6, e7, e3, e0, e4, e8⟩, ek, el, -, -, e2, es⟩ := hw
  rw [sp_look2] at hq
  refine am_C.of (by decide) (Nat.le_of_ble_eq_true rfl) ?_
  show am_R tT E _ mX11_lookAtParts _ 0 [some (.inr 0), some (.inl v)] [] (NH c)
  refine am_goS gX11_lookAtParts [] 400 ?_
  simp only [am_eqs, am_eqk, am_eqv, lX11_lookAtParts_0, lX11_lookAtParts_1, lX11_lookAtParts_2, fx_class, NH_at, NH_put, ↓reduceIte, List.mem_cons, List.not_mem_nil, or_false, or_self, false_or, true_and, and_true, Nat.reduceEqDiff, reduceCtorEq, List.length_cons, List.length_nil, Nat.reduceAdd, Nat.reduceLeDiff, Nat.reduceSub, Nat.reduceLT, Nat.zero_le, Nat.zero_add, forall_const, not_true_eq_false, not_false_eq_true, false_implies, true_implies, implies_true, Nat.zero_lt_succ, am_z0, am_z1]
  simp (disch := omega) only [hs_at, hs_put, hs_63, NH_at, NH_put, NH_cpy, ni_add, ni_mul, ni_clamp, ni_in, ni_eq, ni_lt, ni_le, ni_sub, Nat.reduceAdd, Nat.reduceMul, Nat.reduceSub, eq_self, true_implies, not_true_eq_false, false_implies, and_true, true_and, not_false_eq_true, Nat.reduceEqDiff, Nat.reduceLeDiff, Nat.reduceLT, implies_true, ite_true, ite_false, e0, e2]
  refine c_within (fun z1 => ?_) (fun z1 => ?_)
  · have z1 := (isR (by omega) (by omega)).mp z1
    rw [cif_pos z1] at hq
    obtain ⟨k, hk, rfl⟩ := z1
    simp (disch := omega) only [hs_at, hs_put, hs_63, NH_at, NH_put, NH_cpy, ni_add, ni_mul, ni_clamp, ni_in, ni_eq, ni_lt, ni_le, ni_sub, Nat.reduceAdd, Nat.reduceMul, Nat.reduceSub, eq_self, true_implies, not_true_eq_false, false_implies, and_true, true_and, not_false_eq_true, Nat.reduceEqDiff, Nat.reduceLeDiff, Nat.reduceLT, implies_true, ite_true, ite_false] at hq ⊢
    refine ⟨by omega, ?_⟩
    rw [ek _ (by omega), show 10 + (20 + k - 20) = 20 + k - 10 by omega]
    exact hq
  · have z1 : ¬ _ := fun q => z1 ((isR (by omega) (by omega)).mpr q)
    rw [cif_neg z1] at hq
    simp (disch := omega) only [hs_at, hs_put, hs_63, NH_at, NH_put, NH_cpy, ni_add, ni_mul, ni_clamp, ni_in, ni_eq, ni_lt, ni_le, ni_sub, Nat.reduceAdd, Nat.reduceMul, Nat.reduceSub, eq_self, true_implies, not_true_eq_false, false_implies, and_true, true_and, not_false_eq_true, Nat.reduceEqDiff, Nat.reduceLeDiff, Nat.reduceLT, implies_true, ite_true, ite_false, e0, e2]
    refine c_within (fun z2 => ?_) (fun z2 => ?_)
    · have z2 := (isR (by omega) (by omega)).mp z2
      rw [cif_pos z2] at hq
      obtain ⟨k, hk, rfl⟩ := z2
      simp (disch := omega) only [hs_at, hs_put, hs_63, NH_at, NH_put, NH_cpy, ni_add, ni_mul, ni_clamp, ni_in, ni_eq, ni_lt, ni_le, ni_sub, Nat.reduceAdd, Nat.reduceMul, Nat.reduceSub, eq_self, true_implies, not_true_eq_false, false_implies, and_true, true_and, not_false_eq_true, Nat.reduceEqDiff, Nat.reduceLeDiff, Nat.reduceLT, implies_true, ite_true, ite_false] at hq ⊢
      refine ⟨by omega, ?_⟩
      rw [el _ (by omega), show 30 + (40 + k - 40) = 40 + k - 10 by omega]
      exact hq
    · have z2 : ¬ _ := fun q => z2 ((isR (by omega) (by omega)).mpr q)
      rw [cif_neg z2] at hq
      simp (disch := omega) only [hs_at, hs_put, hs_63, NH_at, NH_put, NH_cpy, ni_add, ni_mul, ni_clamp, ni_in, ni_eq, ni_lt, ni_le, ni_sub, Nat.reduceAdd, Nat.reduceMul, Nat.reduceSub, eq_self, true_implies, not_true_eq_false, false_implies, and_true, true_and, not_false_eq_true, Nat.reduceEqDiff, Nat.reduceLeDiff, Nat.reduceLT, implies_true, ite_true, ite_false, e0, e2]
      refine c_within (fun z3 => ?_) (fun z3 => ?_)
      · have z3 := (isR (by omega) (by omega)).mp z3
        rw [cif_pos z3] at hq
        obtain ⟨k, hk, rfl⟩ := z3
        simp (disch := omega) only [hs_at, hs_put, hs_63, NH_at, NH_put, NH_cpy, ni_add, ni_mul, ni_clamp, ni_in, ni_eq, ni_lt, ni_le, ni_sub, Nat.reduceAdd, Nat.reduceMul, Nat.reduceSub, eq_self, true_implies, not_true_eq_false, false_implies, and_true, true_and, not_false_eq_true, Nat.reduceEqDiff, Nat.reduceLeDiff, Nat.reduceLT, implies_true, ite_true, ite_false] at hq ⊢
        refine ⟨by omega, ?_⟩
        rw [es _ (by omega), show 50 + (60 + k - 60) = 60 + k - 10 by omega]
        exact hq
      · have z3 : ¬ _ := fun q => z3 ((isR (by omega) (by omega)).mpr q)
        rw [cif_neg z3] at hq
        simp (disch := omega) only [hs_at, hs_put, hs_63, NH_at, NH_put, NH_cpy, ni_add, ni_mul, ni_clamp, ni_in, ni_eq, ni_lt, ni_le, ni_sub, Nat.reduceAdd, Nat.reduceMul, Nat.reduceSub, eq_self, true_implies, not_true_eq_false, false_implies, and_true, true_and, not_false_eq_true, Nat.reduceEqDiff, Nat.reduceLeDiff, Nat.reduceLT, implies_true, ite_true, ite_false]
        exact hq
theorem ci_look {v : Int32} (hW : WF g t) (hw : RW g c) (hp : RP g c) (hq : Q (sp_look g (c 53 0) (c 17 0) v) (NH c)) : am_C tT E (d + 2) mX11_look [.inr 0, .inl v] (NH c) Q := by
  have hw2 := hw
  obtain ⟨⟨e5, e6, e7, e3, e0, e4, e8⟩, ek, el, -, -, e2, es⟩ := hw
  have e1 := hp.1
  rw [sp_look] at hq
  refine am_C.of (by decide) (Nat.le_of_ble_eq_true rfl) ?_
  show am_R tT E _ mX11_look _ 0 [some (.inr 0), some (.inl v)] [] (NH c)
  refine am_goS gX11_look [] 400 ?_
  simp only [am_eqs, am_eqk, am_eqv, lX11_look_0, lX11_look_1, lX11_look_2, fx_class, NH_at, NH_put, ↓reduceIte, List.mem_cons, List.not_mem_nil, or_false, or_self, false_or, true_and, and_true, Nat.reduceEqDiff, reduceCtorEq, List.length_cons, List.length_nil, Nat.reduceAdd, Nat.reduceLeDiff, Nat.reduceSub, Nat.reduceLT, Nat.zero_le, Nat.zero_add, forall_const, not_true_eq_false, not_false_eq_true, false_implies, true_implies, implies_true, Nat.zero_lt_succ, am_z0, am_z1]
  rw [e0, e1, e2, e3, e4, e5, e6, e7, e8]
  have kk : ∀ k, k < 8 → v = nI k → Q (nI (g k)) (NH c) := by
    rintro k hk rfl
    rw [cif_pos ⟨k, hk, rfl⟩, ni_clamp (by omega)] at hq
    exact hq
  refine ⟨kk 0 (by omega), fun n0 => ⟨kk 1 (by omega), fun n1 => ⟨kk 2 (by omega), fun n2 => ⟨kk 3 (by omega), fun n3 => ⟨kk 4 (by omega), fun n4 => ⟨kk 5 (by omega), fun n5 => ⟨kk 6 (by omega), fun n6 => ⟨kk 7 (by omega), fun n7 => ?_⟩⟩⟩⟩⟩⟩⟩⟩
  have z0 : ¬ isB v 8 := by
    rintro ⟨k, hk, rfl⟩
    have : k = 0 ∨ k = 1 ∨ k = 2 ∨ k = 3 ∨ k = 4 ∨ k = 5 ∨ k = 6 ∨ k = 7 := by omega
    rcases this with e | e | e | e | e | e | e | e <;> subst e <;> contradiction
  rw [cif_neg z0] at hq
  refine ⟨fun e => ?_, fun n8 => ⟨fun e => ?_, fun n9 => ⟨fun e => ?_, fun n10 => ?_⟩⟩⟩
  · rw [cif_pos e] at hq; exact hq
  · rw [cif_neg n8, cif_pos e] at hq; exact hq
  · rw [cif_neg n8, cif_neg n9, cif_pos e] at hq; exact hq
  · rw [cif_neg n8, cif_neg n9, cif_neg n10] at hq
    exact c_lookAtParts hW hw2 hq
/-- the letters of one's names, in the class -/
theorem c_lettersOf {p : Nat} (hp8 : p < 8) (hw : RW g c) (hp : RP g c) (hm : og g p 2 ≤ 9) (hb : ∀ i, i < og g p 2 → og g p (5 + i) < 20) (hq : Q (nI (letO g p)) (NH c)) : am_C tT E (d + 1) mX10_lettersOf [.inr 1, .inl (nI p)] (NH c) Q := by
  obtain ⟨-, ek, el, -⟩ := hw
  obtain ⟨e1, hp⟩ := hp
  obtain ⟨-, -, -, -, ez, er⟩ := hp p hp8
  refine am_C.of (by decide) (Nat.le_of_ble_eq_true rfl) ?_
  show am_R tT E _ mX10_lettersOf _ 0 [some (.inr 1), some (.inl (nI p)), none, none] [] (NH c)
  refine am_goS gX10_lettersOf [4] 400 ?_
  simp only [am_eqs, am_eqk, am_eqv, lX10_lettersOf_0, lX10_lettersOf_1, fx_class, NH_at, NH_put, ↓reduceIte, List.mem_cons, List.not_mem_nil, or_false, or_self, false_or, true_and, and_true, Nat.reduceEqDiff, reduceCtorEq, List.length_cons, List.length_nil, Nat.reduceAdd, Nat.reduceLeDiff, Nat.reduceSub, Nat.reduceLT, Nat.zero_le, Nat.zero_add, forall_const, not_true_eq_false, not_false_eq_true, false_implies, true_implies, implies_true, Nat.zero_lt_succ, am_z0, am_z1]
  have loop : ∀ k i, i + k = og g p 2 → am_R tT E (d + 1) mX10_lettersOf Q 4 [some (.inr 1), some (.inl (nI p)), some (.inl (nI (letK g p i))), some (.inl (nI i))] [] (NH c) := by
    intro k
    induction k with
    | zero =>
      intro i hi
      refine am_goS gX10_lettersOf [4] 400 ?_
      simp only [am_eqs, am_eqk, am_eqv, lX10_lettersOf_0, lX10_lettersOf_1, fx_class, NH_at, NH_put, ↓reduceIte, List.mem_cons, List.not_mem_nil, or_false, or_self, false_or, true_and, and_true, Nat.reduceEqDiff, reduceCtorEq, List.length_cons, List.length_nil, Nat.reduceAdd, Nat.reduceLeDiff, Nat.reduceSub, Nat.reduceLT, Nat.zero_le, Nat.zero_add, forall_const, not_true_eq_false, not_false_eq_true, false_implies, true_implies, implies_true, Nat.zero_lt_succ, am_z0, am_z1]
      rw [ni_clamp (show p < 2147483648 by omega), ez]
      simp (disch := omega) only [hs_at, hs_put, hs_63, NH_at, NH_put, NH_cpy, ni_add, ni_mul, ni_clamp, ni_in, ni_eq, ni_lt, ni_le, ni_sub, Nat.reduceAdd, Nat.reduceMul, Nat.reduceSub]
      have e : i = og g p 2 := by omega
      refine ⟨by omega, fun _ => by rw [e]; exact hq, fun c => absurd c (by omega)⟩
    | succ k ih =>
      intro i hi
      have hbi := hb i (by omega)
      refine am_goS gX10_lettersOf [4] 400 ?_
      simp only [am_eqs, am_eqk, am_eqv, lX10_lettersOf_0, lX10_lettersOf_1, fx_class, NH_at, NH_put, ↓reduceIte, List.mem_cons, List.not_mem_nil, or_false, or_self, false_or, true_and, and_true, Nat.reduceEqDiff, reduceCtorEq, List.length_cons, List.length_nil, Nat.reduceAdd, Nat.reduceLeDiff, Nat.reduceSub, Nat.reduceLT, Nat.zero_le, Nat.zero_add, forall_const, not_true_eq_false, not_false_eq_true, false_implies, true_implies, implies_true, Nat.zero_lt_succ, am_z0, am_z1]
      rw [ni_clamp (show p < 2147483648 by omega), ez]
      simp (disch := omega) only [hs_at, hs_put, hs_63, NH_at, NH_put, NH_cpy, ni_add, ni_mul, ni_clamp, ni_in, ni_eq, ni_lt, ni_le, ni_sub, Nat.reduceAdd, Nat.reduceMul, Nat.reduceSub]
      refine ⟨by omega, fun c => absurd c (by omega), fun _ => ?_⟩
      refine c_nameAt hp8 (by omega) ?_
      rw [er i (by omega)]
      simp (disch := omega) only [hs_at, hs_put, hs_63, NH_at, NH_put, NH_cpy, ni_add, ni_mul, ni_clamp, ni_in, ni_eq, ni_lt, ni_le, ni_sub, Nat.reduceAdd, Nat.reduceMul, Nat.reduceSub]
      refine ⟨by omega, ?_⟩
      rw [el _ (by omega)]
      exact ih (i + 1) (by omega)
  exact loop (og g p 2) 0 (by omega)
end OPS2
