/-! ===== part 53: the class's walk ===== -/
section CWALK
variable {E : am_E} {d : Nat} {h : am_H} {Q : Int32 → am_H → Prop} {g g0 : Nat → Nat} {c : Nat → Nat → Nat} {t : Nat}
theorem c_standsAtT {p : Nat} {vb : Int32} (hp : p < 8) (hW : WF g t) (hA : RAt g c) (h1 : isB vb (g 2) ∧ tou g vb.toNatClampNeg (og g p 0) → Q (nI 1) (NH c)) (h0 : ¬ (isB vb (g 2) ∧ tou g vb.toNatClampNeg (og g p 0)) → Q (nI 0) (NH c)) : am_C tT E (d + 1) mX10_standsAt [.inr 1, .inl (nI p), .inl vb] (NH c) Q := by
  have e2 : c 14 0 = g 2 := hA.1.2.2.2.2.2.1
  have es := hA.1.2.2.2.2.2.2
  have h08 := (hW.p hp).1
  have q0 := (hA.2.1.2 p hp).1
  have a3 := hW.2.2.1
  have w2 := hW.1.2.2.1
  refine am_C.of (by decide) (Nat.le_of_ble_eq_true rfl) ?_
  show am_R tT E _ mX10_standsAt _ 0 [some (.inr 1), some (.inl (nI p)), some (.inl vb)] [] (NH c)
  refine am_goS gX10_standsAt [] 400 ?_
  simp only [am_eqs, am_eqk, am_eqv, lX10_standsAt_0, fx_class, NH_at, NH_put, ↓reduceIte, List.mem_cons, List.not_mem_nil, or_false, or_self, false_or, true_and, and_true, Nat.reduceEqDiff, reduceCtorEq, List.length_cons, List.length_nil, Nat.reduceAdd, Nat.reduceLeDiff, Nat.reduceSub, Nat.reduceLT, Nat.zero_le, Nat.zero_add, forall_const, not_true_eq_false, not_false_eq_true, false_implies, true_implies, implies_true, Nat.zero_lt_succ, am_z0, am_z1]
  refine c_isBridge (by omega) (fun z => ?_) (fun z => ?_)
  · rw [e2] at z
    obtain ⟨b, hb, rfl⟩ := z
    obtain ⟨s1, s2⟩ := a3 b (by omega)
    have i1 := es (2 * b) (by omega)
    have i2 := es (2 * b + 1) (by omega)
    rw [show 50 + (2 * b + 1) = 51 + 2 * b by omega] at i2
    simp (disch := omega) only [hs_at, hs_put, hs_63, NH_at, NH_put, NH_cpy, ni_add, ni_mul, ni_clamp, ni_in, ni_eq, ni_lt, ni_le, ni_sub, Nat.reduceAdd, Nat.reduceMul, Nat.reduceSub, eq_self, true_implies, not_true_eq_false, false_implies, and_true, true_and, not_false_eq_true, Nat.reduceEqDiff, Nat.reduceLeDiff, Nat.reduceLT, implies_true, ite_true, ite_false, q0]
    refine ⟨by omega, ?_⟩
    rw [ni_clamp (by omega)] at h1 h0
    refine c_touches (by omega) h08 (by omega) (by omega) (fun y => ?_) (fun y => ?_)
    · simp (disch := omega) only [hs_at, hs_put, hs_63, NH_at, NH_put, NH_cpy, ni_add, ni_mul, ni_clamp, ni_in, ni_eq, ni_lt, ni_le, ni_sub, Nat.reduceAdd, Nat.reduceMul, Nat.reduceSub, eq_self, true_implies, not_true_eq_false, false_implies, and_true, true_and, not_false_eq_true, Nat.reduceEqDiff, Nat.reduceLeDiff, Nat.reduceLT, implies_true, ite_true, ite_false]
      rw [i1, i2] at y
      exact h1 ⟨⟨b, hb, rfl⟩, y⟩
    · simp (disch := omega) only [hs_at, hs_put, hs_63, NH_at, NH_put, NH_cpy, ni_add, ni_mul, ni_clamp, ni_in, ni_eq, ni_lt, ni_le, ni_sub, Nat.reduceAdd, Nat.reduceMul, Nat.reduceSub, eq_self, true_implies, not_true_eq_false, false_implies, and_true, true_and, not_false_eq_true, Nat.reduceEqDiff, Nat.reduceLeDiff, Nat.reduceLT, implies_true, ite_true, ite_false]
      rw [i1, i2] at y
      exact h0 (fun q => y q.2)
  · rw [e2] at z
    simp (disch := omega) only [hs_at, hs_put, hs_63, NH_at, NH_put, NH_cpy, ni_add, ni_mul, ni_clamp, ni_in, ni_eq, ni_lt, ni_le, ni_sub, Nat.reduceAdd, Nat.reduceMul, Nat.reduceSub, eq_self, true_implies, not_true_eq_false, false_implies, and_true, true_and, not_false_eq_true, Nat.reduceEqDiff, Nat.reduceLeDiff, Nat.reduceLT, implies_true, ite_true, ite_false]
    exact h0 (fun q => z q.1)
noncomputable def cbF (g : Nat → Nat) (A : Nat → Int32) : Nat → Nat → Nat → Option (List Nat)
  | 0, _, _ => some []
  | n + 1, k, pl => cif (isB (A k) (g 2) ∧ tou g (A k).toNatClampNeg pl) ((cbF g A n (k + 1) (oth g (A k).toNatClampNeg pl)).map (fun l => (A k).toNatClampNeg :: l)) none
theorem cb_bh {A : Nat → Int32} : ∀ n k pl L, L ≤ n → (∀ i, i < L → A (k + i) ≠ -1) → (L < n → A (k + L) = -1) → bhF g A n k pl = cbF g A L k pl := by
  intro n
  induction n with
  | zero =>
    intro k pl L h1 h2 h3
    have : L = 0 := by omega
    subst this
    rfl
  | succ n ih =>
    intro k pl L h1 h2 h3
    cases L with
    | zero =>
      have h30 : A k = -1 := h3 (by omega)
      rw [bhF, cif_pos h30]; rfl
    | succ L =>
      have h20 : A k ≠ -1 := h2 0 (by omega)
      rw [bhF, cif_neg h20, cbF]
      rw [ih (k + 1) _ L (by omega) (fun i hi => by rw [show k + 1 + i = k + (i + 1) by omega]; exact h2 (i + 1) (by omega)) (fun z => by rw [show k + 1 + L = k + (L + 1) by omega]; exact h3 (by omega))]
theorem cb_ok {A : Nat → Int32} (hg : g 2 ≤ 12) : ∀ n k pl bs, cbF g A n k pl = some bs → bs.length = n ∧ cwG g bs pl ∧ WA A bs k := by
  intro n
  induction n with
  | zero =>
    intro k pl bs h
    simp only [cbF, Option.some.injEq] at h
    subst h
    exact ⟨rfl, trivial, trivial⟩
  | succ n ih =>
    intro k pl bs h
    rw [cbF] at h
    by_cases h2 : isB (A k) (g 2) ∧ tou g (A k).toNatClampNeg pl
    · rw [cif_pos h2] at h
      obtain ⟨⟨b, hb, hA⟩, ht⟩ := h2
      rw [hA, ni_clamp (by omega)] at h ht
      cases h3 : cbF g A n (k + 1) (oth g b pl) with
      | none => rw [h3] at h; cases h
      | some l =>
        rw [h3] at h
        simp only [Option.map_some, Option.some.injEq] at h
        subst h
        obtain ⟨i1, i2, i3⟩ := ih _ _ _ h3
        exact ⟨by simp [i1], ⟨hb, ht, i2⟩, ⟨hA, i3⟩⟩
    · rw [cif_neg h2] at h; cases h
theorem c_canBe {L pl : Nat} (hL : c 23 3 = L) (hL12 : L ≤ 12) (hpl : pl < 8) (hW : WF g t) (hA : RAt g c) (h1 : (∃ bs, cbF g (fun k => nI (c 24 k)) L 0 pl = some bs) → 0 < L → Q (nI 1) (NH c)) (h0 : cbF g (fun k => nI (c 24 k)) L 0 pl = none ∨ L = 0 → Q (nI 0) (NH c)) : am_C tT E (d + 1) mX9_canBe [.inr 23, .inl (nI pl)] (NH c) Q := by
  have e2 : c 14 0 = g 2 := hA.1.2.2.2.2.2.1
  have es := hA.1.2.2.2.2.2.2
  have a3 := hW.2.2.1
  have w2 := hW.1.2.2.1
  generalize hAA : (fun k => nI (c 24 k)) = A at h1 h0
  have hAk : ∀ k, A k = nI (c 24 k) := fun k => by rw [← hAA]
  refine am_C.of (by decide) (Nat.le_of_ble_eq_true rfl) ?_
  show am_R tT E _ mX9_canBe _ 0 [some (.inr 23), some (.inl (nI pl)), none, none] [] (NH c)
  refine am_goS gX9_canBe [4] 400 ?_
  simp only [am_eqs, am_eqk, am_eqv, lX9_canBe_0, lX9_canBe_1, fx_class, NH_at, NH_put, ↓reduceIte, List.mem_cons, List.not_mem_nil, or_false, or_self, false_or, true_and, and_true, Nat.reduceEqDiff, reduceCtorEq, List.length_cons, List.length_nil, Nat.reduceAdd, Nat.reduceLeDiff, Nat.reduceSub, Nat.reduceLT, Nat.zero_le, Nat.zero_add, forall_const, not_true_eq_false, not_false_eq_true, false_implies, true_implies, implies_true, Nat.zero_lt_succ, am_z0, am_z1]
  have loop : ∀ n k pl', k + n = L → pl' < 8 → ((cbF g A n k pl' = none ↔ cbF g A L 0 pl = none)) → am_R tT E (d + 1) mX9_canBe Q 4 [some (.inr 23), some (.inl (nI pl)), some (.inl (nI pl')), some (.inl (nI k))] [] (NH c) := by
    intro n
    induction n with
    | zero =>
      intro k pl' hk hpl' hiff
      have e : k = L := by omega
      subst e
      refine am_goS gX9_canBe [4] 400 ?_
      simp only [am_eqs, am_eqk, am_eqv, lX9_canBe_0, lX9_canBe_1, fx_class, NH_at, NH_put, ↓reduceIte, List.mem_cons, List.not_mem_nil, or_false, or_self, false_or, true_and, and_true, Nat.reduceEqDiff, reduceCtorEq, List.length_cons, List.length_nil, Nat.reduceAdd, Nat.reduceLeDiff, Nat.reduceSub, Nat.reduceLT, Nat.zero_le, Nat.zero_add, forall_const, not_true_eq_false, not_false_eq_true, false_implies, true_implies, implies_true, Nat.zero_lt_succ, am_z0, am_z1]
      simp (disch := omega) only [hs_at, hs_put, hs_63, NH_at, NH_put, NH_cpy, ni_add, ni_mul, ni_clamp, ni_in, ni_eq, ni_lt, ni_le, ni_sub, Nat.reduceAdd, Nat.reduceMul, Nat.reduceSub, eq_self, true_implies, not_true_eq_false, false_implies, and_true, true_and, not_false_eq_true, Nat.reduceEqDiff, Nat.reduceLeDiff, Nat.reduceLT, implies_true, ite_true, ite_false, hL]
      refine ⟨fun _ => ⟨fun z => h0 (Or.inr (by omega)), fun z => h1 ?_ (by omega)⟩, fun z => absurd (Nat.le_refl _) z⟩
      cases hc : cbF g A k 0 pl with
      | none => have := hiff.mpr hc; simp [cbF] at this
      | some bs => exact ⟨bs, rfl⟩
    | succ n ih =>
      intro k pl' hk hpl' hiff
      rw [cbF, hAk] at hiff
      refine am_goS gX9_canBe [4] 400 ?_
      simp only [am_eqs, am_eqk, am_eqv, lX9_canBe_0, lX9_canBe_1, fx_class, NH_at, NH_put, ↓reduceIte, List.mem_cons, List.not_mem_nil, or_false, or_self, false_or, true_and, and_true, Nat.reduceEqDiff, reduceCtorEq, List.length_cons, List.length_nil, Nat.reduceAdd, Nat.reduceLeDiff, Nat.reduceSub, Nat.reduceLT, Nat.zero_le, Nat.zero_add, forall_const, not_true_eq_false, not_false_eq_true, false_implies, true_implies, implies_true, Nat.zero_lt_succ, am_z0, am_z1]
      simp (disch := omega) only [hs_at, hs_put, hs_63, NH_at, NH_put, NH_cpy, ni_add, ni_mul, ni_clamp, ni_in, ni_eq, ni_lt, ni_le, ni_sub, Nat.reduceAdd, Nat.reduceMul, Nat.reduceSub, eq_self, true_implies, not_true_eq_false, false_implies, and_true, true_and, not_false_eq_true, Nat.reduceEqDiff, Nat.reduceLeDiff, Nat.reduceLT, implies_true, ite_true, ite_false, hL]
      refine ⟨fun z => absurd z (by omega), fun _ => ⟨by omega, ?_⟩⟩
      refine c_isBridge (by omega) (fun z => ?_) (fun z => ?_)
      · rw [e2] at z
        obtain ⟨b, hb, hbe⟩ := z
        obtain ⟨s1, s2⟩ := a3 b (by omega)
        have i1 := es (2 * b) (by omega)
        have i2 := es (2 * b + 1) (by omega)
        rw [show 50 + (2 * b + 1) = 51 + 2 * b by omega] at i2
        rw [hbe, ni_clamp (by omega)] at hiff
        simp (disch := omega) only [hs_at, hs_put, hs_63, NH_at, NH_put, NH_cpy, ni_add, ni_mul, ni_clamp, ni_in, ni_eq, ni_lt, ni_le, ni_sub, Nat.reduceAdd, Nat.reduceMul, Nat.reduceSub, eq_self, true_implies, not_true_eq_false, false_implies, and_true, true_and, not_false_eq_true, Nat.reduceEqDiff, Nat.reduceLeDiff, Nat.reduceLT, implies_true, ite_true, ite_false]
        rw [hbe]
        refine ⟨by omega, ?_⟩
        refine c_touches (by omega) hpl' (by omega) (by omega) (fun y => ?_) (fun y => ?_)
        · simp (disch := omega) only [hs_at, hs_put, hs_63, NH_at, NH_put, NH_cpy, ni_add, ni_mul, ni_clamp, ni_in, ni_eq, ni_lt, ni_le, ni_sub, Nat.reduceAdd, Nat.reduceMul, Nat.reduceSub, eq_self, true_implies, not_true_eq_false, false_implies, and_true, true_and, not_false_eq_true, Nat.reduceEqDiff, Nat.reduceLeDiff, Nat.reduceLT, implies_true, ite_true, ite_false]
          rw [i1, i2] at y
          rw [cif_pos ⟨⟨b, hb, rfl⟩, y⟩, Option.map_eq_none_iff] at hiff
          rw [hbe]
          refine ⟨by omega, c_across (by omega) hpl' (by omega) (by omega) ?_⟩
          rw [i1, i2]
          exact ih (k + 1) _ (by omega) (oth_lt (x := pl') hW (by omega)) hiff
        · simp (disch := omega) only [hs_at, hs_put, hs_63, NH_at, NH_put, NH_cpy, ni_add, ni_mul, ni_clamp, ni_in, ni_eq, ni_lt, ni_le, ni_sub, Nat.reduceAdd, Nat.reduceMul, Nat.reduceSub, eq_self, true_implies, not_true_eq_false, false_implies, and_true, true_and, not_false_eq_true, Nat.reduceEqDiff, Nat.reduceLeDiff, Nat.reduceLT, implies_true, ite_true, ite_false]
          rw [i1, i2] at y
          rw [cif_neg (fun q => y q.2)] at hiff
          exact h0 (Or.inl (hiff.mp rfl))
      · rw [e2] at z
        simp (disch := omega) only [hs_at, hs_put, hs_63, NH_at, NH_put, NH_cpy, ni_add, ni_mul, ni_clamp, ni_in, ni_eq, ni_lt, ni_le, ni_sub, Nat.reduceAdd, Nat.reduceMul, Nat.reduceSub, eq_self, true_implies, not_true_eq_false, false_implies, and_true, true_and, not_false_eq_true, Nat.reduceEqDiff, Nat.reduceLeDiff, Nat.reduceLT, implies_true, ite_true, ite_false]
        rw [cif_neg (fun q => z q.1)] at hiff
        exact h0 (Or.inl (hiff.mp rfl))
  exact loop L 0 pl (by omega) hpl Iff.rfl
end CWALK
