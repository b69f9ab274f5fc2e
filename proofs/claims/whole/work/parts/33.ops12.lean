/-! ===== part 33: round, set ===== -/
section OPS12
variable {E : am_E} {d : Nat} {h : am_H} {Q : Int32 → am_H → Prop} {g : Nat → Nat} {c : Nat → Nat → Nat} {t : Nat}
theorem ra_small {j k : Nat} {c' : Nat → Nat → Nat} (hj : j < 10 ∨ (75 ≤ j ∧ j < 87)) (hm9 : ∀ q, q < 8 → og g q 2 ≤ 9) (hA : RA g c) (hc : ∀ o, o ≠ 1 → o ≠ 5 → c' o = c o) (hw : RW (nup g j k) c') (h1 : j ≠ 1) : RA (nup g j k) c' := by
  obtain ⟨-, ⟨b1, b2⟩, hk, he⟩ := hA
  have ho : ∀ q f, og (nup g j k) q f = og g q f := fun q f => nup_ne g _ (by omega)
  have hh : ∀ q, had (nup g j k) q = had g q := fun q => had_congr (ho q 2) (fun i hi => ho q _)
  refine ⟨hw, ⟨?_, fun q hq => ?_⟩, fun b m hb hm => ?_, fun q hq => ?_⟩
  · rw [hc 6 (by omega) (by omega), nup_ne g _ (Ne.symm h1)]; exact b1
  · simp only [ho, hh, hc 7 (by omega) (by omega), hc 8 (by omega) (by omega), hc 9 (by omega) (by omega), hc 11 (by omega) (by omega), hc 12 (by omega) (by omega), hc 13 (by omega) (by omega)]
    exact b2 q hq
  · rw [hc 16 (by omega) (by omega), nup_ne g _ (by omega)]; exact hk b m hb hm
  · rw [hc 10 (by omega) (by omega), ho]; exact he q hq
theorem wf_small {j k : Nat} (hj : j = 5 ∧ k < 4294967296 ∨ j = 6 ∧ k ≤ 1000 ∨ j = 7 ∧ k ≤ 99 ∨ j = 3 ∧ k ≤ 9999) (hW : WF g t) : WF (nup g j k) t := by
  obtain ⟨a1, a2, a3, a4, a5, a6, a7, a8⟩ := hW
  have hx : ∀ i, i ≠ j → nup g j k i = g i := fun i hi => nup_ne g _ hi
  have ho : ∀ q f, og (nup g j k) q f = og g q f := fun q f => nup_ne g _ (by omega)
  refine ⟨?_, ?_, ?_, ?_, ?_, ?_, ?_, ?_⟩
  · simp only [nup_app]
    rcases hj with ⟨rfl, hk⟩ | ⟨rfl, hk⟩ | ⟨rfl, hk⟩ | ⟨rfl, hk⟩ <;> simp <;> omega
  · intro m hm; rw [hx _ (by omega), hx _ (by omega)]; exact a2 m hm
  · intro b hb; rw [hx _ (by omega), hx _ (by omega)]; exact a3 b hb
  · intro b hb; rw [hx 2 (by omega)] at hb; rw [hx _ (by omega), hx _ (by omega)]; exact a4 b hb
  · intro b hb; rw [hx 8 (by omega)] at hb; rw [hx _ (by omega), hx 2 (by omega)]; exact a5 b hb
  · intro q hq
    unfold pers
    simp only [ho, hx 0 (by omega)]
    exact a6 q hq
  · intro b m hb hm; rw [hx _ (by omega)]; exact a7 b m hb hm
  · intro b m hb hb2 hm; rw [hx 2 (by omega)] at hb; rw [hx _ (by omega)]; exact a8 b m hb hb2 hm
def rdG (g : Nat → Nat) (b : Nat) : Nat → Nat := nup (nup g (75 + g 8) b) 8 (g 8 + 1)
theorem ri_round {vb : Int32} (hW : WF g t) (hz : vb = -1 → Q (nI 0) (hs h (nup g 8 0))) (h1 : ∀ b, b < g 2 → g 8 < 12 → vb = nI b → Q (nI (g 8 + 1)) (hs h (rdG g b))) (h0 : ¬ vb = -1 → ¬ (isB vb (g 2) ∧ g 8 < 12) → Q (-1) (hs h g)) : am_C tT E (d + 2) mX12_round [.inr 63, .inl vb] (hs h g) Q := by
  obtain ⟨⟨w0, w1, w2, w3, w4, w5, w6, w7, w8⟩, -⟩ := hW
  refine am_C.of (by decide) (Nat.le_of_ble_eq_true rfl) ?_
  show am_R tT E _ mX12_round _ 0 [some (.inr 63), some (.inl vb)] [] (hs h g)
  refine am_goS gX12_round [] 400 ?_
  simp only [am_eqs, am_eqk, am_eqv, lX12_round_0, lX12_round_1, fx_ref, ↓reduceIte, List.mem_cons, List.not_mem_nil, or_false, or_self, false_or, true_and, and_true, Nat.reduceEqDiff, reduceCtorEq, List.length_cons, List.length_nil, Nat.reduceAdd, Nat.reduceLeDiff, Nat.reduceSub, Nat.reduceLT, Nat.zero_le, Nat.zero_add, forall_const, not_true_eq_false, not_false_eq_true, false_implies, true_implies, implies_true, Nat.zero_lt_succ, am_z0, am_z1]
  simp (disch := omega) only [hs_at, hs_put, hs_63, NH_at, NH_put, NH_cpy, ni_add, ni_mul, ni_clamp, ni_in, ni_eq, ni_lt, ni_le, ni_sub, Nat.reduceAdd, Nat.reduceMul, Nat.reduceSub, eq_self, true_implies, not_true_eq_false, false_implies, and_true, true_and, not_false_eq_true, Nat.reduceEqDiff, Nat.reduceLeDiff, Nat.reduceLT, implies_true, ite_true, ite_false]
  refine ⟨hz, fun n1 => ?_⟩
  refine r_isBridge (by omega) (fun z => ?_) (fun z => ?_)
  · obtain ⟨b, hb, rfl⟩ := z
    simp (disch := omega) only [hs_at, hs_put, hs_63, NH_at, NH_put, NH_cpy, ni_add, ni_mul, ni_clamp, ni_in, ni_eq, ni_lt, ni_le, ni_sub, Nat.reduceAdd, Nat.reduceMul, Nat.reduceSub, eq_self, true_implies, not_true_eq_false, false_implies, and_true, true_and, not_false_eq_true, Nat.reduceEqDiff, Nat.reduceLeDiff, Nat.reduceLT, implies_true, ite_true, ite_false, nup_self, nup_ne, cup_self, cup_ne]
    refine ⟨fun e => h0 n1 (fun q => by have := q.2; omega), fun e => ⟨by omega, ?_⟩⟩
    exact h1 b hb (by omega) rfl
  · simp (disch := omega) only [hs_at, hs_put, hs_63, NH_at, NH_put, NH_cpy, ni_add, ni_mul, ni_clamp, ni_in, ni_eq, ni_lt, ni_le, ni_sub, Nat.reduceAdd, Nat.reduceMul, Nat.reduceSub, eq_self, true_implies, not_true_eq_false, false_implies, and_true, true_and, not_false_eq_true, Nat.reduceEqDiff, Nat.reduceLeDiff, Nat.reduceLT, implies_true, ite_true, ite_false]
    exact h0 n1 (fun q => z q.1)
theorem ci_round {vb : Int32} (hW : WF g t) (hA : RA g c) (hz : vb = -1 → ∀ c', RA (nup g 8 0) c' → (∀ o, o ≠ 1 → o ≠ 5 → c' o = c o) → Q (nI 0) (NH c')) (h1 : ∀ b c', b < g 2 → g 8 < 12 → vb = nI b → RA (rdG g b) c' → (∀ o, o ≠ 1 → o ≠ 5 → c' o = c o) → Q (nI (g 8 + 1)) (NH c')) (h0 : ¬ vb = -1 → ¬ (isB vb (g 2) ∧ g 8 < 12) → Q (-1) (NH c)) : am_C tT E (d + 1) mX11_round [.inr 0, .inl vb] (NH c) Q := by
  have hm9 : ∀ p, p < 8 → og g p 2 ≤ 9 := fun p hp => (hW.p hp).2.2.1
  obtain ⟨⟨w0, w1, w2, w3, w4, w5, w6, w7, w8⟩, -⟩ := hW
  have hA2 := hA
  obtain ⟨⟨⟨e5, e6, e7, e3, e0, e4, e8⟩, a2, a3, a4, a5, e2, a7⟩, -⟩ := hA
  refine am_C.of (by decide) (Nat.le_of_ble_eq_true rfl) ?_
  show am_R tT E _ mX11_round _ 0 [some (.inr 0), some (.inl vb)] [] (NH c)
  refine am_goS gX11_round [] 400 ?_
  simp only [am_eqs, am_eqk, am_eqv, lX11_round_0, lX11_round_1, fx_class, NH_at, NH_put, ↓reduceIte, List.mem_cons, List.not_mem_nil, or_false, or_self, false_or, true_and, and_true, Nat.reduceEqDiff, reduceCtorEq, List.length_cons, List.length_nil, Nat.reduceAdd, Nat.reduceLeDiff, Nat.reduceSub, Nat.reduceLT, Nat.zero_le, Nat.zero_add, forall_const, not_true_eq_false, not_false_eq_true, false_implies, true_implies, implies_true, Nat.zero_lt_succ, am_z0, am_z1]
  refine ⟨fun e => hz e _ (ra_small (by omega) hm9 hA2 (fun o ho _ => cup_ne c _ _ ho) ?_ (by omega)) (fun o ho _ => cup_ne c _ _ ho), fun n1 => ?_⟩
  · refine ⟨?_, ?_, ?_, ?_, ?_, ?_, ?_⟩ <;> grind [cup_app, nup_app]
  · refine c_isBridge (by omega) (fun z => ?_) (fun z => ?_)
    · rw [e2] at z
      obtain ⟨b, hb, rfl⟩ := z
      simp (disch := omega) only [hs_at, hs_put, hs_63, NH_at, NH_put, NH_cpy, ni_add, ni_mul, ni_clamp, ni_in, ni_eq, ni_lt, ni_le, ni_sub, Nat.reduceAdd, Nat.reduceMul, Nat.reduceSub, eq_self, true_implies, not_true_eq_false, false_implies, and_true, true_and, not_false_eq_true, Nat.reduceEqDiff, Nat.reduceLeDiff, Nat.reduceLT, implies_true, ite_true, ite_false, nup_self, nup_ne, cup_self, cup_ne, e8]
      refine ⟨fun e => ⟨by omega, ?_⟩, fun e => h0 n1 (fun q => by have := q.2; omega)⟩
      have hA1 : RA (nup g (75 + g 8) b) (cup c 5 (g 8) b) := ra_small (by omega) hm9 hA2 (fun o _ ho => cup_ne c _ _ ho) (by refine ⟨?_, ?_, ?_, ?_, ?_, ?_, ?_⟩ <;> grind [cup_app, nup_app]) (by omega)
      have hog : ∀ q f, og (nup g (75 + g 8) b) q f = og g q f := fun q f => nup_ne g _ (by omega)
      refine h1 b _ hb (by omega) rfl (ra_small (by omega) (fun q hq => by rw [hog]; exact hm9 q hq) hA1 (fun o ho _ => cup_ne _ _ _ ho) ?_ (by omega)) (fun o ho1 ho2 => ?_)
      · obtain ⟨⟨⟨f5, f6, f7, f3, f0, f4, f8⟩, b2, b3, b4, b5, f2, b7⟩, -⟩ := hA1
        refine ⟨?_, ?_, ?_, ?_, ?_, ?_, ?_⟩ <;> grind [cup_app, nup_app]
      · rw [cup_ne _ _ _ ho1, cup_ne _ _ _ ho2]
    · rw [e2] at z
      simp (disch := omega) only [hs_at, hs_put, hs_63, NH_at, NH_put, NH_cpy, ni_add, ni_mul, ni_clamp, ni_in, ni_eq, ni_lt, ni_le, ni_sub, Nat.reduceAdd, Nat.reduceMul, Nat.reduceSub, eq_self, true_implies, not_true_eq_false, false_implies, and_true, true_and, not_false_eq_true, Nat.reduceEqDiff, Nat.reduceLeDiff, Nat.reduceLT, implies_true, ite_true, ite_false]
      exact h0 n1 (fun q => z q.1)
theorem wf_round0 (hW : WF g t) : WF (nup g 8 0) t := by
  obtain ⟨a1, a2, a3, a4, a5, a6, a7, a8⟩ := hW
  have hx : ∀ i, i ≠ 8 → nup g 8 0 i = g i := fun i hi => nup_ne g _ hi
  have ho : ∀ q f, og (nup g 8 0) q f = og g q f := fun q f => nup_ne g _ (by omega)
  refine ⟨?_, ?_, ?_, ?_, ?_, ?_, ?_, ?_⟩
  · rw [nup_self]; simp (disch := omega) only [hx]; omega
  · intro m hm; rw [hx _ (by omega), hx _ (by omega)]; exact a2 m hm
  · intro b hb; rw [hx _ (by omega), hx _ (by omega)]; exact a3 b hb
  · intro b hb; rw [hx 2 (by omega)] at hb; rw [hx _ (by omega), hx _ (by omega)]; exact a4 b hb
  · intro b hb; rw [nup_self] at hb; omega
  · intro q hq
    unfold pers
    simp only [ho, hx 0 (by omega)]
    exact a6 q hq
  · intro b m hb hm; rw [hx _ (by omega)]; exact a7 b m hb hm
  · intro b m hb hb2 hm; rw [hx 2 (by omega)] at hb; rw [hx _ (by omega)]; exact a8 b m hb hb2 hm
theorem wf_round {b : Nat} (hb : b < g 2) (h8 : g 8 < 12) (hW : WF g t) : WF (rdG g b) t := by
  obtain ⟨a1, a2, a3, a4, a5, a6, a7, a8⟩ := hW
  have hx : ∀ i, i ≠ 8 → (i < 75 ∨ 87 ≤ i) → rdG g b i = g i := fun i hi h2 => by unfold rdG; rw [nup_ne _ _ hi, nup_ne _ _ (by omega)]
  have h88 : rdG g b 8 = g 8 + 1 := rfl
  have ho : ∀ q f, og (rdG g b) q f = og g q f := fun q f => hx _ (by omega) (by omega)
  refine ⟨?_, ?_, ?_, ?_, ?_, ?_, ?_, ?_⟩
  · rw [h88]; simp (disch := omega) only [hx]; omega
  · intro m hm; rw [hx _ (by omega) (by omega), hx _ (by omega) (by omega)]; exact a2 m hm
  · intro b hb; rw [hx _ (by omega) (by omega), hx _ (by omega) (by omega)]; exact a3 b hb
  · intro b hb; rw [hx 2 (by omega) (by omega)] at hb; rw [hx _ (by omega) (by omega), hx _ (by omega) (by omega)]; exact a4 b hb
  · intro k hk
    rw [h88] at hk
    rw [hx 2 (by omega) (by omega)]
    unfold rdG
    rw [nup_ne _ _ (by omega), nup_app]
    split
    · exact hb
    · exact a5 k (by omega)
  · intro q hq
    unfold pers
    simp only [ho, hx 0 (by omega) (by omega)]
    exact a6 q hq
  · intro b m hb hm; rw [hx _ (by omega) (by omega)]; exact a7 b m hb hm
  · intro b m hb hb2 hm; rw [hx 2 (by omega) (by omega)] at hb; rw [hx _ (by omega) (by omega)]; exact a8 b m hb hb2 hm
/-! set -/
def stS (g : Nat → Nat) (w p v : Int32) (g' : Nat → Nat) : Prop :=
  (w = nI 0 ∧ ∃ k, k ≤ 1000 ∧ v = nI k ∧ g' = nup g 6 k) ∨ (w = nI 1 ∧ ∃ k, k ≤ 99 ∧ v = nI k ∧ g' = nup g 7 k) ∨
  (w = nI 2 ∧ ∃ q k, q < g 1 ∧ p = nI q ∧ k ≤ 9999 ∧ v = nI k ∧ g' = nup g (90 + 16 * q + 1) k) ∨ (w = nI 3 ∧ ∃ q k, q < g 1 ∧ p = nI q ∧ k < 8 ∧ v = nI k ∧ g' = nup g (90 + 16 * q + 0) k)
theorem stS_det {w p v : Int32} {g1 g2 : Nat → Nat} (h8 : g 1 ≤ 8) (h1 : stS g w p v g1) (h2 : stS g w p v g2) : g1 = g2 := by
  have hne : ∀ a b : Nat, a < 4 → b < 4 → a ≠ b → ¬ nI a = nI b := fun a b ha hb hab => by rw [ni_eq (by omega) (by omega)]; exact hab
  have hin : ∀ a b : Nat, a < 10000 → b < 10000 → nI a = nI b → a = b := fun a b ha hb e => by rw [ni_eq (by omega) (by omega)] at e; exact e
  rcases h1 with ⟨rfl, k, hk, rfl, rfl⟩ | ⟨rfl, k, hk, rfl, rfl⟩ | ⟨rfl, q, k, hq, rfl, hk, rfl, rfl⟩ | ⟨rfl, q, k, hq, rfl, hk, rfl, rfl⟩ <;>
  rcases h2 with ⟨e, k', hk', e2, rfl⟩ | ⟨e, k', hk', e2, rfl⟩ | ⟨e, q', k', hq', e3, hk', e2, rfl⟩ | ⟨e, q', k', hq', e3, hk', e2, rfl⟩ <;>
  first
    | exact absurd e (hne _ _ (by omega) (by omega) (by omega))
    | (rw [hin _ _ (by omega) (by omega) e2, hin _ _ (by omega) (by omega) e3])
    | (rw [hin _ _ (by omega) (by omega) e2])
theorem ri_set {w p v : Int32} (hW : WF g t) (h1 : ∀ g', stS g w p v g' → Q (nI 1) (hs (am_upd h 63 4 (nI 0)) g')) (h0 : (∀ g', ¬ stS g w p v g') → Q (nI 0) (hs h g)) : am_C tT E (d + 2) mX12_set [.inr 63, .inl w, .inl p, .inl v] (hs h g) Q := by
  obtain ⟨⟨w0, w1, w2, w3, w4, w5, w6, w7, w8⟩, -⟩ := hW
  have hne : ∀ a b : Nat, a < 4 → b < 4 → a ≠ b → ¬ nI a = nI b := fun a b ha hb hab => by rw [ni_eq (by omega) (by omega)]; exact hab
  refine am_C.of (by decide) (Nat.le_of_ble_eq_true rfl) ?_
  show am_R tT E _ mX12_set _ 0 [some (.inr 63), some (.inl w), some (.inl p), some (.inl v)] [] (hs h g)
  refine am_goS gX12_set [26, 52, 86, 116, 118] 400 ?_
  simp only [am_eqs, am_eqk, am_eqv, lX12_set_0, lX12_set_1, lX12_set_2, fx_ref, ↓reduceIte, List.mem_cons, List.not_mem_nil, or_false, or_self, false_or, true_and, and_true, Nat.reduceEqDiff, reduceCtorEq, List.length_cons, List.length_nil, Nat.reduceAdd, Nat.reduceLeDiff, Nat.reduceSub, Nat.reduceLT, Nat.zero_le, Nat.zero_add, forall_const, not_true_eq_false, not_false_eq_true, false_implies, true_implies, implies_true, Nat.zero_lt_succ, am_z0, am_z1]
  have k118 : ∀ g', stS g w p v g' → am_R tT E (d + 2) mX12_set Q 118 [some (.inr 63), some (.inl w), some (.inl p), some (.inl v)] [] (hs h g') := by
    intro g' hg'
    refine am_goS gX12_set [] 400 ?_
    simp only [am_eqs, am_eqk, am_eqv, lX12_set_0, lX12_set_1, lX12_set_2, fx_ref, ↓reduceIte, List.mem_cons, List.not_mem_nil, or_false, or_self, false_or, true_and, and_true, Nat.reduceEqDiff, reduceCtorEq, List.length_cons, List.length_nil, Nat.reduceAdd, Nat.reduceLeDiff, Nat.reduceSub, Nat.reduceLT, Nat.zero_le, Nat.zero_add, forall_const, not_true_eq_false, not_false_eq_true, false_implies, true_implies, implies_true, Nat.zero_lt_succ, am_z0, am_z1]
    exact r_forgets (h1 g' hg')
  have k116 : (∀ g', ¬ stS g w p v g') → am_R tT E (d + 2) mX12_set Q 116 [some (.inr 63), some (.inl w), some (.inl p), some (.inl v)] [] (hs h g) := by
    intro hg'
    refine am_goS gX12_set [] 400 ?_
    simp only [am_eqs, am_eqk, am_eqv, lX12_set_0, lX12_set_1, lX12_set_2, fx_ref, ↓reduceIte, List.mem_cons, List.not_mem_nil, or_false, or_self, false_or, true_and, and_true, Nat.reduceEqDiff, reduceCtorEq, List.length_cons, List.length_nil, Nat.reduceAdd, Nat.reduceLeDiff, Nat.reduceSub, Nat.reduceLT, Nat.zero_le, Nat.zero_add, forall_const, not_true_eq_false, not_false_eq_true, false_implies, true_implies, implies_true, Nat.zero_lt_succ, am_z0, am_z1]
    exact h0 hg'
  have k86 : (∀ g', stS g w p v g' → w = nI 3) → am_R tT E (d + 2) mX12_set Q 86 [some (.inr 63), some (.inl w), some (.inl p), some (.inl v)] [] (hs h g) := by
    intro hg'
    refine am_goS gX12_set [26, 52, 86, 116, 118] 400 ?_
    simp only [am_eqs, am_eqk, am_eqv, lX12_set_0, lX12_set_1, lX12_set_2, fx_ref, ↓reduceIte, List.mem_cons, List.not_mem_nil, or_false, or_self, false_or, true_and, and_true, Nat.reduceEqDiff, reduceCtorEq, List.length_cons, List.length_nil, Nat.reduceAdd, Nat.reduceLeDiff, Nat.reduceSub, Nat.reduceLT, Nat.zero_le, Nat.zero_add, forall_const, not_true_eq_false, not_false_eq_true, false_implies, true_implies, implies_true, Nat.zero_lt_succ, am_z0, am_z1]
    refine ⟨fun e => ?_, fun e => k116 (fun g' z => e (hg' g' z))⟩
    subst e
    refine r_isPerson (by omega) (fun z => ?_) (fun z => ?_)
    · simp (disch := omega) only [hs_at, hs_put, hs_63, NH_at, NH_put, NH_cpy, ni_add, ni_mul, ni_clamp, ni_in, ni_eq, ni_lt, ni_le, ni_sub, Nat.reduceAdd, Nat.reduceMul, Nat.reduceSub, eq_self, true_implies, not_true_eq_false, false_implies, and_true, true_and, not_false_eq_true, Nat.reduceEqDiff, Nat.reduceLeDiff, Nat.reduceLT, implies_true, ite_true, ite_false]
      refine r_isPlace (fun z2 => ?_) (fun z2 => ?_)
      · simp (disch := omega) only [hs_at, hs_put, hs_63, NH_at, NH_put, NH_cpy, ni_add, ni_mul, ni_clamp, ni_in, ni_eq, ni_lt, ni_le, ni_sub, Nat.reduceAdd, Nat.reduceMul, Nat.reduceSub, eq_self, true_implies, not_true_eq_false, false_implies, and_true, true_and, not_false_eq_true, Nat.reduceEqDiff, Nat.reduceLeDiff, Nat.reduceLT, implies_true, ite_true, ite_false]
        obtain ⟨q, hq, rfl⟩ := z
        obtain ⟨k, hk, rfl⟩ := z2
        exact r_gives (by omega) (by omega) (k118 _ (Or.inr (Or.inr (Or.inr ⟨rfl, q, k, hq, rfl, hk, rfl, rfl⟩))))
      · simp (disch := omega) only [hs_at, hs_put, hs_63, NH_at, NH_put, NH_cpy, ni_add, ni_mul, ni_clamp, ni_in, ni_eq, ni_lt, ni_le, ni_sub, Nat.reduceAdd, Nat.reduceMul, Nat.reduceSub, eq_self, true_implies, not_true_eq_false, false_implies, and_true, true_and, not_false_eq_true, Nat.reduceEqDiff, Nat.reduceLeDiff, Nat.reduceLT, implies_true, ite_true, ite_false]
        refine k116 (fun g' y => ?_)
        rcases y with ⟨e, -⟩ | ⟨e, -⟩ | ⟨e, -⟩ | ⟨-, q, k, hq, rfl, hk, rfl, -⟩
        · exact hne _ _ (by omega) (by omega) (by omega) e
        · exact hne _ _ (by omega) (by omega) (by omega) e
        · exact hne _ _ (by omega) (by omega) (by omega) e
        · exact z2 ⟨k, hk, rfl⟩
    · simp (disch := omega) only [hs_at, hs_put, hs_63, NH_at, NH_put, NH_cpy, ni_add, ni_mul, ni_clamp, ni_in, ni_eq, ni_lt, ni_le, ni_sub, Nat.reduceAdd, Nat.reduceMul, Nat.reduceSub, eq_self, true_implies, not_true_eq_false, false_implies, and_true, true_and, not_false_eq_true, Nat.reduceEqDiff, Nat.reduceLeDiff, Nat.reduceLT, implies_true, ite_true, ite_false]
      refine k116 (fun g' y => ?_)
      rcases y with ⟨e, -⟩ | ⟨e, -⟩ | ⟨e, -⟩ | ⟨-, q, k, hq, rfl, hk, rfl, -⟩
      · exact hne _ _ (by omega) (by omega) (by omega) e
      · exact hne _ _ (by omega) (by omega) (by omega) e
      · exact hne _ _ (by omega) (by omega) (by omega) e
      · exact z ⟨q, hq, rfl⟩
  have k52 : (∀ g', stS g w p v g' → w = nI 3 ∨ w = nI 2) → am_R tT E (d + 2) mX12_set Q 52 [some (.inr 63), some (.inl w), some (.inl p), some (.inl v)] [] (hs h g) := by
    intro hg'
    refine am_goS gX12_set [26, 52, 86, 116, 118] 400 ?_
    simp only [am_eqs, am_eqk, am_eqv, lX12_set_0, lX12_set_1, lX12_set_2, fx_ref, ↓reduceIte, List.mem_cons, List.not_mem_nil, or_false, or_self, false_or, true_and, and_true, Nat.reduceEqDiff, reduceCtorEq, List.length_cons, List.length_nil, Nat.reduceAdd, Nat.reduceLeDiff, Nat.reduceSub, Nat.reduceLT, Nat.zero_le, Nat.zero_add, forall_const, not_true_eq_false, not_false_eq_true, false_implies, true_implies, implies_true, Nat.zero_lt_succ, am_z0, am_z1]
    refine ⟨fun e => ?_, fun e => k86 (fun g' z => (hg' g' z).resolve_right e)⟩
    subst e
    have hno : ∀ g', (∀ q k, q < g 1 → p = nI q → k ≤ 9999 → ¬ v = nI k) → stS g (nI 2) p v g' → nI 2 = nI 3 := by
      intro g' hh y
      rcases y with ⟨e, -⟩ | ⟨e, -⟩ | ⟨e, q, k, hq, e3, hk, e2, -⟩ | ⟨e, -⟩
      · exact absurd e (hne _ _ (by omega) (by omega) (by omega))
      · exact absurd e (hne _ _ (by omega) (by omega) (by omega))
      · exact absurd e2 (hh q k hq e3 hk)
      · exact e
    refine r_isPerson (by omega) (fun z => ?_) (fun z => ?_)
    · simp (disch := omega) only [hs_at, hs_put, hs_63, NH_at, NH_put, NH_cpy, ni_add, ni_mul, ni_clamp, ni_in, ni_eq, ni_lt, ni_le, ni_sub, Nat.reduceAdd, Nat.reduceMul, Nat.reduceSub, eq_self, true_implies, not_true_eq_false, false_implies, and_true, true_and, not_false_eq_true, Nat.reduceEqDiff, Nat.reduceLeDiff, Nat.reduceLT, implies_true, ite_true, ite_false]
      refine r_isIn (fun z2 => ?_) (fun z2 => ?_)
      · simp (disch := omega) only [hs_at, hs_put, hs_63, NH_at, NH_put, NH_cpy, ni_add, ni_mul, ni_clamp, ni_in, ni_eq, ni_lt, ni_le, ni_sub, Nat.reduceAdd, Nat.reduceMul, Nat.reduceSub, eq_self, true_implies, not_true_eq_false, false_implies, and_true, true_and, not_false_eq_true, Nat.reduceEqDiff, Nat.reduceLeDiff, Nat.reduceLT, implies_true, ite_true, ite_false]
        obtain ⟨q, hq, rfl⟩ := z
        obtain ⟨k, hk, rfl⟩ := (isB_c (N := 9999) (by omega)).mp z2
        exact r_gives (by omega) (by omega) (k118 _ (Or.inr (Or.inr (Or.inl ⟨rfl, q, k, hq, rfl, by omega, rfl, rfl⟩))))
      · simp (disch := omega) only [hs_at, hs_put, hs_63, NH_at, NH_put, NH_cpy, ni_add, ni_mul, ni_clamp, ni_in, ni_eq, ni_lt, ni_le, ni_sub, Nat.reduceAdd, Nat.reduceMul, Nat.reduceSub, eq_self, true_implies, not_true_eq_false, false_implies, and_true, true_and, not_false_eq_true, Nat.reduceEqDiff, Nat.reduceLeDiff, Nat.reduceLT, implies_true, ite_true, ite_false]
        exact k86 (fun g' y => hno g' (fun q k hq e3 hk e2 => z2 ((isB_c (N := 9999) (by omega)).mpr ⟨k, by omega, e2⟩)) y)
    · simp (disch := omega) only [hs_at, hs_put, hs_63, NH_at, NH_put, NH_cpy, ni_add, ni_mul, ni_clamp, ni_in, ni_eq, ni_lt, ni_le, ni_sub, Nat.reduceAdd, Nat.reduceMul, Nat.reduceSub, eq_self, true_implies, not_true_eq_false, false_implies, and_true, true_and, not_false_eq_true, Nat.reduceEqDiff, Nat.reduceLeDiff, Nat.reduceLT, implies_true, ite_true, ite_false]
      exact k86 (fun g' y => hno g' (fun q k hq e3 hk e2 => z ⟨q, hq, e3⟩) y)
  have k26 : (∀ g', stS g w p v g' → ¬ w = nI 0) → am_R tT E (d + 2) mX12_set Q 26 [some (.inr 63), some (.inl w), some (.inl p), some (.inl v)] [] (hs h g) := by
    intro hg'
    refine am_goS gX12_set [26, 52, 86, 116, 118] 400 ?_
    simp only [am_eqs, am_eqk, am_eqv, lX12_set_0, lX12_set_1, lX12_set_2, fx_ref, ↓reduceIte, List.mem_cons, List.not_mem_nil, or_false, or_self, false_or, true_and, and_true, Nat.reduceEqDiff, reduceCtorEq, List.length_cons, List.length_nil, Nat.reduceAdd, Nat.reduceLeDiff, Nat.reduceSub, Nat.reduceLT, Nat.zero_le, Nat.zero_add, forall_const, not_true_eq_false, not_false_eq_true, false_implies, true_implies, implies_true, Nat.zero_lt_succ, am_z0, am_z1]
    have hall : ∀ g', stS g w p v g' → w = nI 3 ∨ w = nI 2 ∨ (w = nI 1 ∧ ∃ k, k ≤ 99 ∧ v = nI k) := by
      intro g' y
      have y2 := hg' g' y
      rcases y with ⟨e, -⟩ | ⟨e, k, hk, e2, -⟩ | ⟨e, -⟩ | ⟨e, -⟩
      · exact absurd e y2
      · exact Or.inr (Or.inr ⟨e, k, hk, e2⟩)
      · exact Or.inr (Or.inl e)
      · exact Or.inl e
    refine ⟨fun e => ?_, fun e => k52 (fun g' z => by rcases hall g' z with q | q | q; exact Or.inl q; exact Or.inr q; exact absurd q.1 e)⟩
    refine r_isIn (fun z2 => ?_) (fun z2 => ?_)
    · obtain ⟨k, hk, rfl⟩ := (isB_c (N := 99) (by omega)).mp z2
      simp (disch := omega) only [hs_at, hs_put, hs_63, NH_at, NH_put, NH_cpy, ni_add, ni_mul, ni_clamp, ni_in, ni_eq, ni_lt, ni_le, ni_sub, Nat.reduceAdd, Nat.reduceMul, Nat.reduceSub, eq_self, true_implies, not_true_eq_false, false_implies, and_true, true_and, not_false_eq_true, Nat.reduceEqDiff, Nat.reduceLeDiff, Nat.reduceLT, implies_true, ite_true, ite_false]
      exact k118 _ (Or.inr (Or.inl ⟨e, k, by omega, rfl, rfl⟩))
    · simp (disch := omega) only [hs_at, hs_put, hs_63, NH_at, NH_put, NH_cpy, ni_add, ni_mul, ni_clamp, ni_in, ni_eq, ni_lt, ni_le, ni_sub, Nat.reduceAdd, Nat.reduceMul, Nat.reduceSub, eq_self, true_implies, not_true_eq_false, false_implies, and_true, true_and, not_false_eq_true, Nat.reduceEqDiff, Nat.reduceLeDiff, Nat.reduceLT, implies_true, ite_true, ite_false]
      exact k52 (fun g' z => by rcases hall g' z with q | q | ⟨-, k, hk, e2⟩; exact Or.inl q; exact Or.inr q; exact absurd ((isB_c (N := 99) (by omega)).mpr ⟨k, by omega, e2⟩) z2)
  refine ⟨fun e => ?_, fun e => k26 (fun g' y => e)⟩
  refine r_isIn (fun z2 => ?_) (fun z2 => ?_)
  · obtain ⟨k, hk, rfl⟩ := (isB_c (N := 1000) (by omega)).mp z2
    simp (disch := omega) only [hs_at, hs_put, hs_63, NH_at, NH_put, NH_cpy, ni_add, ni_mul, ni_clamp, ni_in, ni_eq, ni_lt, ni_le, ni_sub, Nat.reduceAdd, Nat.reduceMul, Nat.reduceSub, eq_self, true_implies, not_true_eq_false, false_implies, and_true, true_and, not_false_eq_true, Nat.reduceEqDiff, Nat.reduceLeDiff, Nat.reduceLT, implies_true, ite_true, ite_false]
    exact k118 _ (Or.inl ⟨e, k, by omega, rfl, rfl⟩)
  · simp (disch := omega) only [hs_at, hs_put, hs_63, NH_at, NH_put, NH_cpy, ni_add, ni_mul, ni_clamp, ni_in, ni_eq, ni_lt, ni_le, ni_sub, Nat.reduceAdd, Nat.reduceMul, Nat.reduceSub, eq_self, true_implies, not_true_eq_false, false_implies, and_true, true_and, not_false_eq_true, Nat.reduceEqDiff, Nat.reduceLeDiff, Nat.reduceLT, implies_true, ite_true, ite_false]
    refine k26 (fun g' y => ?_)
    rcases y with ⟨-, k, hk, e2, -⟩ | ⟨e3, -⟩ | ⟨e3, -⟩ | ⟨e3, -⟩
    · exact absurd ((isB_c (N := 1000) (by omega)).mpr ⟨k, by omega, e2⟩) z2
    · rw [e3]; exact hne _ _ (by omega) (by omega) (by omega)
    · rw [e3]; exact hne _ _ (by omega) (by omega) (by omega)
    · rw [e3]; exact hne _ _ (by omega) (by omega) (by omega)
end OPS12
