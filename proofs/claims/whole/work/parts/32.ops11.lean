/-! ===== part 32: take, round, set ===== -/
theorem ni_addm1 {a : Nat} (ha : 1 ≤ a) : nI a + (-1 : Int32) = nI (a - 1) := by
  rw [ni_m1, ni_add, show a + 4294967295 = (a - 1) + 4294967296 by omega, ← ni_add]
  have : nI 4294967296 = 0 := by decide
  rw [this, Int32.add_zero]
section OPS11
variable {E : am_E} {d : Nat} {h : am_H} {Q : Int32 → am_H → Prop} {g : Nat → Nat} {c : Nat → Nat → Nat} {t : Nat}
theorem c_changeKept {b n : Nat} {v : Int32} {k : Nat} (hb : b < 12) (hn : n < 20) (hv : nI (c 16 (20 * b + n)) + v = nI k) (hq : Q 0 (NH (cup c 16 (20 * b + n) k))) : am_C tT E d mX2_changeKept [.inr 14, .inl (nI b), .inl (nI n), .inl v] (NH c) Q := by
  refine am_C.of (by decide) (Nat.le_of_ble_eq_true rfl) ?_
  show am_R tT E _ mX2_changeKept _ 0 [some (.inr 14), some (.inl (nI b)), some (.inl (nI n)), some (.inl v)] [] (NH c)
  refine am_goS gX2_changeKept [] 400 ?_
  simp only [am_eqs, am_eqk, am_eqv, lX2_changeKept_0, fx_class, NH_at, NH_put, ↓reduceIte, List.mem_cons, List.not_mem_nil, or_false, or_self, false_or, true_and, and_true, Nat.reduceEqDiff, reduceCtorEq, List.length_cons, List.length_nil, Nat.reduceAdd, Nat.reduceLeDiff, Nat.reduceSub, Nat.reduceLT, Nat.zero_le, Nat.zero_add, forall_const, not_true_eq_false, not_false_eq_true, false_implies, true_implies, implies_true, Nat.zero_lt_succ, am_z0, am_z1]
  simp (disch := omega) only [hs_at, hs_put, hs_63, NH_at, NH_put, NH_cpy, ni_add, ni_mul, ni_clamp, ni_in, ni_eq, ni_lt, ni_le, ni_sub, Nat.reduceAdd, Nat.reduceMul, Nat.reduceSub, eq_self, true_implies, not_true_eq_false, false_implies, and_true, true_and, not_false_eq_true, Nat.reduceEqDiff, Nat.reduceLeDiff, Nat.reduceLT, implies_true, ite_true, ite_false]
  rw [Nat.mul_comm b 20, hv, NH_put]
  exact ⟨by omega, by omega, hq⟩
theorem c_standsAt {p : Nat} {vb : Int32} (hp : p < 8) (hW : WF g t) (hA : RA g c) (h1 : isB vb (g 2) ∧ tou g vb.toNatClampNeg (og g p 0) → Q (nI 1) (NH c)) (h0 : ¬ (isB vb (g 2) ∧ tou g vb.toNatClampNeg (og g p 0)) → Q (nI 0) (NH c)) : am_C tT E (d + 1) mX10_standsAt [.inr 1, .inl (nI p), .inl vb] (NH c) Q := by
  have e2 : c 14 0 = g 2 := hA.1.2.2.2.2.2.1
  have es := hA.1.2.2.2.2.2.2
  have h08 := (hW.p hp).1
  have q0 := (hA.2.1.2 p hp).1
  have a3 := hW.2.2.1
  have w2 := hW.1.2.2.1
  refine am_C.of (by decide) (Nat.le_of_ble_eq_true rfl) ?_
  show am_R tT E _ mX10_standsAt _ 0 [some (.inr 1), some (.inl (nI p)), some (.inl vb)] [] (NH c)
  refine am_goS gX10_standsAt [] 400 ?_
  simp only [am_eqs, am_eqk, am_eqv, lX10_standsAt_0, fx_class, NH_at, NH_put, ↓reduceIte, List.mem_cons, List.not_mem_nil, or_false, or_self, false_or, true_and, and_true, Nat.reduceEqDiff, reduceCtorEq, List.length_cons, List.length_nil, Nat.reduceAdd, Nat.reduceLeDiff, Nat.reduceSub, Nat.reduceLT, Nat.zero_le, Nat.zero_add, forall_const, not_true_eq_false, not_false_eq_true, false_implies, true_implies, implies_true, Nat.zero_lt_succ, am_z0, am_z1]
  refine c_isBridge (by omega) (fun z => ?_) (fun z => ?_)
  · rw [e2] at z
    obtain ⟨b, hb, rfl⟩ := z
    obtain ⟨s1, s2⟩ := a3 b (by omega)
    have i1 := es (2 * b) (by omega)
    have i2 := es (2 * b + 1) (by omega)
    rw [show 50 + (2 * b + 1) = 51 + 2 * b by omega] at i2
    simp (disch := omega) only [hs_at, hs_put, hs_63, NH_at, NH_put, NH_cpy, ni_add, ni_mul, ni_clamp, ni_in, ni_eq, ni_lt, ni_le, ni_sub, Nat.reduceAdd, Nat.reduceMul, Nat.reduceSub, eq_self, true_implies, not_true_eq_false, false_implies, and_true, true_and, not_false_eq_true, Nat.reduceEqDiff, Nat.reduceLeDiff, Nat.reduceLT, implies_true, ite_true, ite_false, q0]
    refine ⟨by omega, ?_⟩
    rw [ni_clamp (by omega)] at h1 h0
    refine c_touches (by omega) h08 (by omega) (by omega) (fun y => ?_) (fun y => ?_)
    · simp (disch := omega) only [hs_at, hs_put, hs_63, NH_at, NH_put, NH_cpy, ni_add, ni_mul, ni_clamp, ni_in, ni_eq, ni_lt, ni_le, ni_sub, Nat.reduceAdd, Nat.reduceMul, Nat.reduceSub, eq_self, true_implies, not_true_eq_false, false_implies, and_true, true_and, not_false_eq_true, Nat.reduceEqDiff, Nat.reduceLeDiff, Nat.reduceLT, implies_true, ite_true, ite_false]
      rw [i1, i2] at y
      exact h1 ⟨⟨b, hb, rfl⟩, y⟩
    · simp (disch := omega) only [hs_at, hs_put, hs_63, NH_at, NH_put, NH_cpy, ni_add, ni_mul, ni_clamp, ni_in, ni_eq, ni_lt, ni_le, ni_sub, Nat.reduceAdd, Nat.reduceMul, Nat.reduceSub, eq_self, true_implies, not_true_eq_false, false_implies, and_true, true_and, not_false_eq_true, Nat.reduceEqDiff, Nat.reduceLeDiff, Nat.reduceLT, implies_true, ite_true, ite_false]
      rw [i1, i2] at y
      exact h0 (fun q => y q.2)
  · rw [e2] at z
    simp (disch := omega) only [hs_at, hs_put, hs_63, NH_at, NH_put, NH_cpy, ni_add, ni_mul, ni_clamp, ni_in, ni_eq, ni_lt, ni_le, ni_sub, Nat.reduceAdd, Nat.reduceMul, Nat.reduceSub, eq_self, true_implies, not_true_eq_false, false_implies, and_true, true_and, not_false_eq_true, Nat.reduceEqDiff, Nat.reduceLeDiff, Nat.reduceLT, implies_true, ite_true, ite_false]
    exact h0 (fun q => z q.1)
def tkG (g : Nat → Nat) (p b n : Nat) : Nat → Nat := comG (nup g (220 + 20 * b + n) (g (220 + 20 * b + n) - 1)) p n
def okTake (g : Nat → Nat) (vp vb vn : Int32) : Prop := ((isB vp (g 1) ∧ isB vb (g 2)) ∧ isB vn (g 0)) ∧ tou g vb.toNatClampNeg (og g vp.toNatClampNeg 0) ∧ 0 < g (220 + 20 * vb.toNatClampNeg + vn.toNatClampNeg) ∧ og g vp.toNatClampNeg 2 < 9 ∧ ¬ hasN g vp.toNatClampNeg vn.toNatClampNeg
theorem ri_take {vp vb vn : Int32} (ht : t < 1000000) (hW : WF g t) (h1 : okTake g vp vb vn → ∀ p b n, p < g 1 → b < g 2 → n < g 0 → 0 < g (220 + 20 * b + n) → og g p 2 < 9 → ¬ hasN g p n → vp = nI p → vb = nI b → vn = nI n → Q (nI 1) (hs (am_upd h 63 4 (nI 0)) (tkG g p b n))) (h0 : ¬ okTake g vp vb vn → Q (nI 0) (hs h g)) : am_C tT E (d + 3) mX12_take [.inr 63, .inl vp, .inl vb, .inl vn] (hs h g) Q := by
  have hW2 := hW
  obtain ⟨⟨w0, w1, w2, w3, w4, w5, w6, w7, w8⟩, -, a3, -, -, -, a7, -⟩ := hW
  refine am_C.of (by decide) (Nat.le_of_ble_eq_true rfl) ?_
  show am_R tT E _ mX12_take _ 0 [some (.inr 63), some (.inl vp), some (.inl vb), some (.inl vn)] [] (hs h g)
  refine am_goS gX12_take [] 400 ?_
  simp only [am_eqs, am_eqk, am_eqv, lX12_take_0, lX12_take_1, lX12_take_2, fx_ref, ↓reduceIte, List.mem_cons, List.not_mem_nil, or_false, or_self, false_or, true_and, and_true, Nat.reduceEqDiff, reduceCtorEq, List.length_cons, List.length_nil, Nat.reduceAdd, Nat.reduceLeDiff, Nat.reduceSub, Nat.reduceLT, Nat.zero_le, Nat.zero_add, forall_const, not_true_eq_false, not_false_eq_true, false_implies, true_implies, implies_true, Nat.zero_lt_succ, am_z0, am_z1]
  refine r_isPerson (by omega) (fun z1 => ?_) (fun z1 => ?_)
  · simp (disch := omega) only [hs_at, hs_put, hs_63, NH_at, NH_put, NH_cpy, ni_add, ni_mul, ni_clamp, ni_in, ni_eq, ni_lt, ni_le, ni_sub, Nat.reduceAdd, Nat.reduceMul, Nat.reduceSub, eq_self, true_implies, not_true_eq_false, false_implies, and_true, true_and, not_false_eq_true, Nat.reduceEqDiff, Nat.reduceLeDiff, Nat.reduceLT, implies_true, ite_true, ite_false]
    refine r_isBridge (by omega) (fun z2 => ?_) (fun z2 => ?_)
    · simp (disch := omega) only [hs_at, hs_put, hs_63, NH_at, NH_put, NH_cpy, ni_add, ni_mul, ni_clamp, ni_in, ni_eq, ni_lt, ni_le, ni_sub, Nat.reduceAdd, Nat.reduceMul, Nat.reduceSub, eq_self, true_implies, not_true_eq_false, false_implies, and_true, true_and, not_false_eq_true, Nat.reduceEqDiff, Nat.reduceLeDiff, Nat.reduceLT, implies_true, ite_true, ite_false]
      refine r_isName (by omega) (fun z3 => ?_) (fun z3 => ?_)
      · simp (disch := omega) only [hs_at, hs_put, hs_63, NH_at, NH_put, NH_cpy, ni_add, ni_mul, ni_clamp, ni_in, ni_eq, ni_lt, ni_le, ni_sub, Nat.reduceAdd, Nat.reduceMul, Nat.reduceSub, eq_self, true_implies, not_true_eq_false, false_implies, and_true, true_and, not_false_eq_true, Nat.reduceEqDiff, Nat.reduceLeDiff, Nat.reduceLT, implies_true, ite_true, ite_false]
        obtain ⟨p, hp, rfl⟩ := z1
        obtain ⟨b, hb, rfl⟩ := z2
        obtain ⟨n, hn, rfl⟩ := z3
        have hpe := hW2.p (show p < 8 by omega)
        have hm := hpe.2.2.1
        have hkk := a7 b n (by omega) (by omega)
        obtain ⟨s1, s2⟩ := a3 b (by omega)
        refine r_own (by omega) (by omega) ?_
        have hok : (tou g b (og g p 0) ∧ 0 < g (220 + 20 * b + n) ∧ og g p 2 < 9 ∧ ¬ hasN g p n) ↔ okTake g (nI p) (nI b) (nI n) := by
          unfold okTake
          rw [ni_clamp (by omega), ni_clamp (by omega), ni_clamp (by omega)]
          exact ⟨fun q => ⟨⟨⟨⟨p, hp, rfl⟩, ⟨b, hb, rfl⟩⟩, ⟨n, hn, rfl⟩⟩, q⟩, fun q => q.2⟩
        refine r_otherEnd (by omega) hpe.1 s1 s2 (fun y => ?_) (fun y => ?_)
        · have hoth : oth g b (og g p 0) < 8 := by unfold oth; split <;> omega
          simp (disch := omega) only [hs_at, hs_put, hs_63, NH_at, NH_put, NH_cpy, ni_add, ni_mul, ni_clamp, ni_in, ni_eq, ni_lt, ni_le, ni_sub, Nat.reduceAdd, Nat.reduceMul, Nat.reduceSub, eq_self, true_implies, not_true_eq_false, false_implies, and_true, true_and, not_false_eq_true, Nat.reduceEqDiff, Nat.reduceLeDiff, Nat.reduceLT, implies_true, ite_true, ite_false, ni_m1_eq]
          refine ⟨by omega, fun e => h0 (fun q => by have := (hok.mpr q).2.1; omega), fun e => ?_⟩
          refine r_canHave (by omega) (by omega) hm (hpe.r31 w0) (fun z => ?_) (fun z => ?_)
          · simp (disch := omega) only [hs_at, hs_put, hs_63, NH_at, NH_put, NH_cpy, ni_add, ni_mul, ni_clamp, ni_in, ni_eq, ni_lt, ni_le, ni_sub, Nat.reduceAdd, Nat.reduceMul, Nat.reduceSub, eq_self, true_implies, not_true_eq_false, false_implies, and_true, true_and, not_false_eq_true, Nat.reduceEqDiff, Nat.reduceLeDiff, Nat.reduceLT, implies_true, ite_true, ite_false]
            refine ⟨by omega, by omega, ?_⟩
            have hogk : ∀ f, f < 16 → og (nup g (220 + 20 * b + n) (g (220 + 20 * b + n) - 1)) p f = og g p f := fun f hf => nup_ne g _ (by omega)
            refine r_comes (by omega) (by rw [hogk 2 (by omega)]; exact hm) ?_
            refine r_forgets ?_
            exact h1 (hok.mp ⟨y, by omega, z⟩) p b n hp hb hn (by omega) z.1 z.2 rfl rfl rfl
          · simp (disch := omega) only [hs_at, hs_put, hs_63, NH_at, NH_put, NH_cpy, ni_add, ni_mul, ni_clamp, ni_in, ni_eq, ni_lt, ni_le, ni_sub, Nat.reduceAdd, Nat.reduceMul, Nat.reduceSub, eq_self, true_implies, not_true_eq_false, false_implies, and_true, true_and, not_false_eq_true, Nat.reduceEqDiff, Nat.reduceLeDiff, Nat.reduceLT, implies_true, ite_true, ite_false]
            exact h0 (fun q => z (hok.mpr q).2.2)
        · simp (disch := omega) only [hs_at, hs_put, hs_63, NH_at, NH_put, NH_cpy, ni_add, ni_mul, ni_clamp, ni_in, ni_eq, ni_lt, ni_le, ni_sub, Nat.reduceAdd, Nat.reduceMul, Nat.reduceSub, eq_self, true_implies, not_true_eq_false, false_implies, and_true, true_and, not_false_eq_true, Nat.reduceEqDiff, Nat.reduceLeDiff, Nat.reduceLT, implies_true, ite_true, ite_false]
          exact h0 (fun q => y (hok.mpr q).1)
      · simp (disch := omega) only [hs_at, hs_put, hs_63, NH_at, NH_put, NH_cpy, ni_add, ni_mul, ni_clamp, ni_in, ni_eq, ni_lt, ni_le, ni_sub, Nat.reduceAdd, Nat.reduceMul, Nat.reduceSub, eq_self, true_implies, not_true_eq_false, false_implies, and_true, true_and, not_false_eq_true, Nat.reduceEqDiff, Nat.reduceLeDiff, Nat.reduceLT, implies_true, ite_true, ite_false]
        exact h0 (fun q => z3 q.1.2)
    · simp (disch := omega) only [hs_at, hs_put, hs_63, NH_at, NH_put, NH_cpy, ni_add, ni_mul, ni_clamp, ni_in, ni_eq, ni_lt, ni_le, ni_sub, Nat.reduceAdd, Nat.reduceMul, Nat.reduceSub, eq_self, true_implies, not_true_eq_false, false_implies, and_true, true_and, not_false_eq_true, Nat.reduceEqDiff, Nat.reduceLeDiff, Nat.reduceLT, implies_true, ite_true, ite_false]
      exact h0 (fun q => z2 q.1.1.2)
  · simp (disch := omega) only [hs_at, hs_put, hs_63, NH_at, NH_put, NH_cpy, ni_add, ni_mul, ni_clamp, ni_in, ni_eq, ni_lt, ni_le, ni_sub, Nat.reduceAdd, Nat.reduceMul, Nat.reduceSub, eq_self, true_implies, not_true_eq_false, false_implies, and_true, true_and, not_false_eq_true, Nat.reduceEqDiff, Nat.reduceLeDiff, Nat.reduceLT, implies_true, ite_true, ite_false]
    exact h0 (fun q => z1 q.1.1.1)
theorem ra_kept {b n k : Nat} (hb : b < 12) (hn : n < 20) (hm9 : ∀ q, q < 8 → og g q 2 ≤ 9) (hA : RA g c) : RA (nup g (220 + 20 * b + n) k) (cup c 16 (20 * b + n) k) := by
  obtain ⟨⟨a1, a2, a3, a4, a5, a6, a7⟩, ⟨b1, b2⟩, hk, he⟩ := hA
  have hx : ∀ j, (j < 220 ∨ 460 ≤ j) → nup g (220 + 20 * b + n) k j = g j := fun j hj => nup_ne g _ (by omega)
  have hcell : ∀ o j, o ≠ 16 → cup c 16 (20 * b + n) k o j = c o j := fun o j h1 => by rw [cup_app, if_neg h1]
  have ho : ∀ q f, q < 8 → f < 16 → og (nup g (220 + 20 * b + n) k) q f = og g q f := fun q f hq hf => nup_ne g _ (by omega)
  refine ⟨⟨?_, ?_, ?_, ?_, ?_, ?_, ?_⟩, ⟨?_, ?_⟩, ?_, ?_⟩
  · simp (disch := omega) only [hx, hcell]
    exact a1
  · intro i hi; rw [hx _ (by omega), hcell _ _ (by omega)]; exact a2 i hi
  · intro i hi; rw [hx _ (by omega), hcell _ _ (by omega)]; exact a3 i hi
  · intro i hi; rw [hx _ (by omega), hcell _ _ (by omega)]; exact a4 i hi
  · intro i hi; rw [hx _ (by omega), hcell _ _ (by omega)]; exact a5 i hi
  · rw [hx _ (by omega), hcell _ _ (by omega)]; exact a6
  · intro i hi; rw [hx _ (by omega), hcell _ _ (by omega)]; exact a7 i hi
  · rw [hx _ (by omega), hcell _ _ (by omega)]; exact b1
  · intro q hq
    have h9 := hm9 q hq
    have hh : had (nup g (220 + 20 * b + n) k) q = had g q := had_congr (ho q 2 hq (by omega)) (fun i hi => ho q _ hq (by omega))
    rw [ho q 0 hq (by omega), ho q 1 hq (by omega), ho q 2 hq (by omega), ho q 3 hq (by omega), hh]
    simp only [hcell 7 _ (by omega), hcell 8 _ (by omega), hcell 9 _ (by omega), hcell 11 _ (by omega), hcell 12 _ (by omega), hcell 13 _ (by omega)]
    obtain ⟨r0, r1, r3, r6, r2, r5⟩ := b2 q hq
    refine ⟨r0, r1, r3, r6, r2, fun i hi => ?_⟩
    rw [ho q _ hq (by omega)]
    exact r5 i hi
  · intro b' m hb' hmm
    rw [cup_app, if_pos rfl, nup_app]
    have := hk b' m hb' hmm
    by_cases he' : b' = b ∧ m = n
    · rw [if_pos (by omega), if_pos (by omega)]
    · rw [if_neg (by omega), if_neg (by omega)]; exact this
  · intro q hq
    rw [hcell _ _ (by omega), ho q 4 hq (by omega)]
    exact he q hq
theorem wf_kept {b n k : Nat} (hb : b < g 2) (hn : n < 20) (hk : k ≤ t) (hW : WF g t) : WF (nup g (220 + 20 * b + n) k) t := by
  have w2 := hW.1.2.2.1
  obtain ⟨a1, a2, a3, a4, a5, a6, a7, a8⟩ := hW
  have hx : ∀ j, (j < 220 ∨ 460 ≤ j) → nup g (220 + 20 * b + n) k j = g j := fun j hj => nup_ne g _ (by omega)
  have ho : ∀ q f, q < 8 → f < 16 → og (nup g (220 + 20 * b + n) k) q f = og g q f := fun q f hq hf => nup_ne g _ (by omega)
  refine ⟨?_, ?_, ?_, ?_, ?_, ?_, ?_, ?_⟩
  · simp (disch := omega) only [hx]; omega
  · intro m hm; rw [hx _ (by omega), hx _ (by omega)]; exact a2 m hm
  · intro b hb; rw [hx _ (by omega), hx _ (by omega)]; exact a3 b hb
  · intro b hb; rw [hx 2 (by omega)] at hb; rw [hx _ (by omega), hx _ (by omega)]; exact a4 b hb
  · intro b hb; rw [hx 8 (by omega)] at hb; rw [hx _ (by omega), hx 2 (by omega)]; exact a5 b hb
  · intro q hq
    obtain ⟨b1, b2, b3, b4, b5, b6, b7⟩ := a6 q hq
    unfold pers
    rw [hx 0 (by omega), ho q 0 hq (by omega), ho q 1 hq (by omega), ho q 2 hq (by omega), ho q 3 hq (by omega), ho q 4 hq (by omega)]
    refine ⟨b1, b2, b3, b4, b5, fun i hi => ?_, fun i j hij hj => ?_⟩
    · rw [ho q _ hq (by omega)]; exact b6 i hi
    · rw [ho q _ hq (by omega), ho q _ hq (by omega)]; exact b7 i j hij hj
  · intro b' m hb' hmm
    have := a7 b' m hb' hmm
    rw [nup_app]
    split <;> omega
  · intro b' m hb' hb2 hmm
    rw [hx 2 (by omega)] at hb'
    rw [nup_app, if_neg (by omega)]
    exact a8 b' m hb' hb2 hmm
theorem wf_take {p b n : Nat} (hp : p < g 1) (hb : b < g 2) (hn : n < g 0) (hm : og g p 2 < 9) (hno : ¬ hasN g p n) (hW : WF g t) : WF (tkG g p b n) t := by
  have w0 := hW.1.1
  have w1 := hW.1.2.1
  have w2 := hW.1.2.2.1
  have hkk := hW.2.2.2.2.2.2.1 b n (by omega) (by omega)
  have h9 := (hW.p (show p < 8 by omega)).2.2.1
  have ho : ∀ f, f < 16 → og (nup g (220 + 20 * b + n) (g (220 + 20 * b + n) - 1)) p f = og g p f := fun f hf => nup_ne g _ (by omega)
  have hW1 : WF (nup g (220 + 20 * b + n) (g (220 + 20 * b + n) - 1)) t := wf_kept hb (by omega) (by omega) hW
  refine wf_com (by rw [nup_ne g _ (by omega)]; exact hp) (by rw [nup_ne g _ (by omega)]; exact hn) (by rw [ho 2 (by omega)]; exact hm) ?_ hW1
  rintro ⟨i, hi, e⟩
  rw [ho 2 (by omega)] at hi
  rw [ho _ (by omega)] at e
  exact hno ⟨i, hi, e⟩
theorem ci_take {vp vb vn : Int32} (ht : t < 1000000) (hW : WF g t) (hA : RA g c) (h1 : okTake g vp vb vn → ∀ p b n c', p < g 1 → b < g 2 → n < g 0 → 0 < g (220 + 20 * b + n) → og g p 2 < 9 → ¬ hasN g p n → vp = nI p → vb = nI b → vn = nI n → RA (tkG g p b n) c' → FR c c' → c' 53 0 = 0 → Q (nI 1) (NH c')) (h0 : ¬ okTake g vp vb vn → Q (nI 0) (NH c)) : am_C tT E (d + 3) mX11_take [.inr 0, .inl vp, .inl vb, .inl vn] (NH c) Q := by
  have hW2 := hW
  have e1 : c 6 0 = g 1 := hA.2.1.1
  have e0 : c 1 4 = g 0 := hA.1.1.2.2.2.2.1
  have hm9 : ∀ p, p < 8 → og g p 2 ≤ 9 := fun p hp => (hW2.p hp).2.2.1
  obtain ⟨⟨w0, w1, w2, w3, w4, w5, w6, w7, w8⟩, -, a3, -, -, -, a7, -⟩ := hW
  refine am_C.of (by decide) (Nat.le_of_ble_eq_true rfl) ?_
  show am_R tT E _ mX11_take _ 0 [some (.inr 0), some (.inl vp), some (.inl vb), some (.inl vn)] [] (NH c)
  refine am_goS gX11_take [] 400 ?_
  simp only [am_eqs, am_eqk, am_eqv, lX11_take_0, lX11_take_1, lX11_take_2, fx_class, NH_at, NH_put, ↓reduceIte, List.mem_cons, List.not_mem_nil, or_false, or_self, false_or, true_and, and_true, Nat.reduceEqDiff, reduceCtorEq, List.length_cons, List.length_nil, Nat.reduceAdd, Nat.reduceLeDiff, Nat.reduceSub, Nat.reduceLT, Nat.zero_le, Nat.zero_add, forall_const, not_true_eq_false, not_false_eq_true, false_implies, true_implies, implies_true, Nat.zero_lt_succ, am_z0, am_z1]
  refine c_isPerson (by omega) (fun z1 => ?_) (fun z1 => ?_)
  · simp (disch := omega) only [hs_at, hs_put, hs_63, NH_at, NH_put, NH_cpy, ni_add, ni_mul, ni_clamp, ni_in, ni_eq, ni_lt, ni_le, ni_sub, Nat.reduceAdd, Nat.reduceMul, Nat.reduceSub, eq_self, true_implies, not_true_eq_false, false_implies, and_true, true_and, not_false_eq_true, Nat.reduceEqDiff, Nat.reduceLeDiff, Nat.reduceLT, implies_true, ite_true, ite_false]
    refine c_isName (by omega) (fun z3 => ?_) (fun z3 => ?_)
    · simp (disch := omega) only [hs_at, hs_put, hs_63, NH_at, NH_put, NH_cpy, ni_add, ni_mul, ni_clamp, ni_in, ni_eq, ni_lt, ni_le, ni_sub, Nat.reduceAdd, Nat.reduceMul, Nat.reduceSub, eq_self, true_implies, not_true_eq_false, false_implies, and_true, true_and, not_false_eq_true, Nat.reduceEqDiff, Nat.reduceLeDiff, Nat.reduceLT, implies_true, ite_true, ite_false]
      rw [e1] at z1
      rw [e0] at z3
      obtain ⟨p, hp, rfl⟩ := z1
      obtain ⟨n, hn, rfl⟩ := z3
      have hpe := hW2.p (show p < 8 by omega)
      have hm := hpe.2.2.1
      have hh := had_20 w0 hpe
      refine c_standsAt (by omega) hW2 hA (fun z2 => ?_) (fun z2 => ?_)
      · simp (disch := omega) only [hs_at, hs_put, hs_63, NH_at, NH_put, NH_cpy, ni_add, ni_mul, ni_clamp, ni_in, ni_eq, ni_lt, ni_le, ni_sub, Nat.reduceAdd, Nat.reduceMul, Nat.reduceSub, eq_self, true_implies, not_true_eq_false, false_implies, and_true, true_and, not_false_eq_true, Nat.reduceEqDiff, Nat.reduceLeDiff, Nat.reduceLT, implies_true, ite_true, ite_false]
        obtain ⟨⟨b, hb, rfl⟩, y⟩ := z2
        rw [ni_clamp (by omega)] at y
        have hkk := a7 b n (by omega) (by omega)
        have rk := hA.2.2.1 b n (by omega) (by omega)
        have hok : (tou g b (og g p 0) ∧ 0 < g (220 + 20 * b + n) ∧ og g p 2 < 9 ∧ ¬ hasN g p n) ↔ okTake g (nI p) (nI b) (nI n) := by
          unfold okTake
          rw [ni_clamp (by omega), ni_clamp (by omega), ni_clamp (by omega)]
          exact ⟨fun q => ⟨⟨⟨⟨p, hp, rfl⟩, ⟨b, hb, rfl⟩⟩, ⟨n, hn, rfl⟩⟩, q⟩, fun q => q.2⟩
        obtain ⟨r0, r1, r3, r6, r2, r5⟩ := hA.2.1.2 p (by omega)
        have hhas : (c 12 p < 9 ∧ c 11 p >>> n &&& 1 = 0) ↔ (og g p 2 < 9 ∧ ¬ hasN g p n) := by
          rw [r2, r6]
          have := had_bit g p n
          have h01 := bit01 (had g p) n
          constructor
          · rintro ⟨a, b⟩; exact ⟨a, fun q => by have := this.mpr q; omega⟩
          · rintro ⟨a, b⟩; exact ⟨a, by rcases h01 with z | z; exact z; exact absurd (this.mp z) b⟩
        refine c_keptOf (by omega) (by omega) ?_
        rw [rk]
        simp (disch := omega) only [hs_at, hs_put, hs_63, NH_at, NH_put, NH_cpy, ni_add, ni_mul, ni_clamp, ni_in, ni_eq, ni_lt, ni_le, ni_sub, Nat.reduceAdd, Nat.reduceMul, Nat.reduceSub, eq_self, true_implies, not_true_eq_false, false_implies, and_true, true_and, not_false_eq_true, Nat.reduceEqDiff, Nat.reduceLeDiff, Nat.reduceLT, implies_true, ite_true, ite_false]
        refine ⟨fun e => h0 (fun q => by have := (hok.mpr q).2.1; omega), fun e => ?_⟩
        refine c_canGain (by omega) (by omega) (by omega) (by omega) (fun z => ?_) (fun z => ?_)
        · have zz := hhas.mp z
          simp (disch := omega) only [hs_at, hs_put, hs_63, NH_at, NH_put, NH_cpy, ni_add, ni_mul, ni_clamp, ni_in, ni_eq, ni_lt, ni_le, ni_sub, Nat.reduceAdd, Nat.reduceMul, Nat.reduceSub, eq_self, true_implies, not_true_eq_false, false_implies, and_true, true_and, not_false_eq_true, Nat.reduceEqDiff, Nat.reduceLeDiff, Nat.reduceLT, implies_true, ite_true, ite_false]
          refine c_tforget ?_
          have hA1 := ra_kept (k := g (220 + 20 * b + n) - 1) (show b < 12 by omega) (show n < 20 by omega) hm9 (ra_c53 hA)
          have ho : ∀ q f, q < 8 → f < 16 → og (nup g (220 + 20 * b + n) (g (220 + 20 * b + n) - 1)) q f = og g q f := fun q f hq hf => nup_ne g _ (by omega)
          refine c_changeKept (k := g (220 + 20 * b + n) - 1) (by omega) (by omega) ?_ ?_
          · rw [cup_ne c _ _ (by decide), rk]
            exact ni_addm1 (by omega)
          · have e12 : cup (cup c 53 0 0) 16 (20 * b + n) (g (220 + 20 * b + n) - 1) 12 p = og g p 2 := by
              have := (hA1.2.1.2 p (by omega)).2.2.2.2.1
              rw [this, ho p 2 (by omega) (by omega)]
            refine c_append (by omega) (by omega) (by omega) ?_
            refine h1 (hok.mp ⟨y, by omega, zz⟩) p b n _ hp hb hn (by omega) zz.1 zz.2 rfl rfl rfl (ra_append (fun q hq => by rw [ho q 2 hq (by omega)]; exact hm9 q hq) (by omega) (by rw [ho p 2 (by omega) (by omega)]; exact zz.1) hA1) (fun o ho1 ho2 => ?_) ?_
            · funext j
              unfold iC
              grind [cup_app, ccp_app]
            · unfold iC
              grind [cup_app, ccp_app]
        · simp (disch := omega) only [hs_at, hs_put, hs_63, NH_at, NH_put, NH_cpy, ni_add, ni_mul, ni_clamp, ni_in, ni_eq, ni_lt, ni_le, ni_sub, Nat.reduceAdd, Nat.reduceMul, Nat.reduceSub, eq_self, true_implies, not_true_eq_false, false_implies, and_true, true_and, not_false_eq_true, Nat.reduceEqDiff, Nat.reduceLeDiff, Nat.reduceLT, implies_true, ite_true, ite_false]
          exact h0 (fun q => z (hhas.mpr (hok.mpr q).2.2))
      · simp (disch := omega) only [hs_at, hs_put, hs_63, NH_at, NH_put, NH_cpy, ni_add, ni_mul, ni_clamp, ni_in, ni_eq, ni_lt, ni_le, ni_sub, Nat.reduceAdd, Nat.reduceMul, Nat.reduceSub, eq_self, true_implies, not_true_eq_false, false_implies, and_true, true_and, not_false_eq_true, Nat.reduceEqDiff, Nat.reduceLeDiff, Nat.reduceLT, implies_true, ite_true, ite_false]
        exact h0 (fun q => z2 ⟨q.1.1.2, by have := q.2.1; rw [ni_clamp (show p < 2147483648 by omega)] at this; exact this⟩)
    · simp (disch := omega) only [hs_at, hs_put, hs_63, NH_at, NH_put, NH_cpy, ni_add, ni_mul, ni_clamp, ni_in, ni_eq, ni_lt, ni_le, ni_sub, Nat.reduceAdd, Nat.reduceMul, Nat.reduceSub, eq_self, true_implies, not_true_eq_false, false_implies, and_true, true_and, not_false_eq_true, Nat.reduceEqDiff, Nat.reduceLeDiff, Nat.reduceLT, implies_true, ite_true, ite_false]
      rw [e0] at z3
      exact h0 (fun q => z3 q.1.2)
  · simp (disch := omega) only [hs_at, hs_put, hs_63, NH_at, NH_put, NH_cpy, ni_add, ni_mul, ni_clamp, ni_in, ni_eq, ni_lt, ni_le, ni_sub, Nat.reduceAdd, Nat.reduceMul, Nat.reduceSub, eq_self, true_implies, not_true_eq_false, false_implies, and_true, true_and, not_false_eq_true, Nat.reduceEqDiff, Nat.reduceLeDiff, Nat.reduceLT, implies_true, ite_true, ite_false]
    rw [e1] at z1
    exact h0 (fun q => z1 q.1.1.1)
end OPS11
