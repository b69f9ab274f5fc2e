/-! ===== part 31: christen, take ===== -/
section OPS10
variable {E : am_E} {d : Nat} {h : am_H} {Q : Int32 → am_H → Prop} {g : Nat → Nat} {c : Nat → Nat → Nat} {t : Nat}
def chG (g : Nat → Nat) (p n : Nat) : Nat → Nat := nup (comG g p n) (90 + 16 * p + 3) (og g p 3 ||| 1 <<< n)
def okChr (g : Nat → Nat) (vp vn : Int32) : Prop := (isB vp (g 1) ∧ isB vn (g 0)) ∧ og g vp.toNatClampNeg 2 < 9 ∧ ¬ hasN g vp.toNatClampNeg vn.toNatClampNeg
theorem og_com {p n q f : Nat} (hm : og g p 2 ≤ 9) (hp : p < 8) (hq : q < 8) (hf : f < 15) : og (comG g p n) q f = if q = p then (if f = 2 then og g p 2 + 1 else if f = 5 + og g p 2 then n else og g p f) else og g q f := by
  unfold comG og at *
  grind [nup_app]
theorem com_off {p n j : Nat} (hm : og g p 2 ≤ 9) (hp : p < 8) (hj : j < 90 ∨ 218 ≤ j) : comG g p n j = g j := by
  unfold comG
  rw [nup_ne _ _ (by omega), nup_ne _ _ (by omega)]
theorem ri_christen {vp vn : Int32} (hW : WF g t) (h1 : okChr g vp vn → ∀ p n, p < g 1 → n < g 0 → og g p 2 < 9 → ¬ hasN g p n → vp = nI p → vn = nI n → Q (nI 1) (hs (am_upd h 63 4 (nI 0)) (chG g p n))) (h0 : ¬ okChr g vp vn → Q (nI 0) (hs h g)) : am_C tT E (d + 3) mX12_christen [.inr 63, .inl vp, .inl vn] (hs h g) Q := by
  have hW2 := hW
  obtain ⟨⟨w0, w1, w2, w3, w4, w5, w6, w7, w8⟩, -⟩ := hW
  refine am_C.of (by decide) (Nat.le_of_ble_eq_true rfl) ?_
  show am_R tT E _ mX12_christen _ 0 [some (.inr 63), some (.inl vp), some (.inl vn)] [] (hs h g)
  refine am_goS gX12_christen [] 400 ?_
  simp only [am_eqs, am_eqk, am_eqv, lX12_christen_0, lX12_christen_1, fx_ref, ↓reduceIte, List.mem_cons, List.not_mem_nil, or_false, or_self, false_or, true_and, and_true, Nat.reduceEqDiff, reduceCtorEq, List.length_cons, List.length_nil, Nat.reduceAdd, Nat.reduceLeDiff, Nat.reduceSub, Nat.reduceLT, Nat.zero_le, Nat.zero_add, forall_const, not_true_eq_false, not_false_eq_true, false_implies, true_implies, implies_true, Nat.zero_lt_succ, am_z0, am_z1]
  refine r_isPerson (by omega) (fun z1 => ?_) (fun z1 => ?_)
  · simp (disch := omega) only [hs_at, hs_put, hs_63, NH_at, NH_put, NH_cpy, ni_add, ni_mul, ni_clamp, ni_in, ni_eq, ni_lt, ni_le, ni_sub, Nat.reduceAdd, Nat.reduceMul, Nat.reduceSub, eq_self, true_implies, not_true_eq_false, false_implies, and_true, true_and, not_false_eq_true, Nat.reduceEqDiff, Nat.reduceLeDiff, Nat.reduceLT, implies_true, ite_true, ite_false]
    refine r_isName (by omega) (fun z2 => ?_) (fun z2 => ?_)
    · simp (disch := omega) only [hs_at, hs_put, hs_63, NH_at, NH_put, NH_cpy, ni_add, ni_mul, ni_clamp, ni_in, ni_eq, ni_lt, ni_le, ni_sub, Nat.reduceAdd, Nat.reduceMul, Nat.reduceSub, eq_self, true_implies, not_true_eq_false, false_implies, and_true, true_and, not_false_eq_true, Nat.reduceEqDiff, Nat.reduceLeDiff, Nat.reduceLT, implies_true, ite_true, ite_false]
      obtain ⟨p, hp, rfl⟩ := z1
      obtain ⟨n, hn, rfl⟩ := z2
      have hpe := hW2.p (show p < 8 by omega)
      have hm := hpe.2.2.1
      have h3 := hpe.2.2.2.1
      refine r_canHave (by omega) (by omega) hm (hpe.r31 w0) (fun z => ?_) (fun z => ?_)
      · simp (disch := omega) only [hs_at, hs_put, hs_63, NH_at, NH_put, NH_cpy, ni_add, ni_mul, ni_clamp, ni_in, ni_eq, ni_lt, ni_le, ni_sub, Nat.reduceAdd, Nat.reduceMul, Nat.reduceSub, eq_self, true_implies, not_true_eq_false, false_implies, and_true, true_and, not_false_eq_true, Nat.reduceEqDiff, Nat.reduceLeDiff, Nat.reduceLT, implies_true, ite_true, ite_false]
        refine r_comes (by omega) hm ?_
        refine r_own (by omega) (by omega) ?_
        rw [og_com hm (by omega) (by omega) (by omega), if_pos rfl, if_neg (by omega), if_neg (by omega)]
        simp (disch := omega) only [hs_at, hs_put, hs_63, NH_at, NH_put, NH_cpy, ni_add, ni_mul, ni_clamp, ni_in, ni_eq, ni_lt, ni_le, ni_sub, Nat.reduceAdd, Nat.reduceMul, Nat.reduceSub, eq_self, true_implies, not_true_eq_false, false_implies, and_true, true_and, not_false_eq_true, Nat.reduceEqDiff, Nat.reduceLeDiff, Nat.reduceLT, implies_true, ite_true, ite_false, ni_shl, ni_or]
        refine r_gives (by omega) (by omega) ?_
        refine r_forgets ?_
        exact h1 ⟨⟨⟨p, hp, rfl⟩, ⟨n, hn, rfl⟩⟩, by rw [ni_clamp (by omega), ni_clamp (by omega)]; exact z⟩ p n hp hn z.1 z.2 rfl rfl
      · simp (disch := omega) only [hs_at, hs_put, hs_63, NH_at, NH_put, NH_cpy, ni_add, ni_mul, ni_clamp, ni_in, ni_eq, ni_lt, ni_le, ni_sub, Nat.reduceAdd, Nat.reduceMul, Nat.reduceSub, eq_self, true_implies, not_true_eq_false, false_implies, and_true, true_and, not_false_eq_true, Nat.reduceEqDiff, Nat.reduceLeDiff, Nat.reduceLT, implies_true, ite_true, ite_false]
        exact h0 (fun q => z (by have := q.2; rw [ni_clamp (by omega), ni_clamp (by omega)] at this; exact this))
    · simp (disch := omega) only [hs_at, hs_put, hs_63, NH_at, NH_put, NH_cpy, ni_add, ni_mul, ni_clamp, ni_in, ni_eq, ni_lt, ni_le, ni_sub, Nat.reduceAdd, Nat.reduceMul, Nat.reduceSub, eq_self, true_implies, not_true_eq_false, false_implies, and_true, true_and, not_false_eq_true, Nat.reduceEqDiff, Nat.reduceLeDiff, Nat.reduceLT, implies_true, ite_true, ite_false]
      exact h0 (fun q => z2 q.1.2)
  · simp (disch := omega) only [hs_at, hs_put, hs_63, NH_at, NH_put, NH_cpy, ni_add, ni_mul, ni_clamp, ni_in, ni_eq, ni_lt, ni_le, ni_sub, Nat.reduceAdd, Nat.reduceMul, Nat.reduceSub, eq_self, true_implies, not_true_eq_false, false_implies, and_true, true_and, not_false_eq_true, Nat.reduceEqDiff, Nat.reduceLeDiff, Nat.reduceLT, implies_true, ite_true, ite_false]
    exact h0 (fun q => z1 q.1.1)
theorem og_ch {p n q f : Nat} (hm : og g p 2 ≤ 9) (hp : p < 8) (hq : q < 8) (hf : f < 15) : og (chG g p n) q f = if q = p then (if f = 2 then og g p 2 + 1 else if f = 5 + og g p 2 then n else if f = 3 then og g p 3 ||| 1 <<< n else og g p f) else og g q f := by
  unfold chG
  have h1 := og_com (g := g) (n := n) hm hp hq hf
  unfold og at *
  grind [nup_app]
theorem ch_off {p n j : Nat} (hm : og g p 2 ≤ 9) (hp : p < 8) (hj : j < 90 ∨ 218 ≤ j) : chG g p n j = g j := by
  unfold chG
  rw [nup_ne _ _ (by omega), com_off hm hp hj]
theorem ra_append {p n : Nat} (hm9 : ∀ q, q < 8 → og g q 2 ≤ 9) (hp : p < 8) (hm : og g p 2 < 9) (hA : RA g c) : RA (comG g p n) (iC c p (c 12 p) n) := by
  obtain ⟨⟨a1, a2, a3, a4, a5, a6, a7⟩, hR, hk, he⟩ := hA
  have hx : ∀ j, (j < 90 ∨ 218 ≤ j) → comG g p n j = g j := fun j hj => com_off (by omega) hp hj
  have ez : c 12 p = og g p 2 := (hR.2 p hp).2.2.2.2.1
  have hcell : ∀ o j, o ≠ 13 → o ≠ 12 → o ≠ 11 → iC c p (c 12 p) n o j = c o j := by
    intro o j h1 h2 h3
    unfold iC
    rw [cup_app, if_neg h3, cup_app, if_neg h2, cup_app, if_neg h1, ccp_app, if_neg h1]
  refine ⟨⟨?_, ?_, ?_, ?_, ?_, ?_, ?_⟩, ?_, ?_, ?_⟩
  · simp (disch := omega) only [hx, hcell]
    exact a1
  · intro i hi; rw [hx _ (by omega), hcell _ _ (by omega) (by omega) (by omega)]; exact a2 i hi
  · intro i hi; rw [hx _ (by omega), hcell _ _ (by omega) (by omega) (by omega)]; exact a3 i hi
  · intro i hi; rw [hx _ (by omega), hcell _ _ (by omega) (by omega) (by omega)]; exact a4 i hi
  · intro i hi; rw [hx _ (by omega), hcell _ _ (by omega) (by omega) (by omega)]; exact a5 i hi
  · rw [hx _ (by omega), hcell _ _ (by omega) (by omega) (by omega)]; exact a6
  · intro i hi; rw [hx _ (by omega), hcell _ _ (by omega) (by omega) (by omega)]; exact a7 i hi
  · rw [ez]
    refine rp_ins hp hm9 hm (Nat.le_refl _) hR (hx 1 (by omega)) (fun q hq hqp => ?_) ?_ (fun i hi => ?_) ?_ (fun i hi1 hi2 => absurd hi2 (by omega))
    · have h9 := hm9 q hq
      refine ⟨?_, ?_, ?_, ?_, fun i hi => ?_⟩ <;> rw [og_com (by omega) hp hq (by omega), if_neg hqp]
    · refine ⟨?_, ?_, ?_, ?_⟩ <;> rw [og_com (by omega) hp hp (by omega), if_pos rfl] <;> simp
      all_goals omega
    · rw [og_com (by omega) hp hp (by omega), if_pos rfl, if_neg (by omega), if_neg (by omega)]
    · rw [og_com (by omega) hp hp (by omega), if_pos rfl, if_neg (by omega), if_pos rfl]
  · intro b m hb hmm
    rw [hx _ (by omega), hcell _ _ (by omega) (by omega) (by omega)]
    exact hk b m hb hmm
  · intro q hq
    rw [hcell _ _ (by omega) (by omega) (by omega), he q hq, og_com (by omega) hp hq (by omega)]
    by_cases hqp : q = p
    · rw [if_pos hqp, if_neg (by omega), if_neg (by omega), hqp]
    · rw [if_neg hqp]
theorem ra_c53 {c : Nat → Nat → Nat} (hA : RA g c) : RA g (cup c 53 0 0) := by
  obtain ⟨⟨a1, a2, a3, a4, a5, a6, a7⟩, ⟨b1, b2⟩, hk, he⟩ := hA
  have hc : ∀ o, o ≤ 16 → cup c 53 0 0 o = c o := fun o ho => cup_ne c 0 0 (by omega)
  refine ⟨⟨?_, ?_, ?_, ?_, ?_, ?_, ?_⟩, ⟨?_, ?_⟩, ?_, ?_⟩ <;> simp only [RK, RE, hc 1 (by omega), hc 2 (by omega), hc 3 (by omega), hc 4 (by omega), hc 5 (by omega), hc 6 (by omega), hc 7 (by omega), hc 8 (by omega), hc 9 (by omega), hc 10 (by omega), hc 11 (by omega), hc 12 (by omega), hc 13 (by omega), hc 14 (by omega), hc 15 (by omega), hc 16 (by omega)]
  all_goals assumption
theorem ra_chr {p n : Nat} (hm9 : ∀ q, q < 8 → og g q 2 ≤ 9) (hp : p < 8) (hm : og g p 2 < 9) (hA : RA (comG g p n) c) : RA (chG g p n) (cup c 9 p (og g p 3 ||| 1 <<< n)) := by
  obtain ⟨⟨a1, a2, a3, a4, a5, a6, a7⟩, ⟨b1, b2⟩, hk, he⟩ := hA
  have hx : ∀ j, (j < 90 ∨ 218 ≤ j) → chG g p n j = comG g p n j := fun j hj => by rw [ch_off (by omega) hp hj, com_off (by omega) hp hj]
  have hcell : ∀ o j, o ≠ 9 → cup c 9 p (og g p 3 ||| 1 <<< n) o j = c o j := by
    intro o j h1
    rw [cup_app, if_neg h1]
  have ho : ∀ q f, q < 8 → f < 15 → f ≠ 3 → og (chG g p n) q f = og (comG g p n) q f := by
    intro q f hq hf hf3
    rw [og_ch (by omega) hp hq hf, og_com (by omega) hp hq hf, if_neg hf3]
  have ho3 : ∀ q, q < 8 → og (chG g p n) q 3 = if q = p then og g p 3 ||| 1 <<< n else og (comG g p n) q 3 := by
    intro q hq
    rw [og_ch (by omega) hp hq (by omega), og_com (by omega) hp hq (by omega)]
    grind
  have hm10 : ∀ q, q < 8 → og (comG g p n) q 2 ≤ 9 := by
    intro q hq
    have := hm9 q hq
    rw [og_com (by omega) hp hq (by omega)]
    split
    · simp; omega
    · omega
  have hh : ∀ q, q < 8 → had (chG g p n) q = had (comG g p n) q := fun q hq => had_congr (ho q 2 hq (by omega) (by omega)) (fun i hi => ho q _ hq (by have := hm10 q hq; omega) (by omega))
  refine ⟨⟨?_, ?_, ?_, ?_, ?_, ?_, ?_⟩, ⟨?_, ?_⟩, ?_, ?_⟩
  · simp (disch := omega) only [hx, hcell]
    exact a1
  · intro i hi; rw [hx _ (by omega), hcell _ _ (by omega)]; exact a2 i hi
  · intro i hi; rw [hx _ (by omega), hcell _ _ (by omega)]; exact a3 i hi
  · intro i hi; rw [hx _ (by omega), hcell _ _ (by omega)]; exact a4 i hi
  · intro i hi; rw [hx _ (by omega), hcell _ _ (by omega)]; exact a5 i hi
  · rw [hx _ (by omega), hcell _ _ (by omega)]; exact a6
  · intro i hi; rw [hx _ (by omega), hcell _ _ (by omega)]; exact a7 i hi
  · rw [hx _ (by omega), hcell _ _ (by omega)]; exact b1
  · intro q hq
    obtain ⟨r0, r1, r3, r6, r2, r5⟩ := b2 q hq
    rw [ho q 0 hq (by omega) (by omega), ho q 1 hq (by omega) (by omega), ho q 2 hq (by omega) (by omega), ho3 q hq, hh q hq]
    simp only [hcell 7 _ (by omega), hcell 8 _ (by omega), hcell 11 _ (by omega), hcell 12 _ (by omega), hcell 13 _ (by omega)]
    refine ⟨r0, r1, ?_, r6, r2, fun i hi => ?_⟩
    · rw [cup_app, if_pos rfl]
      grind
    · rw [ho q _ hq (by have := hm10 q hq; omega) (by omega)]
      exact r5 i hi
  · intro b m hb hmm
    rw [hx _ (by omega), hcell _ _ (by omega)]
    exact hk b m hb hmm
  · intro q hq
    rw [hcell _ _ (by omega), ho q 4 hq (by omega) (by omega)]
    exact he q hq
theorem ci_christen {vp vn : Int32} (hW : WF g t) (hA : RA g c) (h1 : okChr g vp vn → ∀ p n c', p < g 1 → n < g 0 → og g p 2 < 9 → ¬ hasN g p n → vp = nI p → vn = nI n → RA (chG g p n) c' → FR c c' → c' 53 0 = 0 → Q (nI 1) (NH c')) (h0 : ¬ okChr g vp vn → Q (nI 0) (NH c)) : am_C tT E (d + 3) mX11_christen [.inr 0, .inl vp, .inl vn] (NH c) Q := by
  have hW2 := hW
  have e1 : c 6 0 = g 1 := hA.2.1.1
  have e0 : c 1 4 = g 0 := hA.1.1.2.2.2.2.1
  have hm9 : ∀ p, p < 8 → og g p 2 ≤ 9 := fun p hp => (hW2.p hp).2.2.1
  obtain ⟨⟨w0, w1, w2, w3, w4, w5, w6, w7, w8⟩, -⟩ := hW
  refine am_C.of (by decide) (Nat.le_of_ble_eq_true rfl) ?_
  show am_R tT E _ mX11_christen _ 0 [some (.inr 0), some (.inl vp), some (.inl vn)] [] (NH c)
  refine am_goS gX11_christen [] 400 ?_
  simp only [am_eqs, am_eqk, am_eqv, lX11_christen_0, lX11_christen_1, fx_class, NH_at, NH_put, ↓reduceIte, List.mem_cons, List.not_mem_nil, or_false, or_self, false_or, true_and, and_true, Nat.reduceEqDiff, reduceCtorEq, List.length_cons, List.length_nil, Nat.reduceAdd, Nat.reduceLeDiff, Nat.reduceSub, Nat.reduceLT, Nat.zero_le, Nat.zero_add, forall_const, not_true_eq_false, not_false_eq_true, false_implies, true_implies, implies_true, Nat.zero_lt_succ, am_z0, am_z1]
  refine c_isPerson (by omega) (fun z1 => ?_) (fun z1 => ?_)
  · simp (disch := omega) only [hs_at, hs_put, hs_63, NH_at, NH_put, NH_cpy, ni_add, ni_mul, ni_clamp, ni_in, ni_eq, ni_lt, ni_le, ni_sub, Nat.reduceAdd, Nat.reduceMul, Nat.reduceSub, eq_self, true_implies, not_true_eq_false, false_implies, and_true, true_and, not_false_eq_true, Nat.reduceEqDiff, Nat.reduceLeDiff, Nat.reduceLT, implies_true, ite_true, ite_false]
    refine c_isName (by omega) (fun z2 => ?_) (fun z2 => ?_)
    · simp (disch := omega) only [hs_at, hs_put, hs_63, NH_at, NH_put, NH_cpy, ni_add, ni_mul, ni_clamp, ni_in, ni_eq, ni_lt, ni_le, ni_sub, Nat.reduceAdd, Nat.reduceMul, Nat.reduceSub, eq_self, true_implies, not_true_eq_false, false_implies, and_true, true_and, not_false_eq_true, Nat.reduceEqDiff, Nat.reduceLeDiff, Nat.reduceLT, implies_true, ite_true, ite_false]
      rw [e1] at z1
      rw [e0] at z2
      obtain ⟨p, hp, rfl⟩ := z1
      obtain ⟨n, hn, rfl⟩ := z2
      have hpe := hW2.p (show p < 8 by omega)
      have hm := hpe.2.2.1
      have hh := had_20 w0 hpe
      obtain ⟨r0, r1, r3, r6, r2, r5⟩ := hA.2.1.2 p (by omega)
      have hhas : (c 12 p < 9 ∧ c 11 p >>> n &&& 1 = 0) ↔ (og g p 2 < 9 ∧ ¬ hasN g p n) := by
        rw [r2, r6]
        have := had_bit g p n
        have h01 := bit01 (had g p) n
        constructor
        · rintro ⟨a, b⟩; exact ⟨a, fun q => by have := this.mpr q; omega⟩
        · rintro ⟨a, b⟩; exact ⟨a, by rcases h01 with z | z; exact z; exact absurd (this.mp z) b⟩
      refine c_canGain (by omega) (by omega) (by omega) (by omega) (fun z => ?_) (fun z => ?_)
      · have z2 := hhas.mp z
        simp (disch := omega) only [hs_at, hs_put, hs_63, NH_at, NH_put, NH_cpy, ni_add, ni_mul, ni_clamp, ni_in, ni_eq, ni_lt, ni_le, ni_sub, Nat.reduceAdd, Nat.reduceMul, Nat.reduceSub, eq_self, true_implies, not_true_eq_false, false_implies, and_true, true_and, not_false_eq_true, Nat.reduceEqDiff, Nat.reduceLeDiff, Nat.reduceLT, implies_true, ite_true, ite_false]
        refine c_tforget ?_
        have e12 : cup c 53 0 0 12 p = og g p 2 := by rw [cup_app, if_neg (by decide)]; exact r2
        refine c_append (by omega) (by omega) (by omega) ?_
        have hRA := ra_append (n := n) hm9 (show p < 8 by omega) z2.1 (ra_c53 hA)
        have q3 : iC (cup c 53 0 0) p (cup c 53 0 0 12 p) n 9 p = og g p 3 := by
          have := (hRA.2.1.2 p (by omega)).2.2.1
          rw [this, og_com hm (by omega) (by omega) (by omega), if_pos rfl, if_neg (by omega), if_neg (by omega)]
        simp (disch := omega) only [hs_at, hs_put, hs_63, NH_at, NH_put, NH_cpy, ni_add, ni_mul, ni_clamp, ni_in, ni_eq, ni_lt, ni_le, ni_sub, Nat.reduceAdd, Nat.reduceMul, Nat.reduceSub, eq_self, true_implies, not_true_eq_false, false_implies, and_true, true_and, not_false_eq_true, Nat.reduceEqDiff, Nat.reduceLeDiff, Nat.reduceLT, implies_true, ite_true, ite_false, ni_shl, ni_or, q3]
        refine ⟨by omega, by omega, ?_⟩
        refine h1 ⟨⟨⟨p, hp, rfl⟩, ⟨n, hn, rfl⟩⟩, by rw [ni_clamp (by omega), ni_clamp (by omega)]; exact z2⟩ p n _ hp hn z2.1 z2.2 rfl rfl (ra_chr hm9 (by omega) z2.1 hRA) (fun o ho1 ho2 => ?_) ?_
        · funext j
          unfold iC
          grind [cup_app, ccp_app]
        · unfold iC
          grind [cup_app, ccp_app]
      · simp (disch := omega) only [hs_at, hs_put, hs_63, NH_at, NH_put, NH_cpy, ni_add, ni_mul, ni_clamp, ni_in, ni_eq, ni_lt, ni_le, ni_sub, Nat.reduceAdd, Nat.reduceMul, Nat.reduceSub, eq_self, true_implies, not_true_eq_false, false_implies, and_true, true_and, not_false_eq_true, Nat.reduceEqDiff, Nat.reduceLeDiff, Nat.reduceLT, implies_true, ite_true, ite_false]
        exact h0 (fun q => z (hhas.mpr (by have := q.2; rw [ni_clamp (by omega), ni_clamp (by omega)] at this; exact this)))
    · simp (disch := omega) only [hs_at, hs_put, hs_63, NH_at, NH_put, NH_cpy, ni_add, ni_mul, ni_clamp, ni_in, ni_eq, ni_lt, ni_le, ni_sub, Nat.reduceAdd, Nat.reduceMul, Nat.reduceSub, eq_self, true_implies, not_true_eq_false, false_implies, and_true, true_and, not_false_eq_true, Nat.reduceEqDiff, Nat.reduceLeDiff, Nat.reduceLT, implies_true, ite_true, ite_false]
      rw [e0] at z2
      exact h0 (fun q => z2 q.1.2)
  · simp (disch := omega) only [hs_at, hs_put, hs_63, NH_at, NH_put, NH_cpy, ni_add, ni_mul, ni_clamp, ni_in, ni_eq, ni_lt, ni_le, ni_sub, Nat.reduceAdd, Nat.reduceMul, Nat.reduceSub, eq_self, true_implies, not_true_eq_false, false_implies, and_true, true_and, not_false_eq_true, Nat.reduceEqDiff, Nat.reduceLeDiff, Nat.reduceLT, implies_true, ite_true, ite_false]
    rw [e1] at z1
    exact h0 (fun q => z1 q.1.1)
theorem wf_com {p n : Nat} (hp : p < g 1) (hn : n < g 0) (hm : og g p 2 < 9) (hno : ¬ hasN g p n) (hW : WF g t) : WF (comG g p n) t := by
  have hm9 : ∀ q, q < 8 → og g q 2 ≤ 9 := fun q hq => (hW.p hq).2.2.1
  obtain ⟨a1, a2, a3, a4, a5, a6, a7, a8⟩ := hW
  have hp8 : p < 8 := by omega
  have hx : ∀ j, (j < 90 ∨ 218 ≤ j) → comG g p n j = g j := fun j hj => com_off (by omega) hp8 hj
  refine ⟨?_, ?_, ?_, ?_, ?_, ?_, ?_, ?_⟩
  · simp (disch := omega) only [hx]; omega
  · intro m hm; rw [hx _ (by omega), hx _ (by omega)]; exact a2 m hm
  · intro b hb; rw [hx _ (by omega), hx _ (by omega)]; exact a3 b hb
  · intro b hb; rw [hx 2 (by omega)] at hb; rw [hx _ (by omega), hx _ (by omega)]; exact a4 b hb
  · intro b hb; rw [hx 8 (by omega)] at hb; rw [hx _ (by omega), hx 2 (by omega)]; exact a5 b hb
  · intro q hq
    obtain ⟨b1, b2, b3, b4, b5, b6, b7⟩ := a6 q hq
    unfold pers
    rw [hx 0 (by omega)]
    by_cases hqp : q = p
    · subst hqp
      have hr : ∀ i, i < og g q 2 + 1 → og (comG g q n) q (5 + i) = if i = og g q 2 then n else og g q (5 + i) := by
        intro i hi
        rw [og_com (by omega) hq hq (by omega), if_pos rfl, if_neg (by omega)]
        by_cases hi2 : i = og g q 2
        · rw [if_pos (by omega), if_pos hi2]
        · rw [if_neg (by omega), if_neg hi2]
      have h0 : og (comG g q n) q 0 = og g q 0 := by rw [og_com (by omega) hq hq (by omega)]; simp; omega
      have h1 : og (comG g q n) q 1 = og g q 1 := by rw [og_com (by omega) hq hq (by omega)]; simp; omega
      have h2 : og (comG g q n) q 2 = og g q 2 + 1 := by rw [og_com (by omega) hq hq (by omega)]; simp
      have h3 : og (comG g q n) q 3 = og g q 3 := by rw [og_com (by omega) hq hq (by omega)]; simp; omega
      have h4 : og (comG g q n) q 4 = og g q 4 := by rw [og_com (by omega) hq hq (by omega)]; simp; omega
      rw [h0, h1, h2, h3, h4]
      refine ⟨b1, b2, by omega, b4, b5, fun i hi => ?_, fun i j hij hj => ?_⟩
      · rw [hr i hi]
        split
        · exact hn
        · exact b6 i (by omega)
      · rw [hr i (by omega), hr j hj, if_neg (show ¬ i = og g q 2 by omega)]
        split
        · intro e; exact hno ⟨i, by omega, e⟩
        · exact b7 i j hij (by omega)
    · have hf : ∀ f, f < 15 → og (comG g p n) q f = og g q f := fun f hf => by rw [og_com (by omega) hp8 hq hf, if_neg hqp]
      rw [hf 0 (by omega), hf 1 (by omega), hf 2 (by omega), hf 3 (by omega), hf 4 (by omega)]
      refine ⟨b1, b2, b3, b4, b5, fun i hi => ?_, fun i j hij hj => ?_⟩
      · rw [hf _ (by omega)]; exact b6 i hi
      · rw [hf _ (by omega), hf _ (by omega)]; exact b7 i j hij hj
  · intro b m hb hmm; rw [hx _ (by omega)]; exact a7 b m hb hmm
  · intro b m hb hb2 hmm; rw [hx 2 (by omega)] at hb; rw [hx _ (by omega)]; exact a8 b m hb hb2 hmm
/-- a world that differs in small things: fields 0, 1, 3, 4 of the people -/
theorem wf_people {g' : Nat → Nat} (hW : WF g t) (hx : ∀ j, (j < 90 ∨ 218 ≤ j) → g' j = g j) (hr : ∀ q f, q < 8 → (f = 2 ∨ 5 ≤ f) → f < 15 → og g' q f = og g q f) (hf : ∀ q, q < 8 → og g' q 0 < 8 ∧ og g' q 1 ≤ 9999 ∧ og g' q 3 < 2 ^ g 0 ∧ og g' q 4 < 2 ^ g 0) : WF g' t := by
  obtain ⟨a1, a2, a3, a4, a5, a6, a7, a8⟩ := hW
  refine ⟨?_, ?_, ?_, ?_, ?_, ?_, ?_, ?_⟩
  · simp (disch := omega) only [hx]; omega
  · intro m hm; rw [hx _ (by omega), hx _ (by omega)]; exact a2 m hm
  · intro b hb; rw [hx _ (by omega), hx _ (by omega)]; exact a3 b hb
  · intro b hb; rw [hx 2 (by omega)] at hb; rw [hx _ (by omega), hx _ (by omega)]; exact a4 b hb
  · intro b hb; rw [hx 8 (by omega)] at hb; rw [hx _ (by omega), hx 2 (by omega)]; exact a5 b hb
  · intro q hq
    obtain ⟨b1, b2, b3, b4, b5, b6, b7⟩ := a6 q hq
    obtain ⟨k0, k1, k3, k4⟩ := hf q hq
    unfold pers
    rw [hx 0 (by omega), hr q 2 hq (by omega) (by omega)]
    refine ⟨k0, k1, b3, k3, k4, fun i hi => ?_, fun i j hij hj => ?_⟩
    · rw [hr q _ hq (by omega) (by omega)]; exact b6 i hi
    · rw [hr q _ hq (by omega) (by omega), hr q _ hq (by omega) (by omega)]; exact b7 i j hij hj
  · intro b m hb hmm; rw [hx _ (by omega)]; exact a7 b m hb hmm
  · intro b m hb hb2 hmm; rw [hx 2 (by omega)] at hb; rw [hx _ (by omega)]; exact a8 b m hb hb2 hmm
theorem wf_chr {p n : Nat} (hp : p < g 1) (hn : n < g 0) (hm : og g p 2 < 9) (hno : ¬ hasN g p n) (hW : WF g t) : WF (chG g p n) t := by
  have hp8 : p < 8 := by have := hW.1.2.1; omega
  have hW1 := wf_com hp hn hm hno hW
  refine wf_people hW1 (fun j hj => by rw [ch_off (by omega) hp8 hj, com_off (by omega) hp8 hj]) (fun q f hq hf hf2 => ?_) (fun q hq => ?_)
  · rw [og_ch (by omega) hp8 hq hf2, og_com (by omega) hp8 hq hf2, if_neg (show ¬ f = 3 by omega)]
  · obtain ⟨b1, b2, b3, b4, b5, b6, b7⟩ := hW1.p hq
    have h0 : comG g p n 0 = g 0 := com_off (by omega) hp8 (by omega)
    have hf : ∀ f, f < 15 → f ≠ 3 → og (chG g p n) q f = og (comG g p n) q f := fun f hf hf3 => by rw [og_ch (by omega) hp8 hq hf, og_com (by omega) hp8 hq hf, if_neg hf3]
    rw [hf 0 (by omega) (by omega), hf 1 (by omega) (by omega), hf 4 (by omega) (by omega)]
    refine ⟨b1, b2, ?_, b5⟩
    rw [og_ch (by omega) hp8 hq (by omega), h0]
    have b40 := (hW.p hq).2.2.2.1
    by_cases hqp : q = p
    · rw [if_pos hqp, if_neg (by omega), if_neg (by omega), if_pos rfl, ← hqp]
      refine Nat.or_lt_two_pow b40 ?_
      rw [Nat.one_shiftLeft]
      exact Nat.pow_lt_pow_right (by omega) hn
    · rw [if_neg hqp]; exact b40
end OPS10
