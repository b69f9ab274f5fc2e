/-! ===== part 46: the class's passing and going back ===== -/
section PASS
variable {E : am_E} {d : Nat} {h : am_H} {Q : Int32 → am_H → Prop} {g : Nat → Nat} {c : Nat → Nat → Nat} {t : Nat}
theorem og_mv {p q f b : Nat} (hp : p < 8) (hq : q < 8) (hf : f < 16) : og (mvG g p b) q f = if q = p ∧ f = 0 then oth g b (og g p 0) else og g q f := by
  unfold mvG
  show nup g _ _ (90 + 16 * q + f) = _
  rw [nup_app]
  by_cases h1 : q = p ∧ f = 0
  · rw [if_pos (by omega), if_pos h1]
  · rw [if_neg (by omega), if_neg h1]; rfl
theorem mv_off {p b j : Nat} (hp : p < 8) (hj : j < 90 ∨ 218 ≤ j) : mvG g p b j = g j := nup_ne g _ (by omega)
theorem og_lv {p q f b o : Nat} (hp : p < 8) (hq : q < 8) (hf : f < 16) (hm : og g p 2 ≤ 9) : og (lvG g p b o) q f = if q = p then (if f = 0 then oth g b (og g p 0) else if f = 2 then og g p 2 - 1 else if f = 4 then og g p 4 ||| 1 <<< og g p (5 + o) else if 5 + o ≤ f ∧ f < 5 + (og g p 2 - 1) then og g p (f + 1) else og g p f) else og g q f := by
  show lvG g p b o (90 + 16 * q + f) = _
  unfold lvG
  by_cases h1 : q = p
  · subst h1
    rw [if_pos rfl]
    by_cases f0 : f = 0
    · rw [if_pos (by omega), if_pos f0]
    · rw [if_neg (by omega), if_neg f0]
      by_cases f2 : f = 2
      · rw [if_pos (by omega), if_pos f2]
      · rw [if_neg (by omega), if_neg f2]
        by_cases f4 : f = 4
        · rw [if_pos (by omega), if_pos f4]
        · rw [if_neg (by omega), if_neg f4, if_neg (by omega)]
          by_cases f5 : 5 + o ≤ f ∧ f < 5 + (og g q 2 - 1)
          · rw [if_pos (by omega), if_pos f5]; rfl
          · rw [if_neg (by omega), if_neg f5]; rfl
  · rw [if_neg h1, if_neg (by omega), if_neg (by omega), if_neg (by omega), if_neg (by omega), if_neg (by omega)]; rfl
theorem lv_off {p b o j : Nat} (hp : p < 8) (hm : og g p 2 ≤ 9) (hj : j < 90 ∨ 218 ≤ j) : lvG g p b o j = if j = 220 + 20 * b + og g p (5 + o) then g j + 1 else g j := by
  unfold lvG
  rw [if_neg (by omega), if_neg (by omega), if_neg (by omega)]
  by_cases h1 : j = 220 + 20 * b + og g p (5 + o)
  · rw [if_pos h1, if_pos h1]
  · rw [if_neg h1, if_neg h1, if_neg (by omega)]
theorem rw_congr {g1 g2 : Nat → Nat} {c1 c2 : Nat → Nat → Nat} (hw : RW g1 c1) (hg : ∀ j, (j < 90 ∨ 460 ≤ j ∧ j < 860) → g2 j = g1 j) (h1 : c2 1 = c1 1) (h2 : c2 2 = c1 2) (h3 : c2 3 = c1 3) (h4 : c2 4 = c1 4) (h5 : c2 5 = c1 5) (h14 : c2 14 = c1 14) (h15 : c2 15 = c1 15) : RW g2 c2 := by
  obtain ⟨a1, a2, a3, a4, a5, a6, a7⟩ := hw
  unfold RW
  rw [h1, h2, h3, h4, h5, h14, h15]
  simp (disch := omega) only [hg]
  refine ⟨a1, fun i hi => ?_, fun i hi => ?_, fun i hi => ?_, fun i hi => ?_, a6, fun i hi => ?_⟩
  · rw [hg _ (by omega)]; exact a2 i hi
  · rw [hg _ (by omega)]; exact a3 i hi
  · rw [hg _ (by omega)]; exact a4 i hi
  · rw [hg _ (by omega)]; exact a5 i hi
  · rw [hg _ (by omega)]; exact a7 i hi
theorem rp_cell {g1 : Nat → Nat} {c1 c2 : Nat → Nat → Nat} (h : RP g1 c1) (h6 : c2 6 = c1 6) (h7 : c2 7 = c1 7) (h8 : c2 8 = c1 8) (h9 : c2 9 = c1 9) (h11 : c2 11 = c1 11) (h12 : c2 12 = c1 12) (h13 : c2 13 = c1 13) : RP g1 c2 := by
  unfold RP at *
  rw [h6, h7, h8, h9, h11, h12, h13]
  exact h
theorem rp_same {g1 g2 : Nat → Nat} {c1 : Nat → Nat → Nat} (h : RP g1 c1) (h1 : g2 1 = g1 1) (hs : ∀ q, q < 8 → sameP g1 g2 q) : RP g2 c1 := by
  obtain ⟨e1, h⟩ := h
  refine ⟨by rw [h1]; exact e1, fun q hq => ?_⟩
  obtain ⟨s0, s1, s2, s3, s5⟩ := hs q hq
  obtain ⟨r0, r1, r3, r6, r2, r5⟩ := h q hq
  have hh : had g2 q = had g1 q := had_congr s2 s5
  rw [s0, s1, s2, s3, hh]
  refine ⟨r0, r1, r3, r6, r2, fun i hi => ?_⟩
  rw [s5 i hi]
  exact r5 i hi
/-- where one stands moved in both -/
theorem rp_move {g1 g2 : Nat → Nat} {p k : Nat} (h : RP g1 c) (hp : p < 8) (h1 : g2 1 = g1 1) (hs : ∀ q, q < 8 → q ≠ p → sameP g1 g2 q) (h0 : og g2 p 0 = k ∧ og g2 p 1 = og g1 p 1 ∧ og g2 p 2 = og g1 p 2 ∧ og g2 p 3 = og g1 p 3 ∧ ∀ i, i < og g1 p 2 → og g2 p (5 + i) = og g1 p (5 + i)) : RP g2 (cup c 7 p k) := by
  obtain ⟨e1, h⟩ := h
  refine ⟨by rw [h1, cup_ne _ _ _ (by omega)]; exact e1, fun q hq => ?_⟩
  obtain ⟨r0, r1, r3, r6, r2, r5⟩ := h q hq
  rw [cup_self, cup_ne _ _ _ (by omega), cup_ne _ _ _ (by omega), cup_ne _ _ _ (by omega), cup_ne _ _ _ (by omega), cup_ne _ _ _ (by omega)]
  by_cases hqp : q = p
  · subst hqp
    obtain ⟨s0, s1, s2, s3, s5⟩ := h0
    have hh : had g2 q = had g1 q := had_congr s2 s5
    rw [s0, s1, s2, s3, hh, nup_self]
    refine ⟨rfl, r1, r3, r6, r2, fun i hi => ?_⟩
    rw [s5 i hi]
    exact r5 i hi
  · obtain ⟨s0, s1, s2, s3, s5⟩ := hs q hq hqp
    have hh : had g2 q = had g1 q := had_congr s2 s5
    rw [s0, s1, s2, s3, hh, nup_ne _ _ hqp]
    refine ⟨r0, r1, r3, r6, r2, fun i hi => ?_⟩
    rw [s5 i hi]
    exact r5 i hi
theorem c_changeSides {p b : Nat} (hp : p < 8) (hb : b < 12) (h7 : c 7 p < 8) (s1 : c 15 (2 * b) < 8) (s2 : c 15 (2 * b + 1) < 8) (hq : Q 0 (NH (cup c 7 p (if c 15 (2 * b) = c 7 p then c 15 (2 * b + 1) else c 15 (2 * b))))) : am_C tT E (d + 1) mX7_changeSides [.inr 20, .inl (nI p), .inl (nI b)] (NH c) Q := by
  refine am_C.of (by decide) (Nat.le_of_ble_eq_true rfl) ?_
  show am_R tT E _ mX7_changeSides _ 0 [some (.inr 20), some (.inl (nI p)), some (.inl (nI b))] [] (NH c)
  refine am_goS gX7_changeSides [] 400 ?_
  simp only [am_eqs, am_eqk, am_eqv, lX7_changeSides_0, fx_class, NH_at, NH_put, ↓reduceIte, List.mem_cons, List.not_mem_nil, or_false, or_self, false_or, true_and, and_true, Nat.reduceEqDiff, reduceCtorEq, List.length_cons, List.length_nil, Nat.reduceAdd, Nat.reduceLeDiff, Nat.reduceSub, Nat.reduceLT, Nat.zero_le, Nat.zero_add, forall_const, not_true_eq_false, not_false_eq_true, false_implies, true_implies, implies_true, Nat.zero_lt_succ, am_z0, am_z1]
  simp (disch := omega) only [hs_at, hs_put, hs_63, NH_at, NH_put, NH_cpy, ni_add, ni_mul, ni_clamp, ni_in, ni_eq, ni_lt, ni_le, ni_sub, Nat.reduceAdd, Nat.reduceMul, Nat.reduceSub, eq_self, true_implies, not_true_eq_false, false_implies, and_true, true_and, not_false_eq_true, Nat.reduceEqDiff, Nat.reduceLeDiff, Nat.reduceLT, implies_true, ite_true, ite_false]
  refine ⟨by omega, c_across hb h7 s1 s2 ?_⟩
  simp (disch := omega) only [hs_at, hs_put, hs_63, NH_at, NH_put, NH_cpy, ni_add, ni_mul, ni_clamp, ni_in, ni_eq, ni_lt, ni_le, ni_sub, Nat.reduceAdd, Nat.reduceMul, Nat.reduceSub, eq_self, true_implies, not_true_eq_false, false_implies, and_true, true_and, not_false_eq_true, Nat.reduceEqDiff, Nat.reduceLeDiff, Nat.reduceLT, implies_true, ite_true, ite_false]
  exact ⟨by omega, hq⟩
/-- the cells of the people's places and rows, and of what is kept, may change -/
def FP (c c' : Nat → Nat → Nat) : Prop := ∀ o, o ≠ 7 → o ≠ 11 → o ≠ 12 → o ≠ 13 → o ≠ 16 → c' o = c o
theorem FP.trans {c c' c'' : Nat → Nat → Nat} (h1 : FP c c') (h2 : FP c' c'') : FP c c'' := fun o a b e f g => (h2 o a b e f g).trans (h1 o a b e f g)
theorem rp_mv {p b : Nat} (hp : p < 8) (hm9 : ∀ p, p < 8 → og g p 2 ≤ 9) (hR : RP g c) : RP (mvG g p b) (cup c 7 p (oth g b (og g p 0))) := by
  refine rp_move hR (by omega) (mv_off (by omega) (by omega)) (fun q hq hqp => ?_) ⟨?_, ?_, ?_, ?_, fun i hi => ?_⟩
  · have := hm9 q hq
    refine ⟨?_, ?_, ?_, ?_, fun i hi => ?_⟩ <;> rw [og_mv (by omega) hq (by omega), if_neg (by omega)]
  all_goals have := hm9 p (by omega)
  · rw [og_mv (by omega) (by omega) (by omega), if_pos ⟨rfl, rfl⟩]
  all_goals rw [og_mv (by omega) (by omega) (by omega), if_neg (by omega)]
theorem c_passF {p b : Nat} (hp : p < g 1) (hb : b < g 2) (hW : WF g t) (hA : RAt g c) (hq : ∀ c', RAt (mvG g p b) c' → FP c c' → Q (nI 100) (NH c')) : am_C tT E (d + 2) mX7_pass [.inr 20, .inl (nI p), .inl (nI b), .inl (nI 100)] (NH c) Q := by
  have hW2 := hW
  obtain ⟨⟨w0, w1, w2, -⟩, -, a3, -⟩ := hW
  have hpe := hW2.p (show p < 8 by omega)
  have hm9 : ∀ p, p < 8 → og g p 2 ≤ 9 := fun p hp => (hW2.p hp).2.2.1
  have q7 : c 7 p = og g p 0 := (hA.2.1.2 p (by omega)).1
  have q15 : c 15 (2 * b) = g (50 + 2 * b) := hA.1.2.2.2.2.2.2 _ (by omega)
  have q16 : c 15 (2 * b + 1) = g (51 + 2 * b) := by rw [hA.1.2.2.2.2.2.2 _ (by omega)]; congr 1; omega
  have hs := a3 b (by omega)
  refine am_C.of (by decide) (Nat.le_of_ble_eq_true rfl) ?_
  show am_R tT E _ mX7_pass _ 0 [some (.inr 20), some (.inl (nI p)), some (.inl (nI b)), some (.inl (nI 100)), none] [] (NH c)
  refine am_goS gX7_pass [] 400 ?_
  simp only [am_eqs, am_eqk, am_eqv, lX7_pass_0, lX7_pass_1, fx_class, NH_at, NH_put, ↓reduceIte, List.mem_cons, List.not_mem_nil, or_false, or_self, false_or, true_and, and_true, Nat.reduceEqDiff, reduceCtorEq, List.length_cons, List.length_nil, Nat.reduceAdd, Nat.reduceLeDiff, Nat.reduceSub, Nat.reduceLT, Nat.zero_le, Nat.zero_add, forall_const, not_true_eq_false, not_false_eq_true, false_implies, true_implies, implies_true, Nat.zero_lt_succ, am_z0, am_z1]
  refine c_changeSides (by omega) (by omega) (by rw [q7]; exact hpe.1) (by omega) (by omega) ?_
  rw [q15, q16, q7]
  refine hq _ ⟨rw_congr hA.1 (fun j hj => mv_off (by omega) (by omega)) (cup_ne _ _ _ (by omega)) (cup_ne _ _ _ (by omega)) (cup_ne _ _ _ (by omega)) (cup_ne _ _ _ (by omega)) (cup_ne _ _ _ (by omega)) (cup_ne _ _ _ (by omega)) (cup_ne _ _ _ (by omega)), ?_, ?_⟩ (fun o h7 _ _ _ _ => cup_ne _ _ _ h7)
  · exact rp_mv (by omega) hm9 hA.2.1
  · intro b' n' hb' hn'
    rw [cup_ne _ _ _ (by omega), mv_off (by omega) (by omega)]
    exact hA.2.2 b' n' hb' hn'
theorem c_passO {p b o : Nat} (hp : p < g 1) (hb : b < g 2) (ho : o < og g p 2) (hW : WF g t) (hA : RAt g c) (hq : ∀ c', RAt (lvG g p b o) c' → FP c c' → Q (nI (og g p (5 + o))) (NH c')) : am_C tT E (d + 2) mX7_pass [.inr 20, .inl (nI p), .inl (nI b), .inl (nI o)] (NH c) Q := by
  have hW2 := hW
  obtain ⟨⟨w0, w1, w2, -⟩, -, a3, -⟩ := hW
  have hpe := hW2.p (show p < 8 by omega)
  have hm9 : ∀ p, p < 8 → og g p 2 ≤ 9 := fun p hp => (hW2.p hp).2.2.1
  have hmp := hm9 p (by omega)
  obtain ⟨r0, r1, r3, r6, r2, r5⟩ := hA.2.1.2 p (by omega)
  have q15 : c 15 (2 * b) = g (50 + 2 * b) := hA.1.2.2.2.2.2.2 _ (by omega)
  have q16 : c 15 (2 * b + 1) = g (51 + 2 * b) := by rw [hA.1.2.2.2.2.2.2 _ (by omega)]; congr 1; omega
  have q13 := r5 o ho
  have hn := hpe.2.2.2.2.2.1 o ho
  have hdis := hpe.2.2.2.2.2.2
  have hrow := hpe.2.2.2.2.2.1
  have hk := hA.2.2 b (og g p (5 + o)) (by omega) (by omega)
  have hs := a3 b (by omega)
  generalize hnn : og g p (5 + o) = n at hq hn q13 hk
  refine am_C.of (by decide) (Nat.le_of_ble_eq_true rfl) ?_
  show am_R tT E _ mX7_pass _ 0 [some (.inr 20), some (.inl (nI p)), some (.inl (nI b)), some (.inl (nI o)), none] [] (NH c)
  refine am_goS gX7_pass [] 400 ?_
  simp only [am_eqs, am_eqk, am_eqv, lX7_pass_0, lX7_pass_1, fx_class, NH_at, NH_put, ↓reduceIte, List.mem_cons, List.not_mem_nil, or_false, or_self, false_or, true_and, and_true, Nat.reduceEqDiff, reduceCtorEq, List.length_cons, List.length_nil, Nat.reduceAdd, Nat.reduceLeDiff, Nat.reduceSub, Nat.reduceLT, Nat.zero_le, Nat.zero_add, forall_const, not_true_eq_false, not_false_eq_true, false_implies, true_implies, implies_true, Nat.zero_lt_succ, am_z0, am_z1]
  refine c_changeSides (by omega) (by omega) (by rw [r0]; exact hpe.1) (by omega) (by omega) ?_
  rw [q15, q16, r0]
  simp (disch := omega) only [hs_at, hs_put, hs_63, NH_at, NH_put, NH_cpy, ni_add, ni_mul, ni_clamp, ni_in, ni_eq, ni_lt, ni_le, ni_sub, Nat.reduceAdd, Nat.reduceMul, Nat.reduceSub, eq_self, true_implies, not_true_eq_false, false_implies, and_true, true_and, not_false_eq_true, Nat.reduceEqDiff, Nat.reduceLeDiff, Nat.reduceLT, implies_true, ite_true, ite_false]
  refine ⟨fun z => absurd z (by omega), fun _ => ?_⟩
  refine c_nameAt (by omega) (by omega) ?_
  simp (disch := omega) only [hs_at, hs_put, hs_63, NH_at, NH_put, NH_cpy, ni_add, ni_mul, ni_clamp, ni_in, ni_eq, ni_lt, ni_le, ni_sub, Nat.reduceAdd, Nat.reduceMul, Nat.reduceSub, eq_self, true_implies, not_true_eq_false, false_implies, and_true, true_and, not_false_eq_true, Nat.reduceEqDiff, Nat.reduceLeDiff, Nat.reduceLT, implies_true, ite_true, ite_false, nup_self, nup_ne, cup_self, cup_ne, q13]
  refine c_remove (by omega) ?_ ?_ ?_ ?_
  · simp (disch := omega) only [hs_at, hs_put, hs_63, NH_at, NH_put, NH_cpy, ni_add, ni_mul, ni_clamp, ni_in, ni_eq, ni_lt, ni_le, ni_sub, Nat.reduceAdd, Nat.reduceMul, Nat.reduceSub, eq_self, true_implies, not_true_eq_false, false_implies, and_true, true_and, not_false_eq_true, Nat.reduceEqDiff, Nat.reduceLeDiff, Nat.reduceLT, implies_true, ite_true, ite_false, nup_self, nup_ne, cup_self, cup_ne, r2]; omega
  · simp (disch := omega) only [hs_at, hs_put, hs_63, NH_at, NH_put, NH_cpy, ni_add, ni_mul, ni_clamp, ni_in, ni_eq, ni_lt, ni_le, ni_sub, Nat.reduceAdd, Nat.reduceMul, Nat.reduceSub, eq_self, true_implies, not_true_eq_false, false_implies, and_true, true_and, not_false_eq_true, Nat.reduceEqDiff, Nat.reduceLeDiff, Nat.reduceLT, implies_true, ite_true, ite_false, nup_self, nup_ne, cup_self, cup_ne, r2]; omega
  · simp (disch := omega) only [hs_at, hs_put, hs_63, NH_at, NH_put, NH_cpy, ni_add, ni_mul, ni_clamp, ni_in, ni_eq, ni_lt, ni_le, ni_sub, Nat.reduceAdd, Nat.reduceMul, Nat.reduceSub, eq_self, true_implies, not_true_eq_false, false_implies, and_true, true_and, not_false_eq_true, Nat.reduceEqDiff, Nat.reduceLeDiff, Nat.reduceLT, implies_true, ite_true, ite_false, nup_self, nup_ne, cup_self, cup_ne, q13]; omega
  · have hc16 : ∀ c1 o1 x j, rC (cup c1 7 p x) p o1 16 j = c1 16 j := by
      intro c1 o1 x j
      unfold rC
      grind [cup_app, ccp_app]
    refine c_changeKept (k := g (220 + 20 * b + n) + 1) (by omega) (by omega) ?_ ?_
    · rw [hc16, hk, ni_add]
    · have hcell : ∀ q, q ≠ 7 → q ≠ 11 → q ≠ 12 → q ≠ 13 → q ≠ 16 → cup (rC (cup c 7 p (oth g b (og g p 0))) p o) 16 (20 * b + n) (g (220 + 20 * b + n) + 1) q = c q := by
        intro q h7 h11 h12 h13 h16
        unfold rC
        rw [cup_ne _ _ _ h16, cup_ne _ _ _ h12]
        funext j
        rw [ccp_app, if_neg h13, cup_ne _ _ _ h11, cup_ne _ _ _ h7]
      have hoff : ∀ j, j < 90 ∨ 460 ≤ j ∧ j < 860 → lvG g p b o j = g j := fun j hj => by rw [lv_off (by omega) hmp (by omega), if_neg (by omega)]
      refine hq _ ⟨rw_congr hA.1 hoff (hcell 1 (by omega) (by omega) (by omega) (by omega) (by omega)) (hcell 2 (by omega) (by omega) (by omega) (by omega) (by omega)) (hcell 3 (by omega) (by omega) (by omega) (by omega) (by omega)) (hcell 4 (by omega) (by omega) (by omega) (by omega) (by omega)) (hcell 5 (by omega) (by omega) (by omega) (by omega) (by omega)) (hcell 14 (by omega) (by omega) (by omega) (by omega) (by omega)) (hcell 15 (by omega) (by omega) (by omega) (by omega) (by omega)), ?_, ?_⟩ (fun q h7 h11 h12 h13 h16 => hcell q h7 h11 h12 h13 h16)
      · have hmv : ∀ f, f < 16 → f ≠ 0 → og (mvG g p b) p f = og g p f := fun f hf hf0 => by rw [og_mv (by omega) (by omega) hf, if_neg (by omega)]
        have hmq : ∀ q f, q < 8 → q ≠ p → f < 16 → og (mvG g p b) q f = og g q f := fun q f hq hqp hf => by rw [og_mv (by omega) hq hf, if_neg (by omega)]
        refine rp_cell (rp_rem (g1 := mvG g p b) (g2 := lvG g p b o) (n := n) (o := o) (p := p) (by omega) (fun q hq => ?_) ?_ (rp_mv (by omega) hm9 hA.2.1) ?_ (fun q hq hqp => ?_) ?_ (by omega) (fun i hi => ?_) (fun i hi hio => ?_) ⟨?_, ?_, ?_, ?_⟩ (fun i hi => ?_) (fun i hi1 hi2 => ?_)) (cup_ne _ _ _ (by omega)) (cup_ne _ _ _ (by omega)) (cup_ne _ _ _ (by omega)) (cup_ne _ _ _ (by omega)) (cup_ne _ _ _ (by omega)) (cup_ne _ _ _ (by omega)) (cup_ne _ _ _ (by omega))
        · rw [og_mv (by omega) hq (by omega), if_neg (by omega)]; exact hm9 q hq
        · rw [hmv 2 (by omega) (by omega)]; exact ho
        · rw [hoff 1 (by omega), mv_off (by omega) (by omega)]
        · have := hm9 q hq
          refine ⟨?_, ?_, ?_, ?_, fun i hi => ?_⟩
          all_goals (try rw [hmq q 2 hq hqp (by omega)] at hi)
          all_goals rw [og_lv (by omega) hq (by omega) hmp, if_neg hqp, hmq q _ hq hqp (by omega)]
        · rw [hmv _ (by omega) (by omega)]; exact hnn
        · rw [hmv 2 (by omega) (by omega)] at hi
          rw [hmv _ (by omega) (by omega)]
          have := hrow i hi
          omega
        · rw [hmv 2 (by omega) (by omega)] at hi
          rw [hmv _ (by omega) (by omega), ← hnn]
          rcases Nat.lt_or_gt_of_ne hio with z | z
          · exact hdis i o z ho
          · exact fun q => hdis o i z hi q.symm
        · rw [og_lv (by omega) (by omega) (by omega) hmp, if_pos rfl, if_pos rfl, og_mv (by omega) (by omega) (by omega), if_pos ⟨rfl, rfl⟩]
        · rw [og_lv (by omega) (by omega) (by omega) hmp, if_pos rfl, if_neg (by omega), if_neg (by omega), if_neg (by omega), if_neg (by omega), hmv _ (by omega) (by omega)]
        · rw [og_lv (by omega) (by omega) (by omega) hmp, if_pos rfl, if_neg (by omega), if_pos rfl, hmv _ (by omega) (by omega)]
        · rw [og_lv (by omega) (by omega) (by omega) hmp, if_pos rfl, if_neg (by omega), if_neg (by omega), if_neg (by omega), if_neg (by omega), hmv _ (by omega) (by omega)]
        · rw [og_lv (by omega) (by omega) (by omega) hmp, if_pos rfl, if_neg (by omega), if_neg (by omega), if_neg (by omega), if_neg (by omega), hmv _ (by omega) (by omega)]
        · rw [hmv 2 (by omega) (by omega)] at hi2
          rw [og_lv (by omega) (by omega) (by omega) hmp, if_pos rfl, if_neg (by omega), if_neg (by omega), if_neg (by omega), if_pos (by omega), hmv _ (by omega) (by omega)]
          rfl
      · intro b' n' hb' hn'
        have := hA.2.2 b' n' hb' hn'
        rw [cup_self, nup_app, lv_off (by omega) hmp (by omega), hnn, hc16]
        by_cases he : b' = b ∧ n' = n
        · rw [if_pos (by omega), if_pos (by omega), he.1, he.2]
        · rw [if_neg (by omega), if_neg (by omega)]; exact this
theorem oth_oth {b x : Nat} (h : tou g b x) (hd : g (50 + 2 * b) ≠ g (51 + 2 * b)) : oth g b (oth g b x) = x := by
  unfold tou at h
  unfold oth
  grind
theorem oth_congr {g' : Nat → Nat} {b x : Nat} (h1 : g' (50 + 2 * b) = g (50 + 2 * b)) (h2 : g' (51 + 2 * b) = g (51 + 2 * b)) : oth g' b x = oth g b x := by
  unfold oth
  rw [h1, h2]
theorem c_backF {p b : Nat} {vn : Int32} (hp : p < g 1) (hb : b < g 2) (htou : tou g b (og g p 0)) (hW : WF g t) (hA : RAt (mvG g p b) c) (hq : ∀ c', RAt g c' → FP c c' → Q 0 (NH c')) : am_C tT E (d + 2) mX7_back [.inr 20, .inl (nI p), .inl (nI b), .inl (nI 100), .inl vn] (NH c) Q := by
  have hW2 := hW
  obtain ⟨⟨w0, w1, w2, -⟩, -, a3, a4, -⟩ := hW
  have hpe := hW2.p (show p < 8 by omega)
  have hm9 : ∀ p, p < 8 → og g p 2 ≤ 9 := fun p hp => (hW2.p hp).2.2.1
  have hs := a3 b (by omega)
  have hoth : oth g b (og g p 0) < 8 := by unfold oth; split <;> omega
  have q7 : c 7 p = oth g b (og g p 0) := by rw [(hA.2.1.2 p (by omega)).1, og_mv (by omega) (by omega) (by omega), if_pos ⟨rfl, rfl⟩]
  have q15 : c 15 (2 * b) = g (50 + 2 * b) := by rw [hA.1.2.2.2.2.2.2 _ (by omega), mv_off (by omega) (by omega)]
  have q16 : c 15 (2 * b + 1) = g (51 + 2 * b) := by rw [hA.1.2.2.2.2.2.2 _ (by omega), mv_off (by omega) (by omega)]; congr 1; omega
  have hoo := oth_oth htou (a4 b hb)
  refine am_C.of (by decide) (Nat.le_of_ble_eq_true rfl) ?_
  show am_R tT E _ mX7_back _ 0 [some (.inr 20), some (.inl (nI p)), some (.inl (nI b)), some (.inl (nI 100)), some (.inl vn)] [] (NH c)
  refine am_goS gX7_back [] 400 ?_
  simp only [am_eqs, am_eqk, am_eqv, lX7_back_0, fx_class, NH_at, NH_put, ↓reduceIte, List.mem_cons, List.not_mem_nil, or_false, or_self, false_or, true_and, and_true, Nat.reduceEqDiff, reduceCtorEq, List.length_cons, List.length_nil, Nat.reduceAdd, Nat.reduceLeDiff, Nat.reduceSub, Nat.reduceLT, Nat.zero_le, Nat.zero_add, forall_const, not_true_eq_false, not_false_eq_true, false_implies, true_implies, implies_true, Nat.zero_lt_succ, am_z0, am_z1]
  refine c_changeSides (by omega) (by omega) (by omega) (by omega) (by omega) ?_
  rw [q15, q16, q7]
  have e : (if g (50 + 2 * b) = oth g b (og g p 0) then g (51 + 2 * b) else g (50 + 2 * b)) = og g p 0 := hoo
  rw [e]
  refine hq _ ⟨rw_congr hA.1 (fun j hj => (mv_off (by omega) (by omega)).symm) (cup_ne _ _ _ (by omega)) (cup_ne _ _ _ (by omega)) (cup_ne _ _ _ (by omega)) (cup_ne _ _ _ (by omega)) (cup_ne _ _ _ (by omega)) (cup_ne _ _ _ (by omega)) (cup_ne _ _ _ (by omega)), ?_, ?_⟩ (fun o h7 _ _ _ _ => cup_ne _ _ _ h7)
  · have hmq : ∀ q f, q < 8 → q ≠ p → f < 16 → og (mvG g p b) q f = og g q f := fun q f hq hqp hf => by rw [og_mv (by omega) hq hf, if_neg (by omega)]
    have hmv : ∀ f, f < 16 → f ≠ 0 → og (mvG g p b) p f = og g p f := fun f hf hf0 => by rw [og_mv (by omega) (by omega) hf, if_neg (by omega)]
    refine rp_move hA.2.1 (by omega) (mv_off (by omega) (by omega)).symm (fun q hq hqp => ?_) ⟨rfl, ?_, ?_, ?_, fun i hi => ?_⟩
    · have := hm9 q hq
      refine ⟨?_, ?_, ?_, ?_, fun i hi => ?_⟩
      all_goals (try rw [hmq q 2 hq hqp (by omega)] at hi)
      all_goals rw [hmq q _ hq hqp (by omega)]
    all_goals have := hm9 p (by omega)
    all_goals (try rw [hmv 2 (by omega) (by omega)] at hi)
    all_goals rw [hmv _ (by omega) (by omega)]
  · intro b' n' hb' hn'
    have := hA.2.2 b' n' hb' hn'
    rw [mv_off (by omega) (by omega)] at this
    rw [cup_ne _ _ _ (by omega)]
    exact this
theorem c_backO {p b o n : Nat} (hp : p < g 1) (hb : b < g 2) (ho : o < og g p 2) (hnn : og g p (5 + o) = n) (htou : tou g b (og g p 0)) (hW : WF g t) (hA : RAt (lvG g p b o) c) (hq : ∀ c', RAt g c' → FP c c' → Q 0 (NH c')) : am_C tT E (d + 2) mX7_back [.inr 20, .inl (nI p), .inl (nI b), .inl (nI o), .inl (nI n)] (NH c) Q := by
  have hW2 := hW
  obtain ⟨⟨w0, w1, w2, -⟩, -, a3, a4, -, -, a7, -⟩ := hW
  have hpe := hW2.p (show p < 8 by omega)
  have hm9 : ∀ p, p < 8 → og g p 2 ≤ 9 := fun p hp => (hW2.p hp).2.2.1
  have hmp := hm9 p (by omega)
  have hn := hpe.2.2.2.2.2.1 o ho
  rw [hnn] at hn
  have hs := a3 b (by omega)
  have hoth : oth g b (og g p 0) < 8 := by unfold oth; split <;> omega
  have hoff : ∀ j, j < 90 ∨ 460 ≤ j ∧ j < 860 → lvG g p b o j = g j := fun j hj => by rw [lv_off (by omega) hmp (by omega), if_neg (by omega)]
  have hlp : ∀ f, f < 16 → og (lvG g p b o) p f = if f = 0 then oth g b (og g p 0) else if f = 2 then og g p 2 - 1 else if f = 4 then og g p 4 ||| 1 <<< og g p (5 + o) else if 5 + o ≤ f ∧ f < 5 + (og g p 2 - 1) then og g p (f + 1) else og g p f := fun f hf => by rw [og_lv (by omega) (by omega) hf hmp, if_pos rfl]
  have hlq : ∀ q f, q < 8 → q ≠ p → f < 16 → og (lvG g p b o) q f = og g q f := fun q f hq hqp hf => by rw [og_lv (by omega) hq hf hmp, if_neg hqp]
  have q7 : c 7 p = oth g b (og g p 0) := by rw [(hA.2.1.2 p (by omega)).1, hlp 0 (by omega), if_pos rfl]
  have q12 : c 12 p = og g p 2 - 1 := by rw [(hA.2.1.2 p (by omega)).2.2.2.2.1, hlp 2 (by omega), if_neg (by omega), if_pos rfl]
  have q15 : c 15 (2 * b) = g (50 + 2 * b) := by rw [hA.1.2.2.2.2.2.2 _ (by omega), hoff _ (by omega)]
  have q16 : c 15 (2 * b + 1) = g (51 + 2 * b) := by rw [hA.1.2.2.2.2.2.2 _ (by omega), hoff _ (by omega)]; congr 1; omega
  have qk : c 16 (20 * b + n) = g (220 + 20 * b + n) + 1 := by rw [hA.2.2 b n (by omega) (by omega), lv_off (by omega) hmp (by omega), hnn, if_pos rfl]
  have hoo := oth_oth htou (a4 b hb)
  have e : (if g (50 + 2 * b) = oth g b (og g p 0) then g (51 + 2 * b) else g (50 + 2 * b)) = og g p 0 := hoo
  refine am_C.of (by decide) (Nat.le_of_ble_eq_true rfl) ?_
  show am_R tT E _ mX7_back _ 0 [some (.inr 20), some (.inl (nI p)), some (.inl (nI b)), some (.inl (nI o)), some (.inl (nI n))] [] (NH c)
  refine am_goS gX7_back [] 400 ?_
  simp only [am_eqs, am_eqk, am_eqv, lX7_back_0, fx_class, NH_at, NH_put, ↓reduceIte, List.mem_cons, List.not_mem_nil, or_false, or_self, false_or, true_and, and_true, Nat.reduceEqDiff, reduceCtorEq, List.length_cons, List.length_nil, Nat.reduceAdd, Nat.reduceLeDiff, Nat.reduceSub, Nat.reduceLT, Nat.zero_le, Nat.zero_add, forall_const, not_true_eq_false, not_false_eq_true, false_implies, true_implies, implies_true, Nat.zero_lt_succ, am_z0, am_z1]
  refine c_changeSides (by omega) (by omega) (by omega) (by omega) (by omega) ?_
  rw [q15, q16, q7, e]
  simp (disch := omega) only [hs_at, hs_put, hs_63, NH_at, NH_put, NH_cpy, ni_add, ni_mul, ni_clamp, ni_in, ni_eq, ni_lt, ni_le, ni_sub, Nat.reduceAdd, Nat.reduceMul, Nat.reduceSub, eq_self, true_implies, not_true_eq_false, false_implies, and_true, true_and, not_false_eq_true, Nat.reduceEqDiff, Nat.reduceLeDiff, Nat.reduceLT, implies_true, ite_true, ite_false]
  refine ⟨fun z => absurd z (by omega), fun _ => ?_⟩
  refine c_changeKept (k := g (220 + 20 * b + n)) (by omega) (by omega) ?_ ?_
  · rw [cup_ne _ _ _ (by omega), qk]
    exact ni_addm1 (by omega)
  · have q12' : cup (cup c 7 p (og g p 0)) 16 (20 * b + n) (g (220 + 20 * b + n)) 12 p = og g p 2 - 1 := by
      rw [cup_ne _ _ _ (by omega), cup_ne _ _ _ (by omega)]; exact q12
    refine c_insert (by omega) (by omega) (by omega) (by omega) ?_
    have hcell : ∀ q, q ≠ 7 → q ≠ 11 → q ≠ 12 → q ≠ 13 → q ≠ 16 → iC (cup (cup c 7 p (og g p 0)) 16 (20 * b + n) (g (220 + 20 * b + n))) p o n q = c q := by
      intro q h7 h11 h12 h13 h16
      unfold iC
      rw [cup_ne _ _ _ h11, cup_ne _ _ _ h12, cup_ne _ _ _ h13]
      funext j
      rw [ccp_app, if_neg h13, cup_ne _ _ _ h16, cup_ne _ _ _ h7]
    have hc16 : ∀ c1 o1 j, iC c1 p o1 n 16 j = c1 16 j := by
      intro c1 o1 j
      unfold iC
      grind [cup_app, ccp_app]
    refine hq _ ⟨rw_congr hA.1 (fun j hj => (hoff j hj).symm) (hcell 1 (by omega) (by omega) (by omega) (by omega) (by omega)) (hcell 2 (by omega) (by omega) (by omega) (by omega) (by omega)) (hcell 3 (by omega) (by omega) (by omega) (by omega) (by omega)) (hcell 4 (by omega) (by omega) (by omega) (by omega) (by omega)) (hcell 5 (by omega) (by omega) (by omega) (by omega) (by omega)) (hcell 14 (by omega) (by omega) (by omega) (by omega) (by omega)) (hcell 15 (by omega) (by omega) (by omega) (by omega) (by omega)), ?_, ?_⟩ (fun q h7 h11 h12 h13 h16 => hcell q h7 h11 h12 h13 h16)
    · -- the state with the old place, the name still gone
      let g1 := nup (lvG g p b o) (90 + 16 * p + 0) (og g p 0)
      have h1p : ∀ f, f < 16 → f ≠ 0 → og g1 p f = og (lvG g p b o) p f := fun f hf hf0 => nup_ne _ _ (by omega)
      have h1p0 : og g1 p 0 = og g p 0 := nup_self _ _ _
      have h1q : ∀ q f, q < 8 → q ≠ p → f < 16 → og g1 q f = og g q f := fun q f hq hqp hf => by
        rw [← hlq q f hq hqp hf]; exact nup_ne _ _ (by omega)
      have h12 : og g1 p 2 = og g p 2 - 1 := by rw [h1p 2 (by omega) (by omega), hlp 2 (by omega), if_neg (by omega), if_pos rfl]
      have hl2 : og (lvG g p b o) p 2 = og g p 2 - 1 := by rw [hlp 2 (by omega), if_neg (by omega), if_pos rfl]
      have hg11 : g1 1 = g 1 := by
        show nup (lvG g p b o) (90 + 16 * p + 0) (og g p 0) 1 = g 1
        rw [nup_ne _ _ (by omega), hoff 1 (by omega)]
      have hR1 : RP g1 (cup (cup c 7 p (og g p 0)) 16 (20 * b + n) (g (220 + 20 * b + n))) := by
        refine rp_cell (rp_move (g2 := g1) hA.2.1 (by omega) ?_ (fun q hq hqp => ?_) ⟨h1p0, h1p 1 (by omega) (by omega), h1p 2 (by omega) (by omega), h1p 3 (by omega) (by omega), fun i hi => h1p _ (by omega) (by omega)⟩) (cup_ne _ _ _ (by omega)) (cup_ne _ _ _ (by omega)) (cup_ne _ _ _ (by omega)) (cup_ne _ _ _ (by omega)) (cup_ne _ _ _ (by omega)) (cup_ne _ _ _ (by omega)) (cup_ne _ _ _ (by omega))
        · rw [hg11, hoff 1 (by omega)]
        · have := hm9 q hq
          refine ⟨?_, ?_, ?_, ?_, fun i hi => ?_⟩
          all_goals (try rw [hlq q 2 hq hqp (by omega)] at hi)
          all_goals rw [h1q q _ hq hqp (by omega), hlq q _ hq hqp (by omega)]
      refine rp_ins (g1 := g1) (g2 := g) (by omega) (fun q hq => ?_) (by omega) (by omega) hR1 hg11.symm (fun q hq hqp => ?_) ⟨h1p0.symm, ?_, ?_, ?_⟩ (fun i hi => ?_) hnn (fun i hi1 hi2 => ?_)
      · by_cases hqp : q = p
        · subst hqp; omega
        · rw [h1q q 2 hq hqp (by omega)]; exact hm9 q hq
      · have := hm9 q hq
        refine ⟨?_, ?_, ?_, ?_, fun i hi => ?_⟩
        all_goals (try rw [h1q q 2 hq hqp (by omega)] at hi)
        all_goals rw [h1q q _ hq hqp (by omega)]
      · rw [h1p 1 (by omega) (by omega), hlp 1 (by omega), if_neg (by omega), if_neg (by omega), if_neg (by omega), if_neg (by omega)]
      · omega
      · rw [h1p 3 (by omega) (by omega), hlp 3 (by omega), if_neg (by omega), if_neg (by omega), if_neg (by omega), if_neg (by omega)]
      · rw [h1p _ (by omega) (by omega), hlp _ (by omega), if_neg (by omega), if_neg (by omega), if_neg (by omega), if_neg (by omega)]
      · rw [h12] at hi2
        rw [h1p _ (by omega) (by omega), hlp _ (by omega), if_neg (by omega), if_neg (by omega), if_neg (by omega), if_pos (by omega)]
        rfl
    · intro b' n' hb' hn'
      have := hA.2.2 b' n' hb' hn'
      rw [lv_off (by omega) hmp (by omega), hnn] at this
      rw [hc16, cup_self, nup_app, cup_ne _ _ _ (by omega)]
      by_cases he : b' = b ∧ n' = n
      · rw [if_pos (by omega), he.1, he.2]
      · rw [if_neg (by omega), this, if_neg (by omega)]
end PASS
