/-! ===== part 50: undo of the class ===== -/
section CUNDO
variable {E : am_E} {d : Nat} {h : am_H} {Q : Int32 → am_H → Prop} {g g0 : Nat → Nat} {c : Nat → Nat → Nat} {t : Nat}
def eqM (a b : Nat → Nat) : Prop := ∀ j, (j = 4 ∨ 90 ≤ j ∧ j < 460) → a j = b j
/-- one crossing, from G0 to G1, as the trail tells it -/
def ST1 (G0 G1 : Nat → Nat) (e : Nat → Nat) : Prop := ∃ p b, p < G0 1 ∧ b < G0 2 ∧ e 0 = p ∧ e 1 = b ∧ tou G0 b (og G0 p 0) ∧ e 4 = og G0 p 4 ∧ ((e 2 = 100 ∧ e 5 = 0 ∧ eqM G1 (mvG G0 p b)) ∨ ∃ o, o < og G0 p 2 ∧ e 2 = o ∧ e 3 = og G0 p (5 + o) ∧ e 5 = (if G0 4 = 100 then 0 else 1) ∧ eqM G1 (wrG (lvG G0 p b o) p b (og G0 p (5 + o))))
theorem res_in {j : Nat} (h : 90 ≤ j ∧ j < 460) : resM g g0 j = g0 j := if_pos h
theorem res_out {j : Nat} (h : ¬ (90 ≤ j ∧ j < 460)) : resM g g0 j = g j := if_neg h
theorem res_og {q f : Nat} (hq : q < 8) (hf : f < 16) : og (resM g g0) q f = og g0 q f := res_in (by omega)
theorem mv_res {p b : Nat} (hp : p < 8) (hb : b < 12) (hs : ∀ j, j < 90 → j ≠ 4 → g0 j = g j) (he : eqM g (mvG g0 p b)) : mvG (resM g g0) p b = g := by
  have ho : oth (resM g g0) b (og (resM g g0) p 0) = oth g0 b (og g0 p 0) := by
    rw [res_og hp (by omega)]
    exact oth_congr (by rw [res_out (by omega), hs _ (by omega) (by omega)]) (by rw [res_out (by omega), hs _ (by omega) (by omega)])
  funext j
  unfold mvG
  rw [ho, nup_app]
  by_cases hj : 90 ≤ j ∧ j < 460
  · rw [he j (Or.inr hj)]
    unfold mvG
    rw [nup_app, res_in hj]
  · rw [if_neg (by omega), res_out hj]
theorem lv_res {p b o : Nat} (hp : p < 8) (hb : b < 12) (hm : og g0 p 2 ≤ 9) (ho9 : o < og g0 p 2) (hn : og g0 p (5 + o) < 20) (h4 : g0 4 ≤ 100) (hs : ∀ j, j < 90 → j ≠ 4 → g0 j = g j) (he : eqM g (wrG (lvG g0 p b o) p b (og g0 p (5 + o)))) : lvG (resM g g0) p b o = g := by
  have ho : oth (resM g g0) b (og (resM g g0) p 0) = oth g0 b (og g0 p 0) := by
    rw [res_og hp (by omega)]
    exact oth_congr (by rw [res_out (by omega), hs _ (by omega) (by omega)]) (by rw [res_out (by omega), hs _ (by omega) (by omega)])
  have hl4 : lvG g0 p b o 4 = g0 4 := by rw [lv_off hp hm (by omega), if_neg (by omega)]
  funext j
  by_cases hj : 90 ≤ j ∧ j < 460
  · rw [he j (Or.inr hj), wr_off (by omega) (by omega) (by omega)]
    unfold lvG
    rw [ho, res_og hp (by omega), res_og hp (by omega), res_og hp (by omega), res_in hj]
    by_cases h5 : 95 + 16 * p + o ≤ j ∧ j < 95 + 16 * p + (og g0 p 2 - 1)
    · rw [res_in (by omega)]
    · simp only [if_neg h5]
  · rw [lv_off hp (by rw [res_og hp (by omega)]; exact hm) (by omega), res_og hp (by omega), if_neg (by omega), res_out hj]
theorem wf_res (hW : WF g t) (hW0 : WF g0 t) (hs : ∀ j, j < 90 → j ≠ 4 → g0 j = g j) : WF (resM g g0) t := by
  obtain ⟨a1, a2, a3, a4, a5, a6, a7, a8⟩ := hW
  obtain ⟨-, -, -, -, -, b6, b7, b8⟩ := hW0
  have hx : ∀ j, j < 90 → resM g g0 j = g j := fun j hj => res_out (by omega)
  refine ⟨?_, fun n hn => ?_, fun b hb => ?_, fun b hb => ?_, fun k hk => ?_, fun p hp => ?_, fun b n hb hn => ?_, fun b n hb1 hb hn => ?_⟩
  · simp (disch := omega) only [hx]; exact a1
  · rw [hx _ (by omega), hx _ (by omega)]; exact a2 n hn
  · rw [hx _ (by omega), hx _ (by omega)]; exact a3 b hb
  · rw [hx 2 (by omega)] at hb
    have : g 2 ≤ 12 := a1.2.2.1
    rw [hx _ (by omega), hx _ (by omega)]; exact a4 b hb
  · rw [hx 8 (by omega)] at hk
    have : g 8 ≤ 12 := a1.2.2.2.2.2.2.2.2
    rw [hx _ (by omega), hx 2 (by omega)]; exact a5 k hk
  · have h0 := b6 p hp
    unfold pers at *
    rw [hx 0 (by omega), ← hs 0 (by omega) (by omega), res_og hp (by omega), res_og hp (by omega), res_og hp (by omega), res_og hp (by omega), res_og hp (by omega)]
    obtain ⟨c0, c1, c2, c3, c4, c5, c6⟩ := h0
    refine ⟨c0, c1, c2, c3, c4, fun i hi => ?_, fun i j hij hj => ?_⟩
    · rw [res_og hp (by omega)]; exact c5 i hi
    · rw [res_og hp (by omega), res_og hp (by omega)]; exact c6 i j hij hj
  · rw [res_in (by omega)]; exact b7 b n hb hn
  · rw [hx 2 (by omega), ← hs 2 (by omega) (by omega)] at hb1
    rw [res_in (by omega)]; exact b8 b n hb1 hb hn
theorem un_eq : unG g g0 = nup (resM g g0) 4 (g0 4) := by
  funext j
  unfold unG resM
  rw [nup_app]
theorem wf_un (hW : WF g t) (hW0 : WF g0 t) (hs : ∀ j, j < 90 → j ≠ 4 → g0 j = g j) : WF (unG g g0) t := by
  have h := wf_res hW hW0 hs
  have h4 := hW0.1.2.2.2.2.1
  rw [un_eq]
  generalize resM g g0 = g1 at h
  obtain ⟨a1, a2, a3, a4, a5, a6, a7, a8⟩ := h
  have hx : ∀ j, j ≠ 4 → nup g1 4 (g0 4) j = g1 j := fun j hj => nup_ne _ _ hj
  refine ⟨?_, fun n hn => ?_, fun b hb => ?_, fun b hb => ?_, fun k hk => ?_, fun p hp => ?_, fun b n hb hn => ?_, fun b n hb1 hb hn => ?_⟩
  · simp (disch := omega) only [hx, nup_self]
    obtain ⟨x0, x1, x2, x3, x4, x5⟩ := a1
    exact ⟨x0, x1, x2, x3, h4, x5⟩
  · rw [hx _ (by omega), hx _ (by omega)]; exact a2 n hn
  · rw [hx _ (by omega), hx _ (by omega)]; exact a3 b hb
  · rw [hx 2 (by omega)] at hb
    rw [hx _ (by omega), hx _ (by omega)]; exact a4 b hb
  · rw [hx 8 (by omega)] at hk
    rw [hx _ (by omega), hx 2 (by omega)]; exact a5 k hk
  · have h0 := a6 p hp
    have ho : ∀ f, og (nup g1 4 (g0 4)) p f = og g1 p f := fun f => hx _ (by omega)
    unfold pers at *
    rw [hx 0 (by omega)]
    simp only [ho]
    exact h0
  · rw [hx _ (by omega)]; exact a7 b n hb hn
  · rw [hx 2 (by omega)] at hb1
    rw [hx _ (by omega)]; exact a8 b n hb1 hb hn
theorem c_part {k f : Nat} (hk : c 53 0 = k) (hk8 : k < 8) (hf : f < 6) (hq : Q (nI (c 54 (6 * k + f))) (NH c)) : am_C tT E d mX8_part [.inr 53, .inl (nI f)] (NH c) Q := by
  refine am_C.of (by decide) (Nat.le_of_ble_eq_true rfl) ?_
  show am_R tT E _ mX8_part _ 0 [some (.inr 53), some (.inl (nI f))] [] (NH c)
  refine am_goS gX8_part [] 400 ?_
  simp only [am_eqs, am_eqk, am_eqv, lX8_part_0, fx_class, NH_at, NH_put, ↓reduceIte, List.mem_cons, List.not_mem_nil, or_false, or_self, false_or, true_and, and_true, Nat.reduceEqDiff, reduceCtorEq, List.length_cons, List.length_nil, Nat.reduceAdd, Nat.reduceLeDiff, Nat.reduceSub, Nat.reduceLT, Nat.zero_le, Nat.zero_add, forall_const, not_true_eq_false, not_false_eq_true, false_implies, true_implies, implies_true, Nat.zero_lt_succ, am_z0, am_z1]
  simp (disch := omega) only [hs_at, hs_put, hs_63, NH_at, NH_put, NH_cpy, ni_add, ni_mul, ni_clamp, ni_in, ni_eq, ni_lt, ni_le, ni_sub, Nat.reduceAdd, Nat.reduceMul, Nat.reduceSub, eq_self, true_implies, not_true_eq_false, false_implies, and_true, true_and, not_false_eq_true, Nat.reduceEqDiff, Nat.reduceLeDiff, Nat.reduceLT, implies_true, ite_true, ite_false, hk]
  rw [Nat.mul_comm k 6]
  exact ⟨by omega, hq⟩
/-- undo, from where the crossing is taken back -/
theorem c_undoTail {p k : Nat} {c1 : Nat → Nat → Nat} (hp : p < 8) (hk8 : k < 8) (h53 : c1 53 0 = k) (hm9 : ∀ q, q < 8 → og g0 q 2 ≤ 9) (h4 : g0 4 ≤ 100) (hg4 : c1 54 (6 * k + 5) = 0 ∧ g 4 = g0 4 ∨ c1 54 (6 * k + 5) = 1 ∧ g 4 = g0 4 + 1) (hlt : g0 4 < 4294967296) (hA : RAt (resM g g0) c1) (hl : c1 54 (6 * k + 4) = og g0 p 4) (hE : ∀ q, q < 8 → q ≠ p → c1 10 q = og g0 q 4)
    (hq : ∀ c', RA (unG g g0) c' → (∀ o, o ≠ 1 → o ≠ 10 → c' o = c1 o) → Q (nI 1) (NH c')) : am_R tT E (d + 3) mX11_undo Q 67 [some (.inr 0), some (.inl (nI p))] [] (NH c1) := by
  have ra1 : RA (resM g g0) (cup c1 10 p (og g0 p 4)) := by
    have r3' := rat_cell (c' := cup c1 10 p (og g0 p 4)) hA (fun o _ _ x => cup_ne _ _ _ x)
    refine ⟨r3'.1, r3'.2.1, r3'.2.2, fun q hq => ?_⟩
    rw [cup_self, nup_app, res_og hq (by omega)]
    by_cases e : q = p
    · rw [if_pos e, e]
    · rw [if_neg e]; exact hE q hq e
  have e17 : c1 1 7 = g 4 := by rw [hA.1.1.2.2.2.2.2.1, res_out (by omega)]
  refine am_goS gX11_undo [] 400 ?_
  simp only [am_eqs, am_eqk, am_eqv, lX11_undo_0, lX11_undo_1, lX11_undo_2, fx_class, NH_at, NH_put, ↓reduceIte, List.mem_cons, List.not_mem_nil, or_false, or_self, false_or, true_and, and_true, Nat.reduceEqDiff, reduceCtorEq, List.length_cons, List.length_nil, Nat.reduceAdd, Nat.reduceLeDiff, Nat.reduceSub, Nat.reduceLT, Nat.zero_le, Nat.zero_add, forall_const, not_true_eq_false, not_false_eq_true, false_implies, true_implies, implies_true, Nat.zero_lt_succ, am_z0, am_z1]
  refine c_part h53 hk8 (by omega) ?_
  rw [hl]
  simp (disch := omega) only [hs_at, hs_put, hs_63, NH_at, NH_put, NH_cpy, ni_add, ni_mul, ni_clamp, ni_in, ni_eq, ni_lt, ni_le, ni_sub, Nat.reduceAdd, Nat.reduceMul, Nat.reduceSub, eq_self, true_implies, not_true_eq_false, false_implies, and_true, true_and, not_false_eq_true, Nat.reduceEqDiff, Nat.reduceLeDiff, Nat.reduceLT, implies_true, ite_true, ite_false]
  refine ⟨by omega, ?_⟩
  refine c_part (k := k) (by rw [cup_ne _ _ _ (by omega)]; exact h53) hk8 (by omega) ?_
  have e54 : cup c1 10 p (og g0 p 4) 54 = c1 54 := cup_ne _ _ _ (by omega)
  have e1 : cup c1 10 p (og g0 p 4) 1 7 = g 4 := by rw [cup_ne _ _ _ (by omega)]; exact e17
  rw [e54]
  have hcl : ∀ o, o ≠ 1 → o ≠ 10 → cup c1 10 p (og g0 p 4) o = c1 o := fun o _ x => cup_ne _ _ _ x
  generalize cup c1 10 p (og g0 p 4) = c2 at ra1 e54 e1 hcl
  rcases hg4 with ⟨x1, x2⟩ | ⟨x1, x2⟩
  · rw [x1]
    simp (disch := omega) only [hs_at, hs_put, hs_63, NH_at, NH_put, NH_cpy, ni_add, ni_mul, ni_clamp, ni_in, ni_eq, ni_lt, ni_le, ni_sub, Nat.reduceAdd, Nat.reduceMul, Nat.reduceSub, eq_self, true_implies, not_true_eq_false, false_implies, and_true, true_and, not_false_eq_true, Nat.reduceEqDiff, Nat.reduceLeDiff, Nat.reduceLT, implies_true, ite_true, ite_false]
    refine hq c2 ?_ hcl
    have : unG g g0 = resM g g0 := by
      rw [un_eq]
      funext j
      rw [nup_app]
      by_cases e : j = 4
      · rw [if_pos e, res_out (by omega), e, x2]
      · rw [if_neg e]
    rw [this]
    exact ra1
  · rw [x1]
    simp (disch := omega) only [hs_at, hs_put, hs_63, NH_at, NH_put, NH_cpy, ni_add, ni_mul, ni_clamp, ni_in, ni_eq, ni_lt, ni_le, ni_sub, Nat.reduceAdd, Nat.reduceMul, Nat.reduceSub, eq_self, true_implies, not_true_eq_false, false_implies, and_true, true_and, not_false_eq_true, Nat.reduceEqDiff, Nat.reduceLeDiff, Nat.reduceLT, implies_true, ite_true, ite_false, e1]
    refine ⟨fun z => absurd z (by omega), fun _ => ?_⟩
    refine hq _ ?_ (fun o x y => by rw [cup_ne _ _ _ x]; exact hcl o x y)
    rw [un_eq]
    have e4 : g 4 - 1 = g0 4 := by omega
    rw [e4]
    refine ra_peo ra1 ?_ (fun q hq => by rw [res_og hq (by omega)]; exact hm9 q hq) (fun j hj => nup_ne _ _ (by omega)) (fun o x y => cup_ne _ _ _ (by omega)) (cup_ne _ _ _ (by omega))
    obtain ⟨⟨a0, a1, a2, a3, a4, a7, a9⟩, b2, b3, b4, b5, b14, b15⟩ := ra1.1
    have hx : ∀ j, j ≠ 4 → nup (resM g g0) 4 (g0 4) j = resM g g0 j := fun j hj => nup_ne _ _ hj
    have hcc : ∀ o, o ≠ 1 → cup c2 1 7 (g0 4) o = c2 o := fun o ho => cup_ne _ _ _ ho
    refine ⟨?_, fun i hi => ?_, fun i hi => ?_, fun j hj => ?_, fun j hj => ?_, ?_, fun j hj => ?_⟩
    · rw [cup_self]
      simp (disch := omega) only [nup_ne, nup_self]
      exact ⟨a0, a1, a2, a3, a4, trivial, a9⟩
    · rw [hx _ (by omega), hcc _ (by omega)]; exact b2 i hi
    · rw [hx _ (by omega), hcc _ (by omega)]; exact b3 i hi
    · rw [hx _ (by omega), hcc _ (by omega)]; exact b4 j hj
    · rw [hx _ (by omega), hcc _ (by omega)]; exact b5 j hj
    · rw [hx _ (by omega), hcc _ (by omega)]; exact b14
    · rw [hx _ (by omega), hcc _ (by omega)]; exact b15 j hj
theorem ci_undo {m : Nat} (hm : m ≤ 8) (h53 : c 53 0 = m) (hW : WF g t) (hA : RA g c) (hN : m = 0 → Q (nI 0) (NH c)) (hW0 : ∀ k, m = k + 1 → WF g0 t ∧ (∀ j, j < 90 → j ≠ 4 → g0 j = g j) ∧ ST1 g0 g (fun f => c 54 (6 * k + f)))
    (hq : ∀ k c', m = k + 1 → RA (unG g g0) c' → (∀ o, o = 0 ∨ 16 < o → o ≠ 53 → c' o = c o) → c' 53 0 = k → Q (nI 1) (NH c')) : am_C tT E (d + 3) mX11_undo [.inr 0] (NH c) Q := by
  refine am_C.of (by decide) (Nat.le_of_ble_eq_true rfl) ?_
  show am_R tT E _ mX11_undo _ 0 [some (.inr 0), none] [] (NH c)
  refine am_goS gX11_undo [67] 400 ?_
  simp only [am_eqs, am_eqk, am_eqv, lX11_undo_0, lX11_undo_1, lX11_undo_2, fx_class, NH_at, NH_put, ↓reduceIte, List.mem_cons, List.not_mem_nil, or_false, or_self, false_or, true_and, and_true, Nat.reduceEqDiff, reduceCtorEq, List.length_cons, List.length_nil, Nat.reduceAdd, Nat.reduceLeDiff, Nat.reduceSub, Nat.reduceLT, Nat.zero_le, Nat.zero_add, forall_const, not_true_eq_false, not_false_eq_true, false_implies, true_implies, implies_true, Nat.zero_lt_succ, am_z0, am_z1]
  simp (disch := omega) only [hs_at, hs_put, hs_63, NH_at, NH_put, NH_cpy, ni_add, ni_mul, ni_clamp, ni_in, ni_eq, ni_lt, ni_le, ni_sub, Nat.reduceAdd, Nat.reduceMul, Nat.reduceSub, eq_self, true_implies, not_true_eq_false, false_implies, and_true, true_and, not_false_eq_true, Nat.reduceEqDiff, Nat.reduceLeDiff, Nat.reduceLT, implies_true, ite_true, ite_false, h53]
  refine ⟨fun e => ?_, fun e => hN (by omega)⟩
  obtain ⟨k, rfl⟩ : ∃ k, m = k + 1 := ⟨m - 1, by omega⟩
  obtain ⟨hW0, hs, hst⟩ := hW0 k rfl
  have hf := fun c' => hq k c' rfl
  have hm9 : ∀ q, q < 8 → og g0 q 2 ≤ 9 := fun q hq => (hW0.p hq).2.2.1
  have hWr := wf_res hW hW0 hs
  have s1 : g0 1 = g 1 := hs 1 (by omega) (by omega)
  have s2 : g0 2 = g 2 := hs 2 (by omega) (by omega)
  have w1 := hW.1.2.1
  have w2 := hW.1.2.2.1
  have w0 := hW0.1.1
  have h40 := hW0.1.2.2.2.2.1
  simp (disch := omega) only [hs_at, hs_put, hs_63, NH_at, NH_put, NH_cpy, ni_add, ni_mul, ni_clamp, ni_in, ni_eq, ni_lt, ni_le, ni_sub, Nat.reduceAdd, Nat.reduceMul, Nat.reduceSub, eq_self, true_implies, not_true_eq_false, false_implies, and_true, true_and, not_false_eq_true, Nat.reduceEqDiff, Nat.reduceLeDiff, Nat.reduceLT, implies_true, ite_true, ite_false, Nat.add_sub_cancel]
  have c53 : cup c 53 0 k 53 0 = k := by rw [cup_self, nup_self]
  have c54 : cup c 53 0 k 54 = c 54 := cup_ne _ _ _ (by omega)
  have hcl : ∀ o, o ≠ 53 → cup c 53 0 k o = c o := fun o x => cup_ne _ _ _ x
  have hA0 : RA g (cup c 53 0 k) := ra_cell hA (fun o x y => hcl o (by omega))
  generalize cup c 53 0 k = c0 at c53 c54 hcl hA0
  have hA0t : RAt g c0 := ⟨hA0.1, hA0.2.1, hA0.2.2.1⟩
  obtain ⟨p, b, hp, hb, e0, e1, htou, e4, hst⟩ := hst
  simp only [Nat.add_zero] at e0 e1 e4 hst
  have htou' : tou (resM g g0) b (og (resM g g0) p 0) := by
    rw [res_og (by omega) (by omega)]
    unfold tou at *
    rw [res_out (by omega), res_out (by omega), ← hs _ (by omega) (by omega), ← hs _ (by omega) (by omega)]
    exact htou
  have r1 : resM g g0 1 = g0 1 := by rw [res_out (by omega), s1]
  have r2 : resM g g0 2 = g0 2 := by rw [res_out (by omega), s2]
  have hpe0 := hW0.p (show p < 8 by omega)
  refine c_part c53 (by omega) (by omega) ?_
  refine c_part c53 (by omega) (by omega) ?_
  refine c_part c53 (by omega) (by omega) ?_
  refine c_part c53 (by omega) (by omega) ?_
  rw [c54, show 6 * k + 0 = 6 * k from rfl, e0, e1]
  have hQ2 : ∀ c1, RAt (resM g g0) c1 → FP c0 c1 → (c 54 (6 * k + 5) = 0 ∧ g 4 = g0 4 ∨ c 54 (6 * k + 5) = 1 ∧ g 4 = g0 4 + 1) → (∀ q, q < 8 → q ≠ p → og g q 4 = og g0 q 4) → am_R tT E (d + 3) mX11_undo Q 67 [some (.inr 0), some (.inl (nI p))] [] (NH c1) := by
    intro c1 rr ff hh hoo
    have f54 : c1 54 = c 54 := by rw [ff 54 (by omega) (by omega) (by omega) (by omega) (by omega)]; exact c54
    have f53 : c1 53 0 = k := by rw [ff 53 (by omega) (by omega) (by omega) (by omega) (by omega)]; exact c53
    refine c_undoTail (g := g) (g0 := g0) (k := k) (by omega) (by omega) f53 hm9 h40 (by rw [f54]; exact hh) (by omega) rr (by rw [f54]; exact e4) (fun q hq hqp => ?_) (fun c' rr' hc' => ?_)
    · rw [ff 10 (by omega) (by omega) (by omega) (by omega) (by omega), hA0.2.2.2 q hq]
      exact hoo q hq hqp
    · refine hf c' rr' (fun o x y => ?_) ?_
      · rw [hc' o (by omega) (by omega), ff o (by omega) (by omega) (by omega) (by omega) (by omega)]
        exact hcl o y
      · rw [hc' 53 (by omega) (by omega)]; exact f53
  rcases hst with ⟨x2, x5, xe⟩ | ⟨o, ho, x2, x3, x5, xe⟩
  · rw [x2]
    have hmv := mv_res (by omega) (by omega) hs xe
    refine c_backF (g := resM g g0) (t := t) (by omega) (by omega) htou' hWr (by rw [hmv]; exact hA0t) (fun c1 rr ff => ?_)
    refine hQ2 c1 rr ff (Or.inl ⟨x5, ?_⟩) (fun q hq hqp => ?_)
    · rw [xe 4 (Or.inl rfl), mv_off (by omega) (by omega)]
    · show g (90 + 16 * q + 4) = _
      rw [xe _ (by omega)]
      show og (mvG g0 p b) q 4 = _
      rw [og_mv (by omega) hq (by omega), if_neg (by omega)]
  · rw [x2, x3]
    have hn := hpe0.2.2.2.2.2.1 o ho
    have hmp := hm9 p (by omega)
    have hlv := lv_res (by omega) (by omega) hmp ho (by omega) h40 hs xe
    have hl4 : lvG g0 p b o 4 = g0 4 := by rw [lv_off (by omega) hmp (by omega), if_neg (by omega)]
    refine c_backO (g := resM g g0) (t := t) (by omega) (by omega) (by rw [res_og (by omega) (by omega)]; exact ho) (res_og (by omega) (by omega)) htou' hWr (by rw [hlv]; exact hA0t) (fun c1 rr ff => ?_)
    refine hQ2 c1 rr ff ?_ (fun q hq hqp => ?_)
    · have x4 := xe 4 (Or.inl rfl)
      unfold wrG at x4
      rw [hl4] at x4
      by_cases e : g0 4 = 100
      · rw [if_pos e] at x4 x5
        exact Or.inl ⟨x5, by omega⟩
      · rw [if_neg e] at x4 x5
        rw [nup_self] at x4
        exact Or.inr ⟨x5, x4⟩
    · show g (90 + 16 * q + 4) = _
      rw [xe _ (by omega), wr_off (by omega) (by omega) (by omega)]
      show og (lvG g0 p b o) q 4 = _
      rw [og_lv (by omega) hq (by omega) hmp, if_neg hqp]
end CUNDO
