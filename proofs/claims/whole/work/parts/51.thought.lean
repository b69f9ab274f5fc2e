/-! ===== part 51: crossings keep what is well formed ===== -/
section TH
variable {E : am_E} {d : Nat} {h : am_H} {Q : Int32 → am_H → Prop} {g g0 : Nat → Nat} {c : Nat → Nat → Nat} {t : Nat}
theorem WF.mono {t' : Nat} (hW : WF g t) (h : t ≤ t') : WF g t' := by
  obtain ⟨a1, a2, a3, a4, a5, a6, a7, a8⟩ := hW
  exact ⟨a1, a2, a3, a4, a5, a6, fun b n hb hn => Nat.le_trans (a7 b n hb hn) h, a8⟩
theorem oth_lt {b x : Nat} (hW : WF g t) (hb : b < 12) : oth g b x < 8 := by
  have := hW.2.2.1 b hb
  unfold oth
  split <;> omega
theorem wf_mv {p b : Nat} (hp : p < 8) (hb : b < 12) (hW : WF g t) : WF (mvG g p b) t := wf_field hp (Or.inl ⟨rfl, oth_lt hW hb⟩) hW
theorem wf_lv {p b o : Nat} (hp : p < 8) (hb : b < g 2) (ho : o < og g p 2) (hW : WF g t) : WF (lvG g p b o) (t + 1) := by
  have hW2 := hW
  have hpe := hW2.p hp
  have hmp := hpe.2.2.1
  have hrow := hpe.2.2.2.2.2.1
  have hn := hrow o ho
  have w2 := hW.1.2.2.1
  have w0 := hW.1.1
  have w8 := hW.1.2.2.2.2.2.2.2.2
  have hot := oth_lt (x := og g p 0) hW2 (show b < 12 by omega)
  obtain ⟨a1, a2, a3, a4, a5, a6, a7, a8⟩ := hW
  have hx : ∀ j, j < 90 → lvG g p b o j = g j := fun j hj => by rw [lv_off hp hmp (by omega), if_neg (by omega)]
  refine ⟨?_, fun n hn => ?_, fun b' hb' => ?_, fun b' hb' => ?_, fun k hk => ?_, fun q hq => ?_, fun b' n' hb' hn' => ?_, fun b' n' hb1 hb' hn' => ?_⟩
  · simp (disch := omega) only [hx]; exact a1
  · rw [hx _ (by omega), hx _ (by omega)]; exact a2 n hn
  · rw [hx _ (by omega), hx _ (by omega)]; exact a3 b' hb'
  · rw [hx 2 (by omega)] at hb'
    rw [hx _ (by omega), hx _ (by omega)]; exact a4 b' hb'
  · rw [hx 8 (by omega)] at hk
    rw [hx _ (by omega), hx 2 (by omega)]; exact a5 k hk
  · have h0 := a6 q hq
    by_cases hqp : q = p
    · subst hqp
      have hv : ∀ f, f < 16 → og (lvG g q b o) q f = if f = 0 then oth g b (og g q 0) else if f = 2 then og g q 2 - 1 else if f = 4 then og g q 4 ||| 1 <<< og g q (5 + o) else if 5 + o ≤ f ∧ f < 5 + (og g q 2 - 1) then og g q (f + 1) else og g q f := fun f hf => by rw [og_lv hq hq hf hmp, if_pos rfl]
      have v2 : og (lvG g q b o) q 2 = og g q 2 - 1 := by rw [hv 2 (by omega), if_neg (by omega), if_pos rfl]
      have vr : ∀ i, i < og g q 2 - 1 → og (lvG g q b o) q (5 + i) = if o ≤ i then og g q (5 + (i + 1)) else og g q (5 + i) := by
        intro i hi
        rw [hv _ (by omega), if_neg (by omega), if_neg (by omega), if_neg (by omega)]
        by_cases h1 : o ≤ i
        · rw [if_pos (by omega), if_pos h1]; rfl
        · rw [if_neg (by omega), if_neg h1]
      obtain ⟨c0, c1, c2, c3, c4, c5, c6⟩ := h0
      unfold pers
      rw [v2, hx 0 (by omega)]
      refine ⟨?_, ?_, by omega, ?_, ?_, fun i hi => ?_, fun i j hij hj => ?_⟩
      · rw [hv 0 (by omega), if_pos rfl]; exact hot
      · rw [hv 1 (by omega), if_neg (by omega), if_neg (by omega), if_neg (by omega), if_neg (by omega)]; exact c1
      · rw [hv 3 (by omega), if_neg (by omega), if_neg (by omega), if_neg (by omega), if_neg (by omega)]; exact c3
      · rw [hv 4 (by omega), if_neg (by omega), if_neg (by omega), if_pos rfl]
        refine Nat.or_lt_two_pow c4 ?_
        rw [Nat.one_shiftLeft]
        exact Nat.pow_lt_pow_right (by omega) hn
      · rw [vr i hi]
        split
        · exact c5 _ (by omega)
        · exact c5 _ (by omega)
      · rw [vr i (by omega), vr j hj]
        split <;> split
        · exact c6 _ _ (by omega) (by omega)
        · omega
        · exact c6 _ _ (by omega) (by omega)
        · exact c6 _ _ (by omega) (by omega)
    · have ho : ∀ f, f < 16 → og (lvG g p b o) q f = og g q f := fun f hf => by rw [og_lv hp hq hf hmp, if_neg hqp]
      have h9 := h0.2.2.1
      unfold pers at *
      rw [hx 0 (by omega), ho 0 (by omega), ho 1 (by omega), ho 2 (by omega), ho 3 (by omega), ho 4 (by omega)]
      obtain ⟨c0, c1, c2, c3, c4, c5, c6⟩ := h0
      refine ⟨c0, c1, c2, c3, c4, fun i hi => ?_, fun i j hij hj => ?_⟩
      · rw [ho _ (by omega)]; exact c5 i hi
      · rw [ho _ (by omega), ho _ (by omega)]; exact c6 i j hij hj
  · have := a7 b' n' hb' hn'
    rw [lv_off hp hmp (by omega)]
    split <;> omega
  · rw [hx 2 (by omega)] at hb1
    rw [lv_off hp hmp (by omega), if_neg (by omega)]
    exact a8 b' n' hb1 hb' hn'
theorem wf_wr {p b n : Nat} (hW : WF g t) : WF (wrG g p b n) t := by
  have h4 := hW.1.2.2.2.2.1
  have hw8 := hW.1.2.2.2.2.2.2.2.2
  have hw2 := hW.1.2.2.1
  by_cases e : g 4 = 100
  · unfold wrG; rw [if_pos e]; exact hW
  have w4 : wrG g p b n 4 = g 4 + 1 := by unfold wrG; rw [if_neg e, nup_self]
  have hx : ∀ j, j ≠ 4 → j < 460 → wrG g p b n j = g j := fun j a b => wr_off h4 a (Or.inl b)
  obtain ⟨a1, a2, a3, a4, a5, a6, a7, a8⟩ := hW
  refine ⟨?_, fun n hn => ?_, fun b' hb' => ?_, fun b' hb' => ?_, fun k hk => ?_, fun q hq => ?_, fun b' n' hb' hn' => ?_, fun b' n' hb1 hb' hn' => ?_⟩
  · simp (disch := omega) only [hx, w4]
    obtain ⟨x0, x1, x2, x3, x4, x5⟩ := a1
    exact ⟨x0, x1, x2, x3, by omega, x5⟩
  · rw [hx _ (by omega) (by omega), hx _ (by omega) (by omega)]; exact a2 n hn
  · rw [hx _ (by omega) (by omega), hx _ (by omega) (by omega)]; exact a3 b' hb'
  · rw [hx 2 (by omega) (by omega)] at hb'
    rw [hx _ (by omega) (by omega), hx _ (by omega) (by omega)]; exact a4 b' hb'
  · rw [hx 8 (by omega) (by omega)] at hk
    rw [hx _ (by omega) (by omega), hx 2 (by omega) (by omega)]; exact a5 k hk
  · have h0 := a6 q hq
    have h9 := h0.2.2.1
    have ho : ∀ f, f < 16 → og (wrG g p b n) q f = og g q f := fun f hf => hx _ (by omega) (by omega)
    unfold pers at *
    rw [hx 0 (by omega) (by omega), ho 0 (by omega), ho 1 (by omega), ho 2 (by omega), ho 3 (by omega), ho 4 (by omega)]
    obtain ⟨c0, c1, c2, c3, c4, c5, c6⟩ := h0
    refine ⟨c0, c1, c2, c3, c4, fun i hi => ?_, fun i j hij hj => ?_⟩
    · rw [ho _ (by omega)]; exact c5 i hi
    · rw [ho _ (by omega), ho _ (by omega)]; exact c6 i j hij hj
  · rw [hx _ (by omega) (by omega)]; exact a7 b' n' hb' hn'
  · rw [hx 2 (by omega) (by omega)] at hb1
    rw [hx _ (by omega) (by omega)]; exact a8 b' n' hb1 hb' hn'
/-- the law stays where only what moves has changed -/
theorem ST_congr {g' : Nat → Nat} (hg : ∀ j, 860 ≤ j → g' j = g j) : ∀ (st : List (Nat × Nat)) (a : Nat), ST g st a → ST g' st a
  | [], _, _ => trivial
  | q :: st, a, h => by
    refine ⟨?_, fun z => ?_, ST_congr hg st (a + 1) h.2.2⟩
    · rw [hg _ (by omega)]; exact h.1
    · rw [hg _ (by omega)]; exact h.2.1 z
theorem LRl_congr {g' : Nat → Nat} (hg : ∀ j, 860 ≤ j → g' j = g j) : ∀ (lw : Lw) (i a : Nat), LRl g lw i a → LRl g' lw i a
  | [], i, a, h => by
    refine ⟨?_, h.2⟩
    rw [hg _ (by omega)]; exact h.1
  | l :: r, i, a, h => by
    obtain ⟨h1, h2, h3, h4, h5⟩ := h
    refine ⟨?_, ?_, ?_, ST_congr hg _ _ h4, LRl_congr hg r _ _ h5⟩
    · rw [hg _ (by omega)]; exact h1
    · rw [hg _ (by omega)]; exact h2
    · rw [hg _ (by omega)]; exact h3
/-- one is behind the bridge -/
noncomputable def stG (g : Nat → Nat) (lw : Lw) (p b : Nat) : Nat → Nat := if duG g lw p b = 100 then mvG g p b else lvG g p b (duG g lw p b)
theorem duG_o {lw : Lw} {p b : Nat} (h9 : og g p 2 ≤ 9) (h1 : duG g lw p b ≠ 100) (h2 : duG g lw p b ≠ 200) : duG g lw p b < og g p 2 := by
  rcases duG_cases g lw p b with e | e | e
  · exact absurd e h1
  · exact absurd e h2
  · exact e
theorem st_off {lw : Lw} {p b j : Nat} (hp : p < 8) (hb : b < 12) (hW : WF g t) (h2 : duG g lw p b ≠ 200) (hj : j < 90 ∨ 460 ≤ j) : stG g lw p b j = g j := by
  have h9 := (hW.p hp).2.2.1
  have w0 := hW.1.1
  unfold stG
  split
  · exact mv_off hp (by omega)
  · rename_i h1
    have ho := duG_o h9 h1 h2
    have hn := (hW.p hp).2.2.2.2.2.1 _ ho
    rw [lv_off hp h9 (by omega), if_neg (by omega)]
theorem wf_st {lw : Lw} {p b : Nat} (hp : p < 8) (hb : b < g 2) (hW : WF g t) (h2 : duG g lw p b ≠ 200) : WF (stG g lw p b) (t + 1) := by
  have w2 := hW.1.2.2.1
  unfold stG
  split
  · exact (wf_mv hp (by omega) hW).mono (by omega)
  · rename_i h1
    exact wf_lv hp hb (duG_o (hW.p hp).2.2.1 h1 h2) hW
theorem st_at {lw : Lw} {p b : Nat} (hp : p < 8) (hW : WF g t) : og (stG g lw p b) p 0 = oth g b (og g p 0) := by
  unfold stG
  split
  · rw [og_mv hp hp (by omega), if_pos ⟨rfl, rfl⟩]
  · rw [og_lv hp hp (by omega) (hW.p hp).2.2.1, if_pos rfl, if_pos rfl]
end TH
