/-! ===== part b3: the tape, the law, the image on both sides ===== -/
section OPS3
variable {E : am_E} {g : Nat → Nat} {c : Nat → Nat → Nat} {k : Nat} {a1 a2 a3 a4 a5 a6 : Int32}
theorem NH_o {c1 c2 : Nat → Nat → Nat} {o : Nat} (e : c2 o = c1 o) : NH c2 o = NH c1 o := by
  show (fun i => nI (c2 o i)) = fun i => nI (c1 o i)
  rw [e]
theorem WF.cg {g g' : Nat → Nat} {k : Nat} (W : WF g k) (hg : ∀ j, j < 460 → g' j = g j) : WF g' k := by
  obtain ⟨⟨x0, x1, x2, x3, x4, x5, x6, x7, x8⟩, a2, a3, a4, a5, a6, a7, a8⟩ := W
  refine ⟨⟨?_, ?_, ?_, ?_, ?_, ?_, ?_, ?_, ?_⟩, fun n hn => ?_, fun b hb => ?_, fun b hb => ?_, fun j hj => ?_, fun p hp => ?_, fun b n hb hn => ?_, fun b n hb1 hb hn => ?_⟩
  · rw [hg 0 (by omega)]; exact x0
  · rw [hg 1 (by omega)]; exact x1
  · rw [hg 2 (by omega)]; exact x2
  · rw [hg 3 (by omega)]; exact x3
  · rw [hg 4 (by omega)]; exact x4
  · rw [hg 5 (by omega)]; exact x5
  · rw [hg 6 (by omega)]; exact x6
  · rw [hg 7 (by omega)]; exact x7
  · rw [hg 8 (by omega)]; exact x8
  · rw [hg _ (by omega), hg _ (by omega)]; exact a2 n hn
  · rw [hg _ (by omega), hg _ (by omega)]; exact a3 b hb
  · rw [hg 2 (by omega)] at hb
    rw [hg _ (by omega), hg _ (by omega)]; exact a4 b hb
  · rw [hg 8 (by omega)] at hj
    rw [hg _ (by omega), hg 2 (by omega)]; exact a5 j hj
  · have ho : ∀ f, f < 16 → og g' p f = og g p f := fun f hf => hg _ (by omega)
    obtain ⟨p0, p1, p2, p3, p4, p5, p6⟩ := a6 p hp
    refine ⟨by rw [ho 0 (by omega)]; exact p0, by rw [ho 1 (by omega)]; exact p1, by rw [ho 2 (by omega)]; exact p2, by rw [ho 3 (by omega), hg 0 (by omega)]; exact p3, by rw [ho 4 (by omega), hg 0 (by omega)]; exact p4, fun i hi => ?_, fun i j hij hj => ?_⟩
    · rw [ho 2 (by omega)] at hi
      rw [ho _ (by omega), hg 0 (by omega)]; exact p5 i hi
    · rw [ho 2 (by omega)] at hj
      rw [ho _ (by omega), ho _ (by omega)]; exact p6 i j hij hj
  · rw [hg _ (by omega)]; exact a7 b n hb hn
  · rw [hg 2 (by omega)] at hb1
    rw [hg _ (by omega)]; exact a8 b n hb1 hb hn
theorem b_feed (hJ : J k c g (NH c)) (h64 : ∀ i, NH c 64 i = nI (g i)) : BOTH E mX11_feed mX12_feed [.inl a1, .inl a2, .inl a3, .inl a4, .inl a5] k (NH c) := by
  obtain ⟨⟨W, A, h20⟩, b, ⟨n, hn, t13, t0, tj, t17, t20, t22⟩, e, f⟩ := id hJ
  have W2 := W.mono (Nat.le_succ k)
  refine ci_feed hn t0 (fun z => ?_) (fun hz c2 f1 f2 e0 e50 => ?_)
  · rw [hs_fr (g := g) h64 rfl]
    exact ri_feed hn t13 (fun _ => ⟨rfl, INV.same hJ⟩) (fun z' => absurd z (by omega))
  · rw [hs_fr (g := g) h64 (f1 64 (by omega) (by omega))]
    have hN : ∀ o, o ≠ 46 → o ≠ 50 → NH c2 o = NH c o := fun o x y => NH_o (f1 o x y)
    refine ri_feed hn (by rw [hN 63 (by omega) (by omega)]; exact t13) (fun z' => absurd z' (by omega)) (fun _ h' u1 u2 u3 u4 => ⟨rfl, ?_⟩)
    have e63 : hs h' g 63 = h' 63 := hs_63 _ _
    have v63 : ∀ j, j ≠ 13 → h' 63 j = NH c 63 j := fun j hj => by rw [u2 j hj, hN 63 (by omega) (by omega)]
    refine ⟨c2, g, fun o ho => by rw [hs_off _ _ (by omega), u1 o (by omega) (by omega)], rfl, ⟨W2, ra_cell A (fun o x y => f1 o (by omega) (by omega)), by rw [f1 20 (by omega) (by omega)]; exact h20⟩, lw_cg b (fun _ _ => rfl) (f1 17 (by omega) (by omega)) (f1 18 (by omega) (by omega)), ⟨n + 20, by omega, by rw [e63]; exact u3, e0, fun j hj => ?_, ?_, ?_, ?_⟩, im_cg e (Nat.le_succ _) (by rw [e63]; exact v63 5 (by omega)) (by rw [hs_off _ _ (by omega), u1 65 (by omega) (by omega)]; exact hN 65 (by omega) (by omega)) (by rw [f1 0 (by omega) (by omega)]) (fun o _ _ => f1 o (by omega) (by omega)), un_cg f (Nat.le_succ _) W2 (fun _ _ => rfl) (by rw [e63]; exact v63 4 (by omega)) (by rw [hs_off _ _ (by omega), u1 66 (by omega) (by omega)]; exact hN 66 (by omega) (by omega)) (by rw [f1 53 (by omega) (by omega)]) (f1 54 (by omega) (by omega))⟩
    · rw [hs_off _ _ (by omega), u4 j, e50 j]
      by_cases z : n ≤ j ∧ j < n + 20
      · rw [if_pos z, if_pos z]; exact ⟨rfl, byt_lt _ _⟩
      · rw [if_neg z, if_neg z, hN 70 (by omega) (by omega)]; exact tj j (by omega)
    · obtain ⟨v, v1, v2⟩ := t17
      exact ⟨v, v1, by rw [e63, v63 17 (by omega)]; exact v2⟩
    · rw [e63, v63 20 (by omega), f2 1 (by omega)]; exact t20
    · rw [e63, v63 22 (by omega), f2 2 (by omega)]; exact t22
theorem b_end (hJ : J k c g (NH c)) (h64 : ∀ i, NH c 64 i = nI (g i)) : BOTH E mX11_end mX12_end [.inl a1] k (NH c) := by
  obtain ⟨⟨W, A, h20⟩, b, ⟨n, hn, t13, t0, tj, t17, t20, t22⟩, e, f⟩ := id hJ
  have W2 := W.mono (Nat.le_succ k)
  refine ci_end hn t0 (fun q hq e1 => ?_) (fun z => ?_)
  · rw [hs_fr (g := g) h64 (cup_ne _ _ _ (by omega))]
    have hN : ∀ o, o ≠ 46 → NH (cup c 46 0 q) o = NH c o := fun o x => NH_o (cup_ne _ _ _ x)
    refine ri_end hn (by rw [hN 63 (by omega)]; exact t13) (fun q' hq' e1' => ⟨rfl, ?_⟩) (fun z => absurd ⟨q, by omega, e1⟩ z)
    rw [e1, ni_eq (by omega) (by omega)] at e1'
    subst e1'
    have e63 : ∀ j, j ≠ 13 → hs (am_upd (NH (cup c 46 0 q)) 63 13 (nI q)) g 63 j = NH c 63 j := fun j hj => by
      rw [hs_63, am_upd_self]
      simp only [upd, if_neg hj]
      rw [hN 63 (by omega)]
    have e13 : hs (am_upd (NH (cup c 46 0 q)) 63 13 (nI q)) g 63 13 = nI q := by rw [hs_63]; exact am_upd_at _ _ _ _
    have eo : ∀ o, o ≠ 63 → o ≠ 64 → hs (am_upd (NH (cup c 46 0 q)) 63 13 (nI q)) g o = NH (cup c 46 0 q) o := fun o x y => by rw [hs_off _ _ y, am_upd_ne _ _ _ x]
    refine ⟨cup c 46 0 q, g, fun o ho => eo o (by omega) (by omega), rfl, ⟨W2, ra_cell A (fun o x y => cup_ne _ _ _ (by omega)), by rw [cup_ne _ _ _ (by omega)]; exact h20⟩, lw_cg b (fun _ _ => rfl) (cup_ne _ _ _ (by omega)) (cup_ne _ _ _ (by omega)), ⟨q, by omega, e13, by rw [cup_self, nup_self], fun j hj => ?_, ?_, ?_, ?_⟩, im_cg e (Nat.le_succ _) (e63 5 (by omega)) (by rw [eo 65 (by omega) (by omega)]; exact hN 65 (by omega)) (by rw [cup_ne _ _ _ (by omega)]) (fun o _ _ => cup_ne _ _ _ (by omega)), un_cg f (Nat.le_succ _) W2 (fun _ _ => rfl) (e63 4 (by omega)) (by rw [eo 66 (by omega) (by omega)]; exact hN 66 (by omega)) (by rw [cup_ne _ _ _ (by omega)]) (cup_ne _ _ _ (by omega))⟩
    · rw [eo 70 (by omega) (by omega), hN 70 (by omega), cup_ne _ _ _ (by omega)]; exact tj j (by omega)
    · obtain ⟨v, v1, v2⟩ := t17
      exact ⟨v, v1, by rw [e63 17 (by omega)]; exact v2⟩
    · rw [e63 20 (by omega), cup_self, nup_ne _ _ (by omega)]; exact t20
    · rw [e63 22 (by omega), cup_self, nup_ne _ _ (by omega)]; exact t22
  · rw [hs_fr (g := g) h64 rfl]
    exact ri_end hn t13 (fun q' hq' e1' => absurd ⟨q', by omega, e1'⟩ z) (fun _ => ⟨rfl, INV.same hJ⟩)
theorem b_text (hJ : J k c g (NH c)) (h64 : ∀ i, NH c 64 i = nI (g i)) : BOTH E mX11_text mX12_text [] k (NH c) := by
  obtain ⟨⟨W, A, h20⟩, b, ⟨n, hn, t13, t0, tj, ⟨v, v1, v2⟩, t20, t22⟩, e, f⟩ := id hJ
  have W2 := W.mono (Nat.le_succ k)
  have hC : CTp (c 50) n c := ⟨t0, hn, fun _ _ => rfl, fun j hj => (tj j hj).2⟩
  refine ci_text hC (fun ls hl c2 p1 p2 p3 p4 p5 p6 p7 fr => ?_) (fun er j hl c2 p5 p6 p7 fr => ?_)
  · have hN : ∀ o, o ≠ 17 → o ≠ 18 → o ≠ 46 → o ≠ 47 → o ≠ 48 → o ≠ 51 → o ≠ 52 → NH c2 o = NH c o := fun o x1 x2 x3 x4 x5 x6 x7 => NH_o (fr o x1 x2 x3 x4 x5 x6 x7)
    have n63 := hN 63 (by omega) (by omega) (by omega) (by omega) (by omega) (by omega) (by omega)
    have n65 := hN 65 (by omega) (by omega) (by omega) (by omega) (by omega) (by omega) (by omega)
    have n66 := hN 66 (by omega) (by omega) (by omega) (by omega) (by omega) (by omega) (by omega)
    have n70 := hN 70 (by omega) (by omega) (by omega) (by omega) (by omega) (by omega) (by omega)
    rw [hs_fr (g := g) h64 (fr 64 (by omega) (by omega) (by omega) (by omega) (by omega) (by omega) (by omega))]
    refine ri_text (T := c 50) (n := n) ⟨by rw [n63]; exact t13, hn, by rw [n70]; exact fun j hj => (tj j hj).1, fun j hj => (tj j hj).2⟩ (by rw [n63]; exact v2) v1 (fun ls' hl' lw g' h' m1 m2 m3 m4 m5 tx m6 m7 => ?_) (fun er j hl' => ?_)
    · rw [hl] at hl'
      cases hl'
      have elen : ls.length = lw.length := by rw [← m1]; simp [mapL]
      refine ⟨by rw [elen], ?_⟩
      obtain ⟨x1, x2, x3, x4⟩ := tx
      have e63 : hs h' g' 63 = h' 63 := hs_63 _ _
      have W3 : WF g' (k + 1) := WF.cg W2 (fun j hj => m5 j (by omega))
      have hrc : ∀ o, 1 ≤ o → o ≤ 16 → c2 o = c o := fun o a b => fr o (by omega) (by omega) (by omega) (by omega) (by omega) (by omega) (by omega)
      refine ⟨c2, g', fun o ho => by rw [hs_off _ _ (by omega), x1 o (by omega) (by omega) (by omega)], rfl, ⟨W3, ra_cg (ra_cell A hrc) (fun q hq => (W.p hq).2.2.1) (fun j hj => m5 j (by omega)), by rw [fr 20 (by omega) (by omega) (by omega) (by omega) (by omega) (by omega) (by omega)]; exact h20⟩, ⟨lw, m4, ⟨by rw [p1, elen], by rw [p2, ← m1, twL_map], by rw [← twL_map, m1]; exact p3, by rw [← twL_map, m1]; exact p4⟩, m2⟩, ⟨0, by omega, by rw [e63]; exact x3, p5, fun j hj => absurd hj (by omega), by rw [e63]; exact x4, by rw [e63, m6, p6], by rw [e63, m7, p7]; exact ni_m1⟩, im_cg e (Nat.le_succ _) (by rw [e63, x2 5 (by omega), n63]) (by rw [hs_off _ _ (by omega), x1 65 (by omega) (by omega) (by omega), n65]) (by rw [fr 0 (by omega) (by omega) (by omega) (by omega) (by omega) (by omega) (by omega)]) (fun o _ _ => fr o (by omega) (by omega) (by omega) (by omega) (by omega) (by omega) (by omega)), un_cg f (Nat.le_succ _) W3 (fun j hj => m5 j (by omega)) (by rw [e63, x2 4 (by omega), n63]) (by rw [hs_off _ _ (by omega), x1 66 (by omega) (by omega) (by omega), n66]) (by rw [fr 53 (by omega) (by omega) (by omega) (by omega) (by omega) (by omega) (by omega)]) (fr 54 (by omega) (by omega) (by omega) (by omega) (by omega) (by omega) (by omega))⟩
    · rw [hl] at hl'
      cases hl'
  · have hN : ∀ o, o ≠ 46 → o ≠ 47 → o ≠ 48 → o ≠ 51 → o ≠ 52 → NH c2 o = NH c o := fun o x3 x4 x5 x6 x7 => NH_o (fr o x3 x4 x5 x6 x7)
    have n63 := hN 63 (by omega) (by omega) (by omega) (by omega) (by omega)
    have n65 := hN 65 (by omega) (by omega) (by omega) (by omega) (by omega)
    have n66 := hN 66 (by omega) (by omega) (by omega) (by omega) (by omega)
    have n70 := hN 70 (by omega) (by omega) (by omega) (by omega) (by omega)
    rw [hs_fr (g := g) h64 (fr 64 (by omega) (by omega) (by omega) (by omega) (by omega))]
    refine ri_text (T := c 50) (n := n) ⟨by rw [n63]; exact t13, hn, by rw [n70]; exact fun j hj => (tj j hj).1, fun j hj => (tj j hj).2⟩ (by rw [n63]; exact v2) v1 (fun ls' hl' => ?_) (fun er' j' hl' h' tx m6 m7 => ⟨rfl, ?_⟩)
    · rw [hl] at hl'
      cases hl'
    · rw [hl] at hl'
      cases hl'
      obtain ⟨x1, x2, x3, x4⟩ := tx
      have e63 : hs h' g 63 = h' 63 := hs_63 _ _
      refine ⟨c2, g, fun o ho => by rw [hs_off _ _ (by omega), x1 o (by omega) (by omega) (by omega)], rfl, ⟨W2, ra_cell A (fun o a b => fr o (by omega) (by omega) (by omega) (by omega) (by omega)), by rw [fr 20 (by omega) (by omega) (by omega) (by omega) (by omega)]; exact h20⟩, lw_cg b (fun _ _ => rfl) (fr 17 (by omega) (by omega) (by omega) (by omega) (by omega)) (fr 18 (by omega) (by omega) (by omega) (by omega) (by omega)), ⟨0, by omega, by rw [e63]; exact x3, p5, fun j hj => absurd hj (by omega), by rw [e63]; exact x4, by rw [e63, m6, p6], by rw [e63, m7, p7]⟩, im_cg e (Nat.le_succ _) (by rw [e63, x2 5 (by omega), n63]) (by rw [hs_off _ _ (by omega), x1 65 (by omega) (by omega) (by omega), n65]) (by rw [fr 0 (by omega) (by omega) (by omega) (by omega) (by omega)]) (fun o _ _ => fr o (by omega) (by omega) (by omega) (by omega) (by omega)), un_cg f (Nat.le_succ _) W2 (fun _ _ => rfl) (by rw [e63, x2 4 (by omega), n63]) (by rw [hs_off _ _ (by omega), x1 66 (by omega) (by omega) (by omega), n66]) (by rw [fr 53 (by omega) (by omega) (by omega) (by omega) (by omega)]) (fr 54 (by omega) (by omega) (by omega) (by omega) (by omega))⟩
end OPS3
