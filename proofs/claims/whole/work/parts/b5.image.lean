/-! ===== part b5: the image on both sides ===== -/
section OPS6
variable {E : am_E} {g g' : Nat → Nat} {c c2 : Nat → Nat → Nat} {k : Nat}
theorem ST_17 {g g' : Nat → Nat} (hg : ∀ j, j < 1750 → g' j = g j) : ∀ (st : List (Nat × Nat)) (a : Nat), a + st.length ≤ 410 → ST g st a → ST g' st a
  | [], _, _, _ => trivial
  | q :: r, a, hl, h => by
    simp only [List.length_cons] at hl
    refine ⟨by rw [hg _ (by omega)]; exact h.1, fun z => by rw [hg _ (by omega)]; exact h.2.1 z, ST_17 hg r (a + 1) (by omega) h.2.2⟩
theorem LR_17 {g g' : Nat → Nat} (hg : ∀ j, j < 1750 → g' j = g j) : ∀ (lw : Lw) (i a : Nat), LRl g lw i a → LRl g' lw i a
  | [], i, a, h => ⟨by rw [hg 865 (by omega)]; exact h.1, h.2⟩
  | l :: r, i, a, h => by
    obtain ⟨h1, h2, h3, h4, h5⟩ := h
    have hb := LRl_b r (i + 1) (a + l.2.length) h5
    exact ⟨by rw [hg _ (by omega)]; exact h1, by rw [hg _ (by omega)]; exact h2, by rw [hg _ (by omega)]; exact h3, ST_17 hg l.2 a (by omega) h4, LR_17 hg r (i + 1) _ h5⟩
theorem b_image {v : Nat} (hv : v ≤ 1) (hJ : J k c g (NH c)) (h64 : ∀ i, NH c 64 i = nI (g i)) : BOTH E mX11_image mX12_image [.inl (nI v)] k (NH c) := by
  obtain ⟨⟨W, A, h20⟩, ⟨lw, L1, L2, L3⟩, d, ⟨hi, i1, i2, i3, i4⟩, f⟩ := id hJ
  have W2 := W.mono (Nat.le_succ k)
  have hm9 : ∀ q, q < 8 → og g q 2 ≤ 9 := fun q hq => (W.p hq).2.2.1
  obtain ⟨gk, hgk⟩ : ∃ gk : Nat → Nat, hi = 1 → ∃ lw, (∀ j, j < 1750 → NH c 65 j = nI (gk j)) ∧ WF gk k ∧ RA gk (shW c) ∧ LRl gk lw 0 0 ∧ LC (shW c) lw ∧ LOK lw := by
    by_cases z : hi = 1
    · obtain ⟨gk, lw, x⟩ := i4 z
      exact ⟨gk, fun _ => ⟨lw, x⟩⟩
    · exact ⟨g, fun y => absurd y z⟩
  refine ci_image hv (by omega) (fun e1 c2 fr f0 f02 eq => ?_) (fun e1 e2 => ?_) (fun e1 e2 c2 fr f53 eq => ?_)
  · have hN : ∀ o, 44 < o → NH c2 o = NH c o := fun o ho => NH_o (fr o (by omega) (by omega))
    rw [hs_fr (g := g) h64 (fr 64 (by omega) (by omega))]
    refine ri_image (gk := gk) hv hi i1 (by rw [hN 63 (by omega)]; exact i2) (fun z j hj => by rw [hN 65 (by omega)]; exact (hgk z).choose_spec.1 j hj) (fun _ h' u1 u2 u3 u4 => ⟨rfl, ?_⟩) (fun z => absurd z (by omega)) (fun z => absurd z (by omega))
    have e63 : hs h' g 63 = h' 63 := hs_63 _ _
    have v63 : ∀ j, j ≠ 5 → h' 63 j = NH c 63 j := fun j hj => by rw [u2 j hj, hN 63 (by omega)]
    refine ⟨c2, g, fun o ho => by rw [hs_off _ _ (by omega), u1 o (by omega) (by omega)], rfl, ⟨W2, ra_cell A (fun o x y => fr o (by omega) (by omega)), by rw [fr 20 (by omega) (by omega)]; exact h20⟩, lw_cg ⟨lw, L1, L2, L3⟩ (fun _ _ => rfl) (fr 17 (by omega) (by omega)) (fr 18 (by omega) (by omega)), tp_cg d (fun j hj => by rw [e63]; exact v63 j (by omega)) (by rw [hs_off _ _ (by omega), u1 70 (by omega) (by omega)]; exact hN 70 (by omega)) (fun _ _ => by rw [fr 46 (by omega) (by omega)]) (fr 50 (by omega) (by omega)), ⟨1, by omega, by rw [e63]; exact u3, f02, fun _ => ⟨g, lw, fun j hj => by rw [hs_off _ _ (by omega)]; exact u4 j hj, W2, ra_eqw eq hm9 A, L1, lc_eqw eq L2, L3⟩⟩, un_cg f (Nat.le_succ _) W2 (fun _ _ => rfl) (by rw [e63]; exact v63 4 (by omega)) (by rw [hs_off _ _ (by omega), u1 66 (by omega) (by omega)]; exact hN 66 (by omega)) (by rw [fr 53 (by omega) (by omega)]) (fr 54 (by omega) (by omega))⟩
  · rw [hs_fr (g := g) h64 rfl]
    exact ri_image (gk := gk) hv hi i1 i2 (fun z => (hgk z).choose_spec.1) (fun z => absurd z (by omega)) (fun _ _ => ⟨rfl, INV.same hJ⟩) (fun _ z => absurd z (by omega))
  · have hN : ∀ o, 53 < o → NH c2 o = NH c o := fun o ho => NH_o (fr o (by omega) (by omega))
    obtain ⟨lwk, b1, b2, b3, b4, b5, b6⟩ := hgk (by omega)
    rw [hs_fr (g := g) h64 (fr 64 (by omega) (by omega))]
    refine ri_image (gk := gk) hv hi i1 (by rw [hN 63 (by omega)]; exact i2) (fun z j hj => by rw [hN 65 (by omega)]; exact b1 j hj) (fun z => absurd z (by omega)) (fun _ z => absurd z (by omega)) (fun _ _ h' u1 u2 u3 u4 => ⟨rfl, ?_⟩)
    generalize hg3 : (fun j => if j < 1750 then gk j else g j) = g3
    have hg : ∀ j, j < 1750 → g3 j = gk j := fun j hj => by rw [← hg3]; exact if_pos hj
    have e63 : hs h' g3 63 = h' 63 := hs_63 _ _
    have v63 : ∀ j, j ≠ 5 → j ≠ 4 → h' 63 j = NH c 63 j := fun j x y => by rw [u2 j x y, hN 63 (by omega)]
    have hm9k : ∀ q, q < 8 → og gk q 2 ≤ 9 := fun q hq => (b2.p hq).2.2.1
    have W3 : WF g3 (k + 1) := (b2.cg (fun j hj => hg j (by omega))).mono (Nat.le_succ _)
    refine ⟨c2, g3, fun o ho => by rw [hs_off _ _ (by omega), u1 o (by omega)], rfl, ⟨W3, ra_cg (ra_eqw eq hm9k b3) hm9k (fun j hj => hg j (by omega)), by rw [fr 20 (by omega) (by omega)]; exact h20⟩, ⟨lwk, LR_17 hg lwk 0 0 b4, lc_eqw eq b5, b6⟩, tp_cg d (fun j hj => by rw [e63]; exact v63 j (by omega) (by omega)) (by rw [hs_off _ _ (by omega), u1 70 (by omega)]; exact hN 70 (by omega)) (fun _ _ => by rw [fr 46 (by omega) (by omega)]) (fr 50 (by omega) (by omega)), ⟨1, by omega, by rw [e63]; exact u3, by rw [fr 0 (by omega) (by omega)]; omega, fun _ => ⟨gk, lwk, fun j hj => by rw [hs_off _ _ (by omega), u1 65 (by omega), hN 65 (by omega)]; exact b1 j hj, b2.mono (Nat.le_succ _), ra_cell b3 (fun o x y => fr _ (by omega) (by omega)), b4, ?_, b6⟩⟩, un_0 (by rw [e63]; exact u4) f53⟩
    unfold LC shW at *
    rw [fr 43 (by omega) (by omega), fr 44 (by omega) (by omega)]
    exact b5
end OPS6
