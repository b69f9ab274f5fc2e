/-! ===== part b4: crossing, undoing, the image on both sides ===== -/
section OPS4
variable {E : am_E} {g g' : Nat → Nat} {c c2 : Nat → Nat → Nat} {k : Nat} {a1 a2 a3 : Int32}
theorem un_id {S : Nat → Nat} : unG g (unG g S) = unG g S := by
  funext j
  unfold unG
  by_cases z : j = 4
  · rw [if_pos z, if_pos z, if_pos rfl]
  · rw [if_neg z, if_neg z]
    by_cases y : 90 ≤ j ∧ j < 460
    · rw [if_pos y, if_pos y]
    · rw [if_neg y, if_neg y]
theorem un_un {S S' : Nat → Nat} : unG (unG g S) S' = unG g S' := by
  funext j
  unfold unG
  by_cases z : j = 4
  · simp [z]
  · by_cases y : 90 ≤ j ∧ j < 460
    · simp [z, y]
    · simp [z, y]
theorem ST1_e {G0 G1 : Nat → Nat} {e e' : Nat → Nat} (he : ∀ f, f < 6 → e' f = e f) (h : ST1 G0 G1 e) : ST1 G0 G1 e' := by
  obtain ⟨p, b, q1, q2, q3, q4, q5, q6, q7⟩ := h
  exact ⟨p, b, q1, q2, by rw [he 0 (by omega)]; exact q3, by rw [he 1 (by omega)]; exact q4, q5, by rw [he 4 (by omega)]; exact q6, by rw [he 2 (by omega), he 3 (by omega), he 5 (by omega)]; exact q7⟩
theorem b_undo (hJ : J k c g (NH c)) (h64 : ∀ i, NH c 64 i = nI (g i)) : BOTH E mX11_undo mX12_undo [] k (NH c) := by
  obtain ⟨⟨W, A, h20⟩, b, d, e, f⟩ := id hJ
  obtain ⟨m, S, hm, u1, u2, u3⟩ := f
  have u4 : ∀ j, NH c 63 j = nI (c 63 j) := fun j => rfl
  cases m with
  | zero =>
    refine ci_undo (g0 := g) hm u1 W A (fun _ => ?_) (fun q z => absurd z (by omega)) (fun q c2 z => absurd z (by omega))
    rw [hs_fr (g := g) h64 rfl]
    exact ri_undo (g0 := g) hm u2 (fun _ => ⟨rfl, INV.same hJ⟩) (fun q z => absurd z (by omega)) (fun q z => absurd z (by omega))
  | succ m =>
    obtain ⟨v1, v2, v3, v4⟩ := u3 m (by omega)
    rw [if_pos rfl] at v4
    have hin : ∀ j, (j < 90 ∧ j ≠ 4) → unG g (S m) j = g j := fun j hj => by unfold unG; rw [if_neg hj.2, if_neg (by omega)]
    refine ci_undo (g0 := unG g (S m)) hm u1 W A (fun z => absurd z (by omega)) (fun q z => ?_) (fun q c2 z ra fr f53 => ?_)
    · have e : q = m := by omega
      subst e
      exact ⟨v1, fun j hj hj4 => hin j ⟨hj, hj4⟩, v4⟩
    · have e : q = m := by omega
      subst e
      rw [hs_fr (g := g) h64 (fr 64 (by omega) (by omega))]
      have hN : ∀ o, 62 < o → NH c2 o = NH c o := fun o ho => NH_o (fr o (by omega) (by omega))
      have s4 : unG g (S q) 4 = S q 4 := by unfold unG; rw [if_pos rfl]
      have s90 : ∀ j, j < 370 → unG g (S q) (90 + j) = S q (90 + j) := fun j hj => by unfold unG; rw [if_neg (by omega), if_pos (by omega)]
      refine ri_undo (g0 := unG g (S q)) hm (by rw [hN 63 (by omega)]; exact u2) (fun z => absurd z (by omega)) (fun r z => ?_) (fun r z => ⟨rfl, ?_⟩)
      · have e : r = q := by omega
        subst e
        refine ⟨by rw [hN 66 (by omega), s4]; exact v2, fun j hj => ?_⟩
        rw [hN 66 (by omega), s90 j hj]; exact v3 j hj
      · have e : r = q := by omega
        subst e
        rw [un_id]
        rw [un_id] at ra
        have W' : WF (unG g (S r)) (k + 1) := v1.mono (Nat.le_succ _)
        have n63 : ∀ j, j ≠ 4 → am_upd (NH c2) 63 4 (nI r) 63 j = NH c 63 j := fun j hj => by
          rw [am_upd_self]
          simp only [upd, if_neg hj]
          rw [hN 63 (by omega)]
        refine INV.fin hJ (fun o ho => am_upd_ne _ _ _ (by omega)) W' ra (by rw [fr 20 (by omega) (by omega)]; exact h20) (fun j hj => by unfold unG; rw [if_neg (by omega), if_neg (by omega)]) (fun o ho => fr o (by omega) (by omega)) (by rw [am_upd_ne _ _ _ (by omega)]; exact hN 65 (by omega)) (by rw [am_upd_ne _ _ _ (by omega)]; exact hN 70 (by omega)) (fun j hj => n63 j (by omega)) ?_
        refine ⟨r, S, by omega, f53, am_upd_at _ _ _ _, fun i hi => ?_⟩
        obtain ⟨w1, w2, w3, w4⟩ := u3 i (by omega)
        rw [if_neg (by omega)] at w4
        rw [un_un]
        refine ⟨w1.mono (Nat.le_succ _), by rw [am_upd_ne _ _ _ (by omega), hN 66 (by omega)]; exact w2, fun j hj => by rw [am_upd_ne _ _ _ (by omega), hN 66 (by omega)]; exact w3 j hj, ?_⟩
        rw [fr 54 (by omega) (by omega)]
        by_cases y : i + 1 = r
        · rw [if_pos y, ← y]; exact w4
        · rw [if_neg y, un_un]; exact w4
/-- one crossing more -/
theorem un_push {h' : am_H} {m mk p b du n lf bk : Nat} (hf : UNJ k c g (NH c)) (hc53 : c 53 0 = m) (W : WF g k) (W' : WF g' (k + 1)) (hg : ∀ j, j < 90 → j ≠ 4 → g' j = g j) (k1 : mk = (if m = 8 then 7 else m)) (k4 : h' 63 4 = nI (mk + 1)) (k5 : h' 66 (371 * mk) = nI (g 4)) (k6 : ∀ k, k < 370 → h' 66 (371 * mk + 1 + k) = nI (g (90 + k))) (k7 : ∀ j, j < 371 * mk → h' 66 j = NH c 66 (if m = 8 then j + 371 else j)) (htp : TP c c2 m mk p b du n lf bk) (hst : ST1 g g' (fun f => if f = 0 then p else if f = 1 then b else if f = 2 then du else if f = 3 then n else if f = 4 then lf else bk)) : UNJ (k + 1) c2 g' h' := by
  obtain ⟨m', S, hm, u1, u2, u3⟩ := hf
  have em : m' = m := by omega
  subst em
  obtain ⟨t1, t2, ⟨t3, t4, t5, t6, t7, t8⟩, t9⟩ := htp
  have hmk : mk ≤ 7 := by rw [k1]; split <;> omega
  have hu : ∀ (S : Nat → Nat) j, j < 460 → unG g' S j = unG g S j := fun S j hj => by
    unfold unG
    by_cases z : j = 4
    · rw [if_pos z, if_pos z]
    · rw [if_neg z, if_neg z]
      by_cases y : 90 ≤ j ∧ j < 460
      · rw [if_pos y, if_pos y]
      · rw [if_neg y, if_neg y]; exact hg j (by omega) z
  have hug : ∀ j, j < 460 → unG g' g j = g j := fun j hj => by
    unfold unG
    by_cases z : j = 4
    · rw [if_pos z, z]
    · rw [if_neg z]
      by_cases y : 90 ≤ j ∧ j < 460
      · rw [if_pos y]
      · rw [if_neg y]; exact hg j (by omega) z
  refine ⟨mk + 1, fun i => if i = mk then g else if m' = 8 then S (i + 1) else S i, by omega, t2, k4, fun i hi => ?_⟩
  by_cases e : i = mk
  · subst e
    simp only [if_true]
    refine ⟨(WF.cg W (fun j hj => hug j hj)).mono (Nat.le_succ _), k5, k6, ?_⟩
    refine ST1_cg W (fun j hj => hug j (by omega)) (fun j _ => rfl) ?_
    refine ST1_e (fun f hf => ?_) hst
    have : f = 0 ∨ f = 1 ∨ f = 2 ∨ f = 3 ∨ f = 4 ∨ f = 5 := by omega
    rcases this with rfl | rfl | rfl | rfl | rfl | rfl
    · exact t3
    · exact t4
    · exact t5
    · exact t6
    · exact t7
    · exact t8
  · have him : i < m' ∧ (if m' = 8 then i + 1 else i) < m' ∧ (if m' = 8 then i + 1 else i) + 1 ≤ m' := by
      by_cases z : m' = 8
      · rw [if_pos z] at k1 ⊢; omega
      · rw [if_neg z] at k1 ⊢; omega
    obtain ⟨w1, w2, w3, w4⟩ := u3 (if m' = 8 then i + 1 else i) him.2.1
    simp only [if_neg e]
    have eS : (if m' = 8 then S (i + 1) else S i) = S (if m' = 8 then i + 1 else i) := by split <;> rfl
    rw [eS]
    refine ⟨(WF.cg w1 (fun j hj => hu _ j hj)).mono (Nat.le_succ _), ?_, fun j hj => ?_, ?_⟩
    · rw [k7 _ (by omega), ← w2]
      congr 1
      split <;> omega
    · rw [k7 _ (by omega), ← w3 j hj]
      congr 1
      split <;> omega
    · have hlt : ∀ f, f < 6 → c2 54 (6 * i + f) = c 54 (6 * (if m' = 8 then i + 1 else i) + f) := fun f hf => by
        rw [t9 _ (by omega)]
        congr 1
        split <;> omega
      have hcg := ST1_cg (G0' := unG g' (S (if m' = 8 then i + 1 else i))) (G1' := if i + 1 = mk + 1 then g' else unG g' (if i + 1 = mk then g else if m' = 8 then S (i + 1 + 1) else S (i + 1))) w1 (fun j hj => hu _ j (by omega)) (fun j hj => ?_) w4
      · exact ST1_e hlt hcg
      · rw [if_neg (by omega)]
        by_cases y : i + 1 = mk
        · have y2 : (if m' = 8 then i + 1 else i) + 1 = m' := by
            by_cases z : m' = 8
            · rw [if_pos z] at k1 ⊢; omega
            · rw [if_neg z] at k1 ⊢; omega
          rw [if_pos y, if_pos y2, hug j (by omega)]
        · have y2 : ¬ (if m' = 8 then i + 1 else i) + 1 = m' := by
            by_cases z : m' = 8
            · rw [if_pos z] at k1 ⊢; omega
            · rw [if_neg z] at k1 ⊢; omega
          have eS2 : (if m' = 8 then S (i + 1 + 1) else S (i + 1)) = S ((if m' = 8 then i + 1 else i) + 1) := by split <;> rfl
          rw [if_neg y, if_neg y2, eS2, hu _ j (by omega)]
end OPS4
section OPS5
variable {E : am_E} {g g' : Nat → Nat} {c c2 : Nat → Nat → Nat} {k : Nat} {a1 a2 a3 : Int32}
theorem b_cross (hk : k < 900000) (hJ : J k c g (NH c)) (h64 : ∀ i, NH c 64 i = nI (g i)) : BOTH E mX11_cross mX12_cross [.inl a1, .inl a2] k (NH c) := by
  obtain ⟨⟨W, A, h20⟩, ⟨lw, L1, L2, L3⟩, d, e, f⟩ := id hJ
  have f2 := f
  obtain ⟨m, S, hm, u1, u2, u3⟩ := f2
  have w0 := W.1.1
  have w1 := W.1.2.1
  have w2 := W.1.2.2.1
  have W2 := W.mono (Nat.le_succ k)
  have hboth : ∀ p b p' b', p < g 1 → b < g 2 → a1 = nI p → a2 = nI b → p' < g 1 → b' < g 2 → a1 = nI p' → a2 = nI b' → p' = p ∧ b' = b := by
    intro p b p' b' h1 h2 e1 e2 h1' h2' e1' e2'
    rw [e1, ni_eq (by omega) (by omega)] at e1'
    rw [e2, ni_eq (by omega) (by omega)] at e2'
    exact ⟨e1'.symm, e2'.symm⟩
  have fin : ∀ (g' : Nat → Nat) (c2 : Nat → Nat → Nat) (h' : am_H) (mk p b du n lf bk : Nat), WF g' (k + 1) → RA g' c2 → FX c c2 → TP c c2 m mk p b du n lf bk → KP (NH c2) h' g m mk → (∀ j, j < 90 → j ≠ 4 → g' j = g j) → (∀ j, 860 ≤ j → g' j = g j) → ST1 g g' (fun f => if f = 0 then p else if f = 1 then b else if f = 2 then du else if f = 3 then n else if f = 4 then lf else bk) → INV (k + 1) (hs h' g') := by
    intro g' c2 h' mk p b du n lf bk W' ra fx tp kp hg hg2 hst
    have hN : ∀ o, 62 < o → NH c2 o = NH c o := fun o ho => NH_o (fx o (by omega) (by omega) (by omega))
    obtain ⟨k1, k2, k3, k4, k5, k6, k7⟩ := id kp
    refine INV.fin hJ (fun o ho => k2 o (by omega) (by omega) (by omega) (by omega) (by omega)) W' ra (by rw [fx 20 (by omega) (by omega) (by omega)]; exact h20) hg2 (fun o ho => fx o (by omega) (by omega) (by omega)) (by rw [k2 65 (by omega) (by omega) (by omega) (by omega) (by omega)]; exact hN 65 (by omega)) (by rw [k2 70 (by omega) (by omega) (by omega) (by omega) (by omega)]; exact hN 70 (by omega)) (fun j hj => by rw [k3 j (by omega), hN 63 (by omega)]) ?_
    exact un_push f u1 W W' hg k1 k4 k5 k6 (fun j hj => by rw [k7 j hj, hN 66 (by omega)]) tp hst
  have hok : ∀ p b, p < g 1 → b < g 2 → a1 = nI p → a2 = nI b → tou g b (og g p 0) → okCr g a1 a2 := fun p b h1 h2 e1 e2 ht => ⟨p, b, h1, h2, e1, e2, ht⟩
  refine ci_cross (lw := lw) W (by omega) A L2 L3 h20 hm u1 (fun nok => ?_) (fun p b hp hb e1 e2 ht hd c2 ft => ?_) (fun p b hp hb e1 e2 ht hd c2 mk ra fx tp => ?_) (fun p b o hp hb e1 e2 ht ho hd c2 mk ra fx tp => ?_)
  · rw [hs_fr (g := g) h64 rfl]
    exact ri_cross (lw := lw) W L1 L3 hm u2 (fun _ => ⟨rfl, INV.same hJ⟩) (fun p b hp hb e1 e2 ht => absurd (hok p b hp hb e1 e2 ht) nok) (fun p b hp hb e1 e2 ht => absurd (hok p b hp hb e1 e2 ht) nok) (fun p b o hp hb e1 e2 ht => absurd (hok p b hp hb e1 e2 ht) nok)
  · have hN : ∀ o, 22 < o → NH c2 o = NH c o := fun o ho => NH_o (ft o (by omega) (by omega) (by omega))
    rw [hs_fr (g := g) h64 (ft 64 (by omega) (by omega) (by omega))]
    refine ri_cross (lw := lw) W L1 L3 hm (by rw [hN 63 (by omega)]; exact u2) (fun nok => absurd (hok p b hp hb e1 e2 ht) nok) (fun p' b' hp' hb' e1' e2' ht' hd' h' fh => ⟨rfl, ?_⟩) (fun p' b' hp' hb' e1' e2' ht' hd' => ?_) (fun p' b' o' hp' hb' e1' e2' ht' ho' hd' => ?_)
    · refine INV.fin hJ (fun o ho => fh o (by omega) (by omega) (by omega)) W2 (ra_cell A (fun o x y => ft o (by omega) (by omega) (by omega))) (by rw [ft 20 (by omega) (by omega) (by omega)]; exact h20) (fun _ _ => rfl) (fun o ho => ft o (by omega) (by omega) (by omega)) (by rw [fh 65 (by omega) (by omega) (by omega)]; exact hN 65 (by omega)) (by rw [fh 70 (by omega) (by omega) (by omega)]; exact hN 70 (by omega)) (fun j _ => by rw [fh 63 (by omega) (by omega) (by omega), hN 63 (by omega)]) ?_
      exact un_cg f (Nat.le_succ _) W2 (fun _ _ => rfl) (by rw [fh 63 (by omega) (by omega) (by omega), hN 63 (by omega)]) (by rw [fh 66 (by omega) (by omega) (by omega)]; exact hN 66 (by omega)) (by rw [ft 53 (by omega) (by omega) (by omega)]) (ft 54 (by omega) (by omega) (by omega))
    · obtain ⟨rfl, rfl⟩ := hboth p b p' b' hp hb e1 e2 hp' hb' e1' e2'
      omega
    · obtain ⟨rfl, rfl⟩ := hboth p b p' b' hp hb e1 e2 hp' hb' e1' e2'
      have := (W.p (show p' < 8 by omega)).2.2.1
      omega
  · have hN : ∀ o, 62 < o → NH c2 o = NH c o := fun o ho => NH_o (fx o (by omega) (by omega) (by omega))
    rw [hs_fr (g := g) h64 (fx 64 (by omega) (by omega) (by omega))]
    refine ri_cross (lw := lw) W L1 L3 hm (by rw [hN 63 (by omega)]; exact u2) (fun nok => absurd (hok p b hp hb e1 e2 ht) nok) (fun p' b' hp' hb' e1' e2' ht' hd' => ?_) (fun p' b' hp' hb' e1' e2' ht' hd' h' mk' kp => ⟨rfl, ?_⟩) (fun p' b' o' hp' hb' e1' e2' ht' ho' hd' => ?_)
    · obtain ⟨rfl, rfl⟩ := hboth p b p' b' hp hb e1 e2 hp' hb' e1' e2'
      omega
    · obtain ⟨rfl, rfl⟩ := hboth p b p' b' hp hb e1 e2 hp' hb' e1' e2'
      have emk : mk' = mk := by rw [kp.1, tp.1]
      subst emk
      refine fin _ c2 h' mk' p' b' 100 100 (og g p' 4) 0 ((wf_mv (by omega) (by omega) W).mono (Nat.le_succ _)) ra fx tp kp (fun j hj _ => mv_off (by omega) (by omega)) (fun j hj => mv_off (by omega) (by omega)) ⟨p', b', hp, hb, rfl, rfl, ht, rfl, Or.inl ⟨rfl, rfl, fun _ _ => rfl⟩⟩
    · obtain ⟨rfl, rfl⟩ := hboth p b p' b' hp hb e1 e2 hp' hb' e1' e2'
      have := (W.p (show p' < 8 by omega)).2.2.1
      omega
  · have hN : ∀ o, 62 < o → NH c2 o = NH c o := fun o ho => NH_o (fx o (by omega) (by omega) (by omega))
    have h9 := (W.p (show p < 8 by omega)).2.2.1
    have hn := (W.p (show p < 8 by omega)).2.2.2.2.2.1 o ho
    rw [hs_fr (g := g) h64 (fx 64 (by omega) (by omega) (by omega))]
    refine ri_cross (lw := lw) W L1 L3 hm (by rw [hN 63 (by omega)]; exact u2) (fun nok => absurd (hok p b hp hb e1 e2 ht) nok) (fun p' b' hp' hb' e1' e2' ht' hd' => ?_) (fun p' b' hp' hb' e1' e2' ht' hd' => ?_) (fun p' b' o' hp' hb' e1' e2' ht' ho' hd' h' mk' kp => ?_)
    · obtain ⟨rfl, rfl⟩ := hboth p b p' b' hp hb e1 e2 hp' hb' e1' e2'
      omega
    · obtain ⟨rfl, rfl⟩ := hboth p b p' b' hp hb e1 e2 hp' hb' e1' e2'
      omega
    · obtain ⟨rfl, rfl⟩ := hboth p b p' b' hp hb e1 e2 hp' hb' e1' e2'
      have eo : o' = o := by omega
      subst eo
      have emk : mk' = mk := by rw [kp.1, tp.1]
      subst emk
      refine ⟨rfl, fin _ c2 h' mk' p' b' o' (og g p' (5 + o')) (og g p' 4) (if g 4 = 100 then 0 else 1) (wf_wr (wf_lv (by omega) hb ho W)) ra fx tp kp (fun j hj hj4 => ?_) (fun j hj => ?_) ⟨p', b', hp, hb, rfl, rfl, ht, rfl, Or.inr ⟨o', ho, rfl, rfl, rfl, fun _ _ => rfl⟩⟩⟩
      · have e4 : lvG g p' b' o' 4 ≤ 100 := by rw [lv_off (by omega) h9 (by omega), if_neg (by omega)]; exact W.1.2.2.2.2.1
        rw [wr_off e4 hj4 (by omega), lv_off (by omega) h9 (by omega), if_neg (by omega)]
      · have e4 : lvG g p' b' o' 4 ≤ 100 := by rw [lv_off (by omega) h9 (by omega), if_neg (by omega)]; exact W.1.2.2.2.2.1
        rw [wr_off e4 (by omega) (by omega), lv_off (by omega) h9 (by omega), if_neg (by omega)]
end OPS5
