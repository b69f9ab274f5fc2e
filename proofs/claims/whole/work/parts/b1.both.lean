/-! ===== part b1: a call on both sides ===== -/
def BOTH (E : am_E) (Mx Mm : am_M) (av : List am_V) (k : Nat) (h : am_H) : Prop := am_C tT E 60 Mx (.inr 0 :: av) h (fun v h' => am_C tT E 60 Mm (.inr 63 :: av) h' (fun v' h'' => v = v' ∧ INV (k + 1) h''))
section BOTHS
variable {E : am_E} {h : am_H} {g g' : Nat → Nat} {c c' c2 : Nat → Nat → Nat} {k k' : Nat}
theorem J_cg (hJ : J k c g h) (hc : ∀ o, o < 63 → c' o = c o) : J k c' g h := by
  obtain ⟨⟨a1, a2, a3⟩, b, d, e, f⟩ := hJ
  exact ⟨⟨a1, ra_cell a2 (fun o _ _ => hc o (by omega)), by rw [hc 20 (by omega)]; exact a3⟩, lw_cg b (fun _ _ => rfl) (hc 17 (by omega)) (hc 18 (by omega)), tp_cg d (fun _ _ => rfl) rfl (fun _ _ => by rw [hc 46 (by omega)]) (hc 50 (by omega)), im_cg e (Nat.le_refl _) rfl rfl (by rw [hc 0 (by omega)]) (fun o _ _ => hc o (by omega)), un_cg f (Nat.le_refl _) a1 (fun _ _ => rfl) rfl rfl (by rw [hc 53 (by omega)]) (hc 54 (by omega))⟩
theorem INV.full (hI : INV k h) : ∃ c g, h = NH c ∧ (∀ i, NH c 64 i = nI (g i)) ∧ J k c g (NH c) := by
  obtain ⟨c, g, h1, h2, h3⟩ := hI
  have e : h = NH (fun o => if o < 63 then c o else fun i => un (h o i)) := by
    funext o i
    show h o i = nI ((if o < 63 then c o else fun i => un (h o i)) i)
    by_cases z : o < 63
    · rw [if_pos z, h1 o z]; rfl
    · rw [if_neg z, ni_un]
  refine ⟨fun o => if o < 63 then c o else fun i => un (h o i), g, e, fun i => ?_, ?_⟩
  · rw [← e, h2]
  · rw [← e]
    exact J_cg h3 (fun o ho => if_pos ho)
theorem hs_self (h64 : ∀ i, h 64 i = nI (g i)) : hs h g = h := by
  funext o i
  by_cases z : o = 64
  · subst z; rw [hs_at, h64]
  · rw [hs_off _ _ z]
theorem INV.fin {h3 : am_H} (hJ : J k c g (NH c)) (hcls : ∀ o, o < 63 → h3 o = NH c2 o) (W : WF g' (k + 1)) (A : RA g' c2) (h20 : c2 20 3 = 0) (hg : ∀ j, 860 ≤ j → g' j = g j) (fc : ∀ o, o = 0 ∨ o = 17 ∨ o = 18 ∨ (26 < o ∧ o < 53) → c2 o = c o) (f65 : h3 65 = NH c 65) (f70 : h3 70 = NH c 70) (fs : ∀ j, j = 5 ∨ j = 13 ∨ j = 17 ∨ j = 20 ∨ j = 22 → h3 63 j = NH c 63 j) (U : UNJ (k + 1) c2 g' h3) : INV (k + 1) (hs h3 g') := by
  obtain ⟨⟨a1, a2, a3⟩, b, d, e, f⟩ := hJ
  have e63 : hs h3 g' 63 = h3 63 := hs_63 _ _
  have e65 : hs h3 g' 65 = h3 65 := hs_off _ _ (by omega)
  have e66 : hs h3 g' 66 = h3 66 := hs_off _ _ (by omega)
  have e70 : hs h3 g' 70 = h3 70 := hs_off _ _ (by omega)
  refine ⟨c2, g', fun o ho => by rw [hs_off _ _ (by omega)]; exact hcls o ho, rfl, ⟨W, A, h20⟩, lw_cg b hg (fc 17 (by omega)) (fc 18 (by omega)), tp_cg d (fun j hj => by rw [e63]; exact fs j (by omega)) (by rw [e70]; exact f70) (fun _ _ => by rw [fc 46 (by omega)]) (fc 50 (by omega)), im_cg e (Nat.le_succ _) (by rw [e63]; exact fs 5 (by omega)) (by rw [e65]; exact f65) (by rw [fc 0 (by omega)]) (fun o _ _ => fc o (by omega)), ?_⟩
  obtain ⟨m, S, u1, u2, u3, u4⟩ := U
  exact ⟨m, S, u1, u2, by rw [e63]; exact u3, fun i hi => by rw [e66]; exact u4 i hi⟩
theorem bothQ {Mx Mm : am_M} {av : List am_V} {sp : Int32} (hJ : J k c g (NH c)) (h64 : ∀ i, NH c 64 i = nI (g i))
    (hx : ∀ Q : Int32 → am_H → Prop, (∀ c2, RA g c2 → c2 20 3 = 0 → (∀ o, o = 0 ∨ o = 17 ∨ o = 18 ∨ (26 < o ∧ o < 55) ∨ 62 < o → c2 o = c o) → Q sp (NH c2)) → am_C tT E 60 Mx (.inr 0 :: av) (NH c) Q)
    (hm : ∀ (h : am_H) (Q : Int32 → am_H → Prop), h 63 = NH c 63 → (∀ h' : am_H, (∀ o, o < 63 ∨ o = 65 ∨ o = 66 ∨ o = 70 → h' o = h o) → (∀ j, j = 4 ∨ j = 5 ∨ j = 13 ∨ j = 17 ∨ j = 20 ∨ j = 22 → h' 63 j = h 63 j) → Q sp (hs h' g)) → am_C tT E 60 Mm (.inr 63 :: av) (hs h g) Q) : BOTH E Mx Mm av k (NH c) := by
  refine hx _ (fun c2 ra h20 fr => ?_)
  have e64 : NH c2 = hs (NH c2) g := by
    refine (hs_self (fun i => ?_)).symm
    show nI (c2 64 i) = nI (g i)
    rw [fr 64 (by omega)]; exact h64 i
  have hN : ∀ o, 62 < o → NH c2 o = NH c o := fun o ho => by
    show (fun i => nI (c2 o i)) = fun i => nI (c o i)
    rw [fr o (by omega)]
  rw [e64]
  refine hm (NH c2) _ (hN 63 (by omega)) (fun h' f1 f2 => ⟨rfl, ?_⟩)
  have hJ2 := hJ
  obtain ⟨⟨a1, a2, a3⟩, b, d, e, f⟩ := hJ
  refine INV.fin hJ2 (fun o ho => f1 o (by omega)) (a1.mono (Nat.le_succ _)) ra h20 (fun _ _ => rfl) (fun o ho => fr o (by omega)) (by rw [f1 65 (by omega)]; exact hN 65 (by omega)) (by rw [f1 70 (by omega)]; exact hN 70 (by omega)) (fun j hj => by rw [f2 j (by omega), hN 63 (by omega)]) ?_
  exact un_cg f (Nat.le_succ _) (a1.mono (Nat.le_succ _)) (fun _ _ => rfl) (by rw [f2 4 (by omega), hN 63 (by omega)]) (by rw [f1 66 (by omega)]; exact hN 66 (by omega)) (by rw [fr 53 (by omega)]) (fr 54 (by omega))
/-- nothing happens -/
theorem INV.same (hJ : J k c g (NH c)) : INV (k + 1) (hs (NH c) g) := by
  have hJ2 := hJ
  obtain ⟨⟨a1, a2, a3⟩, b, d, e, f⟩ := hJ
  exact INV.fin hJ2 (fun _ _ => rfl) (a1.mono (Nat.le_succ _)) a2 a3 (fun _ _ => rfl) (fun _ _ => rfl) rfl rfl (fun _ _ => rfl) (un_cg f (Nat.le_succ _) (a1.mono (Nat.le_succ _)) (fun _ _ => rfl) rfl rfl rfl rfl)
/-- what was done cannot be undone -/
theorem INV.forg (hJ : J k c g (NH c)) (W : WF g' k) (A : RA g' c2) (hg : ∀ j, 860 ≤ j → g' j = g j) (fr : FR c c2) (h53 : c2 53 0 = 0) : INV (k + 1) (hs (am_upd (NH c2) 63 4 (nI 0)) g') := by
  have hN : ∀ o, 62 < o → NH c2 o = NH c o := fun o ho => by
    show (fun i => nI (c2 o i)) = fun i => nI (c o i)
    rw [fr o (by omega) (by omega)]
  refine INV.fin hJ (fun o ho => am_upd_ne _ _ _ (by omega)) (W.mono (Nat.le_succ _)) A (by rw [fr 20 (by omega) (by omega)]; exact hJ.1.2.2) hg (fun o ho => fr o (by omega) (by omega)) (by rw [am_upd_ne _ _ _ (by omega)]; exact hN 65 (by omega)) (by rw [am_upd_ne _ _ _ (by omega)]; exact hN 70 (by omega)) (fun j hj => ?_) (un_0 (am_upd_at _ _ _ _) h53)
  rw [am_upd_self]
  simp only [upd, if_neg (show ¬ j = 4 by omega)]
  rw [hN 63 (by omega)]
theorem hs_fr (h64 : ∀ i, NH c 64 i = nI (g i)) (fr : c2 64 = c 64) : NH c2 = hs (NH c2) g := by
  refine (hs_self (fun i => ?_)).symm
  show nI (c2 64 i) = nI (g i)
  rw [fr]; exact h64 i
end BOTHS
section OPS1
variable {E : am_E} {g : Nat → Nat} {c : Nat → Nat → Nat} {k : Nat} {a1 a2 a3 a4 a5 a6 : Int32}
theorem b_kept (hJ : J k c g (NH c)) (h64 : ∀ i, NH c 64 i = nI (g i)) : BOTH E mX11_kept mX12_kept [.inl a1, .inl a2] k (NH c) := by
  obtain ⟨⟨W, A, h20⟩, -⟩ := id hJ
  exact bothQ hJ h64 (fun Q hq => ci_kept W A.1 A.2.2.1 (hq c A h20 (fun _ _ => rfl))) (fun h Q _ hq => ri_kept W (hq h (fun _ _ => rfl) (fun _ _ => rfl)))
theorem b_book (hJ : J k c g (NH c)) (h64 : ∀ i, NH c 64 i = nI (g i)) : BOTH E mX11_book mX12_book [.inl a1, .inl a2] k (NH c) := by
  obtain ⟨⟨W, A, h20⟩, -⟩ := id hJ
  exact bothQ hJ h64 (fun Q hq => ci_book W A.1 (hq c A h20 (fun _ _ => rfl))) (fun h Q _ hq => ri_book W (hq h (fun _ _ => rfl) (fun _ _ => rfl)))
theorem b_of (hJ : J k c g (NH c)) (h64 : ∀ i, NH c 64 i = nI (g i)) : BOTH E mX11_of mX12_of [.inl a1, .inl a2] k (NH c) := by
  obtain ⟨⟨W, A, h20⟩, -⟩ := id hJ
  exact bothQ hJ h64 (fun Q hq => ci_of W A.1 A.2.1 A.2.2.2 (hq c A h20 (fun _ _ => rfl))) (fun h Q _ hq => ri_of W (hq h (fun _ _ => rfl) (fun _ _ => rfl)))
theorem b_called (hJ : J k c g (NH c)) (h64 : ∀ i, NH c 64 i = nI (g i)) : BOTH E mX11_called mX12_called [.inl a1, .inl a2] k (NH c) := by
  obtain ⟨⟨W, A, h20⟩, -⟩ := id hJ
  exact bothQ hJ h64 (fun Q hq => ci_called W A.1 A.2.1 (hq c A h20 (fun _ _ => rfl))) (fun h Q _ hq => ri_called W (hq h (fun _ _ => rfl) (fun _ _ => rfl)))
theorem b_cousins (hJ : J k c g (NH c)) (h64 : ∀ i, NH c 64 i = nI (g i)) : BOTH E mX11_cousins mX12_cousins [.inl a1] k (NH c) := by
  obtain ⟨⟨W, A, h20⟩, -⟩ := id hJ
  exact bothQ hJ h64 (fun Q hq => ci_cousins W A.2.1 A.2.2.2 (hq c A h20 (fun _ _ => rfl))) (fun h Q _ hq => ri_cousins W (hq h (fun _ _ => rfl) (fun _ _ => rfl)))
theorem b_alone (hJ : J k c g (NH c)) (h64 : ∀ i, NH c 64 i = nI (g i)) : BOTH E mX11_alone mX12_alone [.inl a1] k (NH c) := by
  obtain ⟨⟨W, A, h20⟩, -⟩ := id hJ
  exact bothQ hJ h64 (fun Q hq => ci_alone W A.2.1 (hq c A h20 (fun _ _ => rfl))) (fun h Q _ hq => ri_alone W (hq h (fun _ _ => rfl) (fun _ _ => rfl)))
theorem b_estate (hJ : J k c g (NH c)) (h64 : ∀ i, NH c 64 i = nI (g i)) : BOTH E mX11_estate mX12_estate [.inl a1] k (NH c) := by
  obtain ⟨⟨W, A, h20⟩, -⟩ := id hJ
  exact bothQ hJ h64 (fun Q hq => ci_estate W A.2.1 A.2.2.2 (hq c A h20 (fun _ _ => rfl))) (fun h Q _ hq => ri_estate W (hq h (fun _ _ => rfl) (fun _ _ => rfl)))
theorem b_night (hk : k < 900000) (hJ : J k c g (NH c)) (h64 : ∀ i, NH c 64 i = nI (g i)) : BOTH E mX11_night mX12_night [.inl a1, .inl a2] k (NH c) := by
  obtain ⟨⟨W, A, h20⟩, -⟩ := id hJ
  exact bothQ hJ h64 (fun Q hq => ci_night (by omega) W A (hq c A h20 (fun _ _ => rfl))) (fun h Q _ hq => ri_night (by omega) W (hq h (fun _ _ => rfl) (fun _ _ => rfl)))
theorem b_look (hJ : J k c g (NH c)) (h64 : ∀ i, NH c 64 i = nI (g i)) : BOTH E mX11_look mX12_look [.inl a1] k (NH c) := by
  obtain ⟨⟨W, A, h20⟩, ⟨lw, L1, L2, L3⟩, -, -, ⟨m, S, hm, u1, u2, -⟩⟩ := id hJ
  have e865 : g 865 = c 17 0 := by rw [L2.1, (LRl_b lw 0 0 L1).2.2.1]; omega
  have h1 := fun (Q : Int32 → am_H → Prop) hq => ci_look (E := E) (v := a1) (d := 60 - 2) (Q := Q) W A.1 A.2.1 hq
  refine bothQ (sp := sp_look g (c 53 0) (c 17 0) a1) hJ h64 (fun Q hq => ?_) (fun h Q e63 hq => ?_)
  · exact ci_look W A.1 A.2.1 (hq c A h20 (fun _ _ => rfl))
  · refine ri_look (bm := m) W (by rw [e63]; exact u2) ?_
    rw [e865, ← u1]
    exact hq h (fun _ _ => rfl) (fun _ _ => rfl)
theorem b_behind (hk : k < 900000) (hJ : J k c g (NH c)) (h64 : ∀ i, NH c 64 i = nI (g i)) : BOTH E mX11_behind mX12_behind [.inl a1, .inl a2, .inl a3, .inl a4, .inl a5, .inl a6] k (NH c) := by
  obtain ⟨⟨W, A, h20⟩, ⟨lw, L1, L2, L3⟩, -⟩ := id hJ
  refine bothQ (sp := sp_behind g lw a1 (A5 a2 a3 a4 a5 a6)) hJ h64 (fun Q hq => ?_) (fun h Q _ hq => ?_)
  · exact ci_behind W (by omega) A L2 L3 h20 (fun c2 r2 f2 => hq c2 r2 (by rw [f2 20 (by omega)]; exact h20) (fun o ho => f2 o (by omega)))
  · exact ri_behind W L1 L3 (fun h' f' => hq h' (fun o ho => f' o (by omega) (by omega) (by omega)) (fun j _ => by rw [f' 63 (by omega) (by omega) (by omega)]))
theorem b_best (hk : k < 900000) (hJ : J k c g (NH c)) (h64 : ∀ i, NH c 64 i = nI (g i)) : BOTH E mX11_best mX12_best [.inl a1, .inl a2, .inl a3] k (NH c) := by
  obtain ⟨⟨W, A, h20⟩, ⟨lw, L1, L2, L3⟩, -⟩ := id hJ
  refine bothQ (sp := sp_best g lw a1 a2 a3) hJ h64 (fun Q hq => ?_) (fun h Q _ hq => ?_)
  · exact ci_best W (by omega) A L2 L3 h20 (fun c2 r2 f2 => hq c2 r2 (by rw [f2 20 (by omega)]; exact h20) (fun o ho => f2 o (by omega)))
  · exact ri_best W L1 L3 (fun h' f' f2 => hq h' (fun o ho => f' o (by omega) (by omega) (by omega) (by omega) (by omega) (by omega)) (fun j hj => f2 j (by omega) (by omega)))
theorem b_plan (hk : k < 900000) (hJ : J k c g (NH c)) (h64 : ∀ i, NH c 64 i = nI (g i)) : BOTH E mX11_plan mX12_plan [.inl a1, .inl a2] k (NH c) := by
  obtain ⟨⟨W, A, h20⟩, ⟨lw, L1, L2, L3⟩, -⟩ := id hJ
  refine bothQ (sp := sp_plan g lw a1 a2) hJ h64 (fun Q hq => ?_) (fun h Q _ hq => ?_)
  · exact ci_plan W (by omega) A L2 L3 h20 (fun c2 r2 f2 f20 => hq c2 r2 f20 (fun o ho => f2 o (by omega)))
  · exact ri_plan W L1 L3 (fun h' f' => hq h' (fun o ho => f' o (by omega) (by omega) (by omega) (by omega)) (fun j _ => by rw [f' 63 (by omega) (by omega) (by omega) (by omega)]))
theorem b_order (hk : k < 900000) (hJ : J k c g (NH c)) (h64 : ∀ i, NH c 64 i = nI (g i)) : BOTH E mX11_order mX12_order [.inl a1, .inl a2, .inl a3] k (NH c) := by
  obtain ⟨⟨W, A, h20⟩, ⟨lw, L1, L2, L3⟩, -⟩ := id hJ
  refine bothQ (sp := sp_order g lw a1 a2 a3) hJ h64 (fun Q hq => ?_) (fun h Q _ hq => ?_)
  · exact ci_order W (by omega) A L2 L3 h20 (fun c2 r2 f2 => hq c2 r2 (by rw [f2 20 (by omega)]; exact h20) (fun o ho => f2 o (by omega)))
  · exact ri_order W L1 L3 (fun h' f' f2 => hq h' (fun o ho => f' o (by omega) (by omega) (by omega) (by omega) (by omega) (by omega)) (fun j hj => f2 j (by omega)))
theorem b_fault (hJ : J k c g (NH c)) (h64 : ∀ i, NH c 64 i = nI (g i)) : BOTH E mX11_fault mX12_fault [.inl a1] k (NH c) := by
  obtain ⟨⟨W, A, h20⟩, -, ⟨n, -, -, -, -, -, t20, t22⟩, -⟩ := id hJ
  refine bothQ (sp := if a1 = nI 0 then nI (c 46 1) else if a1 = nI 1 then nI (c 46 2) else -1) hJ h64 (fun Q hq => ?_) (fun h Q e63 hq => ?_)
  · exact ci_fault rfl rfl (hq c A h20 (fun _ _ => rfl))
  · exact ri_fault (by rw [e63]; exact t20) (by rw [e63]; exact t22) (hq h (fun _ _ => rfl) (fun _ _ => rfl))
end OPS1
