/-! ===== part b2: deeds on both sides ===== -/
section OPS2
variable {E : am_E} {g : Nat → Nat} {c : Nat → Nat → Nat} {k : Nat} {a1 a2 a3 a4 a5 a6 : Int32}
theorem b_state (hJ : J k c g (NH c)) (h64 : ∀ i, NH c 64 i = nI (g i)) : BOTH E mX11_state mX12_state [.inl a1] k (NH c) := by
  obtain ⟨⟨W, A, h20⟩, b, d, e, f⟩ := id hJ
  obtain ⟨n, hn, rfl⟩ := ni_all a1
  have W2 : WF (nup g 5 n) (k + 1) := (wf_small (Or.inl ⟨rfl, hn⟩) W).mono (Nat.le_succ _)
  refine ci_state A.1 ?_
  rw [hs_fr (g := g) h64 (cup_ne _ _ _ (by omega))]
  refine ri_state ⟨rfl, ?_⟩
  have hN : ∀ o, 62 < o → NH (cup c 1 0 n) o = NH c o := fun o ho => by
    show (fun i => nI (cup c 1 0 n o i)) = fun i => nI (c o i)
    rw [cup_ne _ _ _ (by omega)]
  refine INV.fin hJ (fun _ _ => rfl) W2 (ra_st5 (fun q hq => (W.p hq).2.2.1) A) (by rw [cup_ne _ _ _ (by omega)]; exact h20) (fun j hj => nup_ne _ _ (by omega)) (fun o ho => cup_ne _ _ _ (by omega)) (hN 65 (by omega)) (hN 70 (by omega)) (fun j _ => by rw [hN 63 (by omega)]) ?_
  exact un_cg f (Nat.le_succ _) W2 (fun j hj => nup_ne _ _ (by omega)) (by rw [hN 63 (by omega)]) (hN 66 (by omega)) (by rw [cup_ne _ _ _ (by omega)]) (cup_ne _ _ _ (by omega))
theorem b_name (hJ : J k c g (NH c)) (h64 : ∀ i, NH c 64 i = nI (g i)) : BOTH E mX11_name mX12_name [.inl a1, .inl a2] k (NH c) := by
  obtain ⟨⟨W, A, h20⟩, -⟩ := id hJ
  refine ci_name W A (fun ok p q c2 hp hq e1 e2 ra fr f53 => ?_) (fun nok => ?_)
  · rw [hs_fr (g := g) h64 (fr 64 (by omega) (by omega))]
    refine ri_name W (fun _ p' q' hp' hq' e1' e2' => ⟨rfl, ?_⟩) (fun z => absurd ok z)
    rw [e1, ni_eq (by omega) (by omega)] at e1'
    rw [e2, ni_eq (by omega) (by omega)] at e2'
    subst e1' e2'
    have hg20 := ok.2.2
    exact INV.forg hJ (wf_name hg20 hp hq W) ra (fun j hj => by unfold nmG; rw [nup_ne _ _ (by omega), nup_ne _ _ (by omega), nup_ne _ _ (by omega)]) fr f53
  · rw [hs_fr (g := g) h64 rfl]
    exact ri_name W (fun ok => absurd ok nok) (fun _ => ⟨rfl, INV.same hJ⟩)
theorem b_person (hJ : J k c g (NH c)) (h64 : ∀ i, NH c 64 i = nI (g i)) : BOTH E mX11_person mX12_person [.inl a1, .inl a2] k (NH c) := by
  obtain ⟨⟨W, A, h20⟩, -⟩ := id hJ
  have w1 := W.1.2.1
  refine ci_person W A (fun ok p q c2 hp hq e1 e2 ra fr f53 => ?_) (fun nok => ?_)
  · rw [hs_fr (g := g) h64 (fr 64 (by omega) (by omega))]
    refine ri_person W (fun _ p' q' hp' hq' e1' e2' => ⟨rfl, ?_⟩) (fun z => absurd ok z)
    rw [e1, ni_eq (by omega) (by omega)] at e1'
    rw [e2, ni_eq (by omega) (by omega)] at e2'
    subst e1' e2'
    have hg8 := ok.2.2
    exact INV.forg hJ (wf_person hg8 hp (by omega) W) ra (fun j hj => by unfold peG; rw [if_neg (by omega), if_neg (by omega), if_neg (by omega), if_neg (by omega)]) fr f53
  · rw [hs_fr (g := g) h64 rfl]
    exact ri_person W (fun ok => absurd ok nok) (fun _ => ⟨rfl, INV.same hJ⟩)
theorem b_bridge (hJ : J k c g (NH c)) (h64 : ∀ i, NH c 64 i = nI (g i)) : BOTH E mX11_bridge mX12_bridge [.inl a1, .inl a2] k (NH c) := by
  obtain ⟨⟨W, A, h20⟩, -⟩ := id hJ
  have w2 := W.1.2.2.1
  refine ci_bridge W A (fun ok p q c2 hp hq hpq e1 e2 ra fr f53 => ?_) (fun nok => ?_)
  · rw [hs_fr (g := g) h64 (fr 64 (by omega) (by omega))]
    refine ri_bridge W (fun _ p' q' hp' hq' hpq' e1' e2' => ⟨rfl, ?_⟩) (fun z => absurd ok z)
    rw [e1, ni_eq (by omega) (by omega)] at e1'
    rw [e2, ni_eq (by omega) (by omega)] at e2'
    subst e1' e2'
    have hg12 := ok.2.2
    exact INV.forg hJ (wf_bridge hg12 hp hq hpq W) ra (fun j hj => by unfold brG; rw [nup_ne _ _ (by omega), nup_ne _ _ (by omega), nup_ne _ _ (by omega)]) fr f53
  · rw [hs_fr (g := g) h64 rfl]
    exact ri_bridge W (fun ok => absurd ok nok) (fun _ => ⟨rfl, INV.same hJ⟩)
theorem b_christen (hJ : J k c g (NH c)) (h64 : ∀ i, NH c 64 i = nI (g i)) : BOTH E mX11_christen mX12_christen [.inl a1, .inl a2] k (NH c) := by
  obtain ⟨⟨W, A, h20⟩, -⟩ := id hJ
  have w0 := W.1.1
  have w1 := W.1.2.1
  refine ci_christen W A (fun ok p q c2 hp hq h9 hno e1 e2 ra fr f53 => ?_) (fun nok => ?_)
  · rw [hs_fr (g := g) h64 (fr 64 (by omega) (by omega))]
    refine ri_christen W (fun _ p' q' hp' hq' _ _ e1' e2' => ⟨rfl, ?_⟩) (fun z => absurd ok z)
    rw [e1, ni_eq (by omega) (by omega)] at e1'
    rw [e2, ni_eq (by omega) (by omega)] at e2'
    subst e1' e2'
    exact INV.forg hJ (wf_chr hp hq h9 hno W) ra (fun j hj => ch_off (by omega) (by omega) (by omega)) fr f53
  · rw [hs_fr (g := g) h64 rfl]
    exact ri_christen W (fun ok => absurd ok nok) (fun _ => ⟨rfl, INV.same hJ⟩)
theorem b_take (hk : k < 900000) (hJ : J k c g (NH c)) (h64 : ∀ i, NH c 64 i = nI (g i)) : BOTH E mX11_take mX12_take [.inl a1, .inl a2, .inl a3] k (NH c) := by
  obtain ⟨⟨W, A, h20⟩, -⟩ := id hJ
  have w0 := W.1.1
  have w1 := W.1.2.1
  have w2 := W.1.2.2.1
  refine ci_take (by omega) W A (fun ok p b q c2 hp hb hq hpos h9 hno e1 e2 e3 ra fr f53 => ?_) (fun nok => ?_)
  · rw [hs_fr (g := g) h64 (fr 64 (by omega) (by omega))]
    refine ri_take (by omega) W (fun _ p' b' q' hp' hb' hq' _ _ _ e1' e2' e3' => ⟨rfl, ?_⟩) (fun z => absurd ok z)
    rw [e1, ni_eq (by omega) (by omega)] at e1'
    rw [e2, ni_eq (by omega) (by omega)] at e2'
    rw [e3, ni_eq (by omega) (by omega)] at e3'
    subst e1' e2' e3'
    refine INV.forg hJ (wf_take hp hb hq h9 hno W) ra (fun j hj => ?_) fr f53
    unfold tkG
    have e9 : og (nup g (220 + 20 * b + q) (g (220 + 20 * b + q) - 1)) p 2 = og g p 2 := nup_ne _ _ (by omega)
    rw [com_off (by omega) (by omega) (by omega), nup_ne _ _ (by omega)]
  · rw [hs_fr (g := g) h64 rfl]
    exact ri_take (by omega) W (fun ok => absurd ok nok) (fun _ => ⟨rfl, INV.same hJ⟩)
theorem b_set (hJ : J k c g (NH c)) (h64 : ∀ i, NH c 64 i = nI (g i)) : BOTH E mX11_set mX12_set [.inl a1, .inl a2, .inl a3] k (NH c) := by
  obtain ⟨⟨W, A, h20⟩, -⟩ := id hJ
  have w1 := W.1.2.1
  refine ci_set W A (fun g' c2 hst ra fr f53 => ?_) (fun nok => ?_)
  · rw [hs_fr (g := g) h64 (fr 64 (by omega) (by omega))]
    refine ri_set W (fun g'' hst' => ⟨rfl, ?_⟩) (fun z => absurd hst (z g'))
    have e := stS_det w1 hst hst'
    subst e
    refine INV.forg hJ (wf_set hst W) ra (fun j hj => ?_) fr f53
    rcases hst with ⟨-, q, -, -, rfl⟩ | ⟨-, q, -, -, rfl⟩ | ⟨-, q, r, h1, -, -, -, rfl⟩ | ⟨-, q, r, h1, -, -, -, rfl⟩ <;> exact nup_ne _ _ (by omega)
  · rw [hs_fr (g := g) h64 rfl]
    exact ri_set W (fun g' ok => absurd ok (nok g')) (fun _ => ⟨rfl, INV.same hJ⟩)
theorem dyP_off {p j : Nat} (hp : p < g 1) (W : WF g k) (hj : 860 ≤ j) : (dyP g p).1 j = g j := by
  have w1 := W.1.2.1
  have h9 := (W.p (show p < 8 by omega)).2.2.1
  unfold dyP
  split
  · rfl
  · split
    · exact nup_ne _ _ (by omega)
    · show comG (nup g 5 (lcg (lcg (g 5)))) p _ j = g j
      have e9 : og (nup g 5 (lcg (lcg (g 5)))) p 2 = og g p 2 := og_n5
      rw [com_off (by omega) (by omega) (by omega), nup_ne _ _ (by omega)]
theorem dyK_off {j : Nat} (W : WF g k) (hj : 860 ≤ j) : ∀ p, p ≤ g 1 → (dyK g p).1 j = g j := by
  intro p
  induction p with
  | zero => intro _; rfl
  | succ p ih =>
    intro hp
    obtain ⟨a1, a2, -⟩ := wf_dyK W p (by omega)
    show (dyP (dyK g p).1 p).1 j = g j
    rw [dyP_off (by omega) a1 hj]
    exact ih (by omega)
theorem b_day (hJ : J k c g (NH c)) (h64 : ∀ i, NH c 64 i = nI (g i)) : BOTH E mX11_day mX12_day [] k (NH c) := by
  obtain ⟨⟨W, A, h20⟩, -⟩ := id hJ
  refine ci_day W A (fun h3 c2 ra fr f53 => ?_) (fun h3 => ?_)
  · rw [hs_fr (g := g) h64 (fr 64 (by omega) (by omega))]
    refine ri_day W (fun _ => ⟨rfl, ?_⟩) (fun z => absurd z (by omega))
    have W3 := wf_day3 h3 W
    have e1 : nup g 3 (g 3 + 1) 1 = g 1 := nup_ne _ _ (by omega)
    refine INV.forg hJ (wf_dyK W3 _ (by omega)).1 ra (fun j hj => ?_) fr f53
    rw [dyK_off W3 hj _ (by omega), nup_ne _ _ (by omega)]
  · rw [hs_fr (g := g) h64 rfl]
    exact ri_day W (fun z => absurd z (by omega)) (fun _ => ⟨rfl, INV.same hJ⟩)
theorem b_round (hJ : J k c g (NH c)) (h64 : ∀ i, NH c 64 i = nI (g i)) : BOTH E mX11_round mX12_round [.inl a1] k (NH c) := by
  obtain ⟨⟨W, A, h20⟩, b, d, e, f⟩ := id hJ
  have w2 := W.1.2.2.1
  have w8 := W.1.2.2.2.2.2.2.2.2
  have fin : ∀ (g' : Nat → Nat) (c2 : Nat → Nat → Nat), WF g' k → RA g' c2 → (∀ o, o ≠ 1 → o ≠ 5 → c2 o = c o) → (∀ j, j ≤ 7 ∨ 9 ≤ j ∧ j < 75 ∨ 87 ≤ j → g' j = g j) → INV (k + 1) (hs (NH c2) g') := by
    intro g' c2 W' ra fr hg
    have W2 := W'.mono (Nat.le_succ k)
    have hN : ∀ o, 62 < o → NH c2 o = NH c o := fun o ho => by
      show (fun i => nI (c2 o i)) = fun i => nI (c o i)
      rw [fr o (by omega) (by omega)]
    refine INV.fin hJ (fun _ _ => rfl) W2 ra (by rw [fr 20 (by omega) (by omega)]; exact h20) (fun j hj => hg j (by omega)) (fun o ho => fr o (by omega) (by omega)) (hN 65 (by omega)) (hN 70 (by omega)) (fun j _ => by rw [hN 63 (by omega)]) ?_
    exact un_cg f (Nat.le_succ _) W2 (fun j hj => hg j (by omega)) (by rw [hN 63 (by omega)]) (hN 66 (by omega)) (by rw [fr 53 (by omega) (by omega)]) (fr 54 (by omega) (by omega))
  refine ci_round W A (fun z c2 ra fr => ?_) (fun q c2 hq h8 e1 ra fr => ?_) (fun z nok => ?_)
  · rw [hs_fr (g := g) h64 (fr 64 (by omega) (by omega))]
    refine ri_round W (fun _ => ⟨rfl, fin _ _ (wf_round0 W) ra fr (fun j hj => nup_ne _ _ (by omega))⟩) (fun q' hq' _ e' => ?_) (fun z' => absurd z z')
    rw [z, ni_m1, ni_eq (by omega) (by omega)] at e'
    omega
  · rw [hs_fr (g := g) h64 (fr 64 (by omega) (by omega))]
    refine ri_round W (fun e' => ?_) (fun q' hq' h8' e' => ⟨rfl, ?_⟩) (fun _ z' => absurd ⟨⟨q, hq, e1⟩, h8⟩ z')
    · rw [e1, ni_m1, ni_eq (by omega) (by omega)] at e'
      omega
    · rw [e1, ni_eq (by omega) (by omega)] at e'
      subst e'
      exact fin _ _ (wf_round hq h8 W) ra fr (fun j hj => by unfold rdG; rw [nup_ne _ _ (by omega), nup_ne _ _ (by omega)])
  · rw [hs_fr (g := g) h64 rfl]
    exact ri_round W (fun e' => absurd e' z) (fun q' hq' h8' e' => absurd ⟨⟨q', hq', e'⟩, h8'⟩ nok) (fun _ _ => ⟨rfl, INV.same hJ⟩)
end OPS2
