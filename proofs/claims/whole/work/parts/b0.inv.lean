/-! ===== part b0: what holds between the calls ===== -/
def LWJ (c : Nat → Nat → Nat) (g : Nat → Nat) : Prop := ∃ lw, LRl g lw 0 0 ∧ LC c lw ∧ LOK lw
def TPJ (c : Nat → Nat → Nat) (h : am_H) : Prop := ∃ n, n ≤ 400 ∧ h 63 13 = nI n ∧ c 46 0 = n ∧ (∀ j, j < n → h 70 j = nI (c 50 j) ∧ c 50 j < 256) ∧ (∃ v, v ≤ 9999 ∧ h 63 17 = nI v) ∧ h 63 20 = nI (c 46 1) ∧ h 63 22 = nI (c 46 2)
def IMJ (k : Nat) (c : Nat → Nat → Nat) (h : am_H) : Prop := ∃ hi, hi ≤ 1 ∧ h 63 5 = nI hi ∧ c 0 2 = hi ∧ (hi = 1 → ∃ gk lw, (∀ j, j < 1750 → h 65 j = nI (gk j)) ∧ WF gk k ∧ RA gk (shW c) ∧ LRl gk lw 0 0 ∧ LC (shW c) lw ∧ LOK lw)
def UNJ (k : Nat) (c : Nat → Nat → Nat) (g : Nat → Nat) (h : am_H) : Prop := ∃ (m : Nat) (S : Nat → Nat → Nat), m ≤ 8 ∧ c 53 0 = m ∧ h 63 4 = nI m ∧ ∀ i, i < m → WF (unG g (S i)) k ∧ h 66 (371 * i) = nI (S i 4) ∧ (∀ j, j < 370 → h 66 (371 * i + 1 + j) = nI (S i (90 + j))) ∧ ST1 (unG g (S i)) (if i + 1 = m then g else unG g (S (i + 1))) (fun f => c 54 (6 * i + f))
def J (k : Nat) (c : Nat → Nat → Nat) (g : Nat → Nat) (h : am_H) : Prop := (WF g k ∧ RA g c ∧ c 20 3 = 0) ∧ LWJ c g ∧ TPJ c h ∧ IMJ k c h ∧ UNJ k c g h
def INV (k : Nat) (h : am_H) : Prop := ∃ (c : Nat → Nat → Nat) (g : Nat → Nat), (∀ o, o < 63 → h o = NH c o) ∧ h 64 = (fun i => nI (g i)) ∧ J k c g h
section INVS
variable {h : am_H} {g g' : Nat → Nat} {c c' : Nat → Nat → Nat} {k k' : Nat}
theorem lw_cg (hL : LWJ c g) (hg : ∀ j, 860 ≤ j → g' j = g j) (h17 : c' 17 = c 17) (h18 : c' 18 = c 18) : LWJ c' g' := by
  obtain ⟨lw, a, b, e⟩ := hL
  refine ⟨lw, LRl_congr hg lw 0 0 a, ?_, e⟩
  unfold LC at *
  rw [h17, h18]
  exact b
theorem tp_cg {h' : am_H} (hT : TPJ c h) (hs : ∀ j, j = 13 ∨ j = 17 ∨ j = 20 ∨ j = 22 → h' 63 j = h 63 j) (h70 : h' 70 = h 70) (h46 : ∀ j, j = 0 ∨ j = 1 ∨ j = 2 → c' 46 j = c 46 j) (h50 : c' 50 = c 50) : TPJ c' h' := by
  obtain ⟨n, a1, a2, a3, a4, ⟨v, a5, a6⟩, a7, a8⟩ := hT
  exact ⟨n, a1, by rw [hs 13 (by omega)]; exact a2, by rw [h46 0 (by omega)]; exact a3, by rw [h70, h50]; exact a4, ⟨v, a5, by rw [hs 17 (by omega)]; exact a6⟩, by rw [hs 20 (by omega), h46 1 (by omega)]; exact a7, by rw [hs 22 (by omega), h46 2 (by omega)]; exact a8⟩
theorem im_cg {h' : am_H} (hI : IMJ k c h) (hk : k ≤ k') (h5 : h' 63 5 = h 63 5) (h65 : h' 65 = h 65) (h0 : c' 0 2 = c 0 2) (hc : ∀ o, 27 ≤ o → o ≤ 44 → c' o = c o) : IMJ k' c' h' := by
  obtain ⟨hi, a1, a2, a3, a4⟩ := hI
  refine ⟨hi, a1, by rw [h5]; exact a2, by rw [h0]; exact a3, fun z => ?_⟩
  obtain ⟨gk, lw, b1, b2, b3, b4, b5, b6⟩ := a4 z
  refine ⟨gk, lw, by rw [h65]; exact b1, b2.mono hk, ra_cell b3 (fun o x y => hc _ (by omega) (by omega)), b4, ?_, b6⟩
  unfold LC shW at *
  rw [hc 43 (by omega) (by omega), hc 44 (by omega) (by omega)]
  exact b5
theorem lv_cg {G0 G0' : Nat → Nat} {p b o j : Nat} (hp : p < 8) (hb : b < 12) (h9 : og G0 p 2 ≤ 9) (ho : o < og G0 p 2) (hn : og G0 p (5 + o) < 20) (h0 : ∀ j, j = 1 ∨ j = 2 ∨ j = 4 ∨ 50 ≤ j ∧ j < 74 ∨ 90 ≤ j ∧ j < 460 → G0' j = G0 j) (hj : j = 4 ∨ 90 ≤ j ∧ j < 460) : lvG G0' p b o j = lvG G0 p b o j := by
  have hog : ∀ q f, q < 8 → f < 16 → og G0' q f = og G0 q f := fun q f hq hf => h0 _ (by omega)
  by_cases z : 90 ≤ j ∧ j < 218
  · obtain ⟨q, f, hq, hf, rfl⟩ : ∃ q f, q < 8 ∧ f < 16 ∧ j = 90 + 16 * q + f := ⟨(j - 90) / 16, (j - 90) % 16, by omega, by omega, by omega⟩
    show og (lvG G0' p b o) q f = og (lvG G0 p b o) q f
    rw [og_lv hp hq hf h9, og_lv hp hq hf (by rw [hog p 2 hp (by omega)]; exact h9), hog p 2 hp (by omega)]
    have e0 := hog p 0 hp (by omega)
    have ef := hog p f hp hf
    have eq := hog q f hq hf
    have e4 := hog p 4 hp (by omega)
    have eo := hog p (5 + o) hp (by omega)
    have eoth : oth G0' b (og G0' p 0) = oth G0 b (og G0 p 0) := by rw [e0]; exact oth_congr (h0 _ (by omega)) (h0 _ (by omega))
    by_cases hqp : q = p
    · rw [if_pos hqp, if_pos hqp, eoth, e4, eo, ef]
      by_cases hs : 5 + o ≤ f ∧ f < 5 + (og G0 p 2 - 1)
      · rw [if_pos hs, if_pos hs, hog p (f + 1) hp (by omega)]
      · rw [if_neg hs, if_neg hs]
    · rw [if_neg hqp, if_neg hqp, eq]
  · have h9' : og G0' p 2 ≤ 9 := by rw [hog p 2 hp (by omega)]; exact h9
    rw [lv_off hp h9 (by omega), lv_off hp h9' (by omega), hog p (5 + o) hp (by omega), h0 j (by omega)]
theorem wr_at {p b n j : Nat} (hj : 90 ≤ j ∧ j < 460) : wrG g p b n j = g j := by
  unfold wrG
  split
  · rfl
  · rw [nup_ne _ _ (by omega), nup_ne _ _ (by omega), nup_ne _ _ (by omega), nup_ne _ _ (by omega), nup_ne _ _ (by omega)]
theorem wr_4 {p b n : Nat} : wrG g p b n 4 = if g 4 = 100 then 100 else g 4 + 1 := by
  unfold wrG
  split
  · rename_i z; exact z
  · rw [nup_self]
theorem ST1_cg {G0 G1 G0' G1' : Nat → Nat} {e : Nat → Nat} {t : Nat} (hW : WF G0 t) (h0 : ∀ j, j = 1 ∨ j = 2 ∨ j = 4 ∨ 50 ≤ j ∧ j < 74 ∨ 90 ≤ j ∧ j < 460 → G0' j = G0 j) (h1 : eqM G1' G1) (h : ST1 G0 G1 e) : ST1 G0' G1' e := by
  have w0 := hW.1.1
  have w1 := hW.1.2.1
  have w2 := hW.1.2.2.1
  obtain ⟨p, b, hp, hb, a1, a2, a3, a4, a5⟩ := h
  have hpe := hW.p (show p < 8 by omega)
  have h9 := hpe.2.2.1
  have hog : ∀ f, f < 16 → og G0' p f = og G0 p f := fun f hf => h0 _ (by omega)
  refine ⟨p, b, by rw [h0 1 (by omega)]; exact hp, by rw [h0 2 (by omega)]; exact hb, a1, a2, ?_, by rw [hog 4 (by omega)]; exact a4, ?_⟩
  · unfold tou at *
    rw [h0 _ (by omega), h0 _ (by omega), hog 0 (by omega)]
    exact a3
  · rcases a5 with ⟨b1, b2, b3⟩ | ⟨o, b1, b2, b3, b4, b5⟩
    · refine Or.inl ⟨b1, b2, fun j hj => ?_⟩
      rw [h1 j hj, b3 j hj]
      unfold mvG
      rw [nup_app, nup_app, hog 0 (by omega), oth_congr (h0 _ (by omega)) (h0 _ (by omega)), h0 j (by omega)]
    · have hn := hpe.2.2.2.2.2.1 o b1
      refine Or.inr ⟨o, by rw [hog 2 (by omega)]; exact b1, b2, by rw [hog _ (by omega)]; exact b3, by rw [h0 4 (by omega)]; exact b4, fun j hj => ?_⟩
      rw [h1 j hj, b5 j hj, hog _ (by omega)]
      have hl := fun j hj => lv_cg (j := j) (show p < 8 by omega) (show b < 12 by omega) h9 b1 (by omega) h0 hj
      by_cases z : j = 4
      · subst z
        rw [wr_4, wr_4, hl 4 (Or.inl rfl)]
      · rw [wr_at (by omega), wr_at (by omega), hl j hj]
theorem wf_unc {S : Nat → Nat} (hW : WF (unG g S) k) (hW' : WF g' k') (hk : k ≤ k') (hg : ∀ j, j ≤ 4 ∨ 10 ≤ j ∧ j < 75 ∨ 90 ≤ j ∧ j < 460 → g' j = g j) : WF (unG g' S) k' := by
  have hin : ∀ j, j = 4 ∨ 90 ≤ j ∧ j < 460 → unG g' S j = unG g S j := fun j hj => by
    unfold unG
    by_cases z : j = 4
    · rw [if_pos z, if_pos z]
    · rw [if_neg z, if_neg z, if_pos (by omega), if_pos (by omega)]
  have hout : ∀ (q : Nat → Nat) j, j ≠ 4 → (j < 90 ∨ 460 ≤ j) → unG q S j = q j := fun q j h1 h2 => by unfold unG; rw [if_neg h1, if_neg (by omega)]
  obtain ⟨⟨x0, x1, x2, x3, x4, x5⟩, a2, a3, a4, a5, a6, a7, a8⟩ := hW
  obtain ⟨⟨y0, y1, y2, y3, y4, y5⟩, b2, b3, b4, b5, b6, b7, b8⟩ := hW'
  have e2 : unG g' S 2 = unG g S 2 := by rw [hout _ 2 (by omega) (by omega), hout _ 2 (by omega) (by omega), hg 2 (by omega)]
  have e0 : unG g' S 0 = unG g S 0 := by rw [hout _ 0 (by omega) (by omega), hout _ 0 (by omega) (by omega), hg 0 (by omega)]
  refine ⟨⟨?_, ?_, ?_, ?_, ?_, ?_⟩, fun n hn => ?_, fun b hb => ?_, fun b hb => ?_, fun j hj => ?_, fun p hp => ?_, fun b n hb hn => ?_, fun b n hb1 hb hn => ?_⟩
  · rw [hout _ 0 (by omega) (by omega)]; exact y0
  · rw [hout _ 1 (by omega) (by omega)]; exact y1
  · rw [hout _ 2 (by omega) (by omega)]; exact y2
  · rw [hout _ 3 (by omega) (by omega)]; exact y3
  · rw [hin 4 (by omega)]; exact x4
  · rw [hout _ 5 (by omega) (by omega), hout _ 6 (by omega) (by omega), hout _ 7 (by omega) (by omega), hout _ 8 (by omega) (by omega)]; exact y5
  · rw [hout _ _ (by omega) (by omega), hout _ _ (by omega) (by omega)]; exact b2 n hn
  · rw [hout _ _ (by omega) (by omega), hout _ _ (by omega) (by omega)]; exact b3 b hb
  · rw [hout _ 2 (by omega) (by omega)] at hb
    rw [hout _ _ (by omega) (by omega), hout _ _ (by omega) (by omega)]; exact b4 b hb
  · rw [hout _ 8 (by omega) (by omega)] at hj
    have h8 := y5.2.2.2
    rw [hout _ _ (by omega) (by omega), hout _ 2 (by omega) (by omega)]; exact b5 j hj
  · have hq := a6 p hp
    have ho : ∀ f, f < 16 → og (unG g' S) p f = og (unG g S) p f := fun f hf => hin _ (by omega)
    obtain ⟨p0, p1, p2, p3, p4, p5, p6⟩ := hq
    refine ⟨by rw [ho 0 (by omega)]; exact p0, by rw [ho 1 (by omega)]; exact p1, by rw [ho 2 (by omega)]; exact p2, by rw [ho 3 (by omega), e0]; exact p3, by rw [ho 4 (by omega), e0]; exact p4, fun i hi => ?_, fun i j hij hj => ?_⟩
    · rw [ho 2 (by omega)] at hi
      rw [ho _ (by omega), e0]; exact p5 i hi
    · rw [ho 2 (by omega)] at hj
      rw [ho _ (by omega), ho _ (by omega)]; exact p6 i j hij hj
  · rw [hin _ (by omega)]; exact Nat.le_trans (a7 b n hb hn) hk
  · rw [e2] at hb1
    rw [hin _ (by omega)]; exact a8 b n hb1 hb hn
theorem un_cg {h' : am_H} (hU : UNJ k c g h) (hk : k ≤ k') (hW' : WF g' k') (hg : ∀ j, j ≤ 4 ∨ 10 ≤ j ∧ j < 75 ∨ 90 ≤ j ∧ j < 460 → g' j = g j) (h4 : h' 63 4 = h 63 4) (h66 : h' 66 = h 66) (h53 : c' 53 0 = c 53 0) (h54 : c' 54 = c 54) : UNJ k' c' g' h' := by
  obtain ⟨m, S, hm, a1, a2, a3⟩ := hU
  refine ⟨m, S, hm, by rw [h53]; exact a1, by rw [h4]; exact a2, fun i hi => ?_⟩
  obtain ⟨b1, b2, b3, b4⟩ := a3 i hi
  refine ⟨wf_unc b1 hW' hk hg, by rw [h66]; exact b2, by rw [h66]; exact b3, ?_⟩
  rw [h54]
  have hu : ∀ (S : Nat → Nat) j, j = 1 ∨ j = 2 ∨ j = 4 ∨ 50 ≤ j ∧ j < 74 ∨ 90 ≤ j ∧ j < 460 → unG g' S j = unG g S j := fun S j hj => by
    unfold unG
    split
    · rfl
    · split
      · rfl
      · exact hg j (by omega)
  refine ST1_cg b1 (hu (S i)) (fun j hj => ?_) b4
  split
  · exact hg j (by omega)
  · exact hu _ j (by omega)
theorem un_0 {h' : am_H} (h4 : h' 63 4 = nI 0) (h53 : c' 53 0 = 0) : UNJ k c' g h' := ⟨0, fun _ _ => 0, by omega, h53, h4, fun i hi => absurd hi (by omega)⟩
theorem ra_cg (hA : RA g c) (hm9 : ∀ q, q < 8 → og g q 2 ≤ 9) (hg : ∀ j, j < 860 → g' j = g j) : RA g' c := by
  refine ra_peo hA (rw_congr hA.1 (fun j hj => hg j (by omega)) rfl rfl rfl rfl rfl rfl rfl) hm9 (fun j hj => hg j (by omega)) (fun _ _ _ => rfl) rfl
end INVS
