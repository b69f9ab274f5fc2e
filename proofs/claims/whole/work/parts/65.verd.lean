/-! ===== part 65: the verdicts that are remembered stay right ===== -/
noncomputable def fcV (g : Nat → Nat) (p b n m o s : Nat) : Nat := if s = 1 then g (10 + n) else if s = 2 then g (30 + n) else if s = 3 then m else if s = 4 then o else if s = 5 then likK g p n (g 1) else if s = 6 then b else if s = 7 then g 3 else g (220 + 20 * b + n)
noncomputable def verV (g : Nat → Nat) (lw : Lw) (p b n m o : Nat) : Prop := alw (fun s => nI (fcV g p b n m o s)) lw
/-- g1 is g but for the row of p, and keepers kept of the names in it what they kept -/
def VS (g g1 : Nat → Nat) (p : Nat) : Prop := (∀ j, j < 90 → g1 j = g j) ∧ (∀ q f, q < 8 → q ≠ p → f < 15 → og g1 q f = og g q f) ∧ ∀ i b, i < og g1 p 2 → b < 12 → g1 (220 + 20 * b + og g1 p (5 + i)) = g (220 + 20 * b + og g1 p (5 + i))
section VERD
variable {E : am_E} {d : Nat} {h : am_H} {Q : Int32 → am_H → Prop} {g g0 g1 : Nat → Nat} {c : Nat → Nat → Nat} {t : Nat}
theorem VS.refl (g : Nat → Nat) (p : Nat) : VS g g p := ⟨fun _ _ => rfl, fun _ _ _ _ _ => rfl, fun _ _ _ _ => rfl⟩
theorem has_vs {q p n : Nat} (h : VS g g1 p) (hq : q < 8) (hqp : q ≠ p) (h9 : og g q 2 ≤ 9) : hasN g1 q n ↔ hasN g q n := by
  unfold hasN
  rw [h.2.1 q 2 hq hqp (by omega)]
  constructor
  · rintro ⟨i, hi, e⟩
    exact ⟨i, hi, by rw [← h.2.1 q (5 + i) hq hqp (by omega)]; exact e⟩
  · rintro ⟨i, hi, e⟩
    exact ⟨i, hi, by rw [h.2.1 q (5 + i) hq hqp (by omega)]; exact e⟩
theorem lik_vs {p n : Nat} (h : VS g g1 p) (hW : WF g t) : ∀ k, k ≤ 8 → likK g1 p n k = likK g p n k := by
  intro k
  induction k with
  | zero => intro _; rfl
  | succ k ih =>
    intro hk
    rw [likK, likK, ih (by omega)]
    by_cases e : k = p
    · rw [cif_neg (fun z => z.1 e), cif_neg (fun z => z.1 e)]
    · have hh := has_vs (n := n) h (show k < 8 by omega) e (hW.p (show k < 8 by omega)).2.2.1
      by_cases y : hasN g k n
      · rw [cif_pos ⟨e, hh.mpr y⟩, cif_pos ⟨e, y⟩]
      · rw [cif_neg (fun z => y (hh.mp z.2)), cif_neg (fun z => y z.2)]
theorem ver_vs {lw : Lw} {p b o : Nat} (h : VS g g1 p) (hp : p < 8) (hb : b < 12) (hW : WF g t) (hW1 : WF g1 t) (ho : o < og g1 p 2) : verV g lw p b (og g1 p (5 + o)) (og g1 p 2) o ↔ mayG g1 lw p o b := by
  unfold verV mayG
  have w0 := hW1.1.1
  have w1 := hW.1.2.1
  have hn := (hW1.p hp).2.2.2.2.2.1 o ho
  have e1 : g1 1 = g 1 := h.1 1 (by omega)
  have : (fun s => nI (fcV g p b (og g1 p (5 + o)) (og g1 p 2) o s)) = fun s => nI (fcN g1 p o b s) := by
    funext s
    unfold fcV fcN
    rw [h.1 (10 + _) (by omega), h.1 (30 + _) (by omega), h.1 3 (by omega), h.2.2 o b ho hb, e1, lik_vs h hW _ w1]
  rw [this]
theorem vs_com {p n : Nat} (hp : p < 8) (hm : og g1 p 2 < 9) (h : VS g g1 p) (hk : ∀ j, 218 ≤ j → g1 j = g j) : VS g (comG g1 p n) p ∧ ∀ j, 218 ≤ j → comG g1 p n j = g j := by
  have hoff : ∀ j, 218 ≤ j → comG g1 p n j = g j := fun j hj => by rw [com_off (by omega) hp (by omega)]; exact hk j hj
  refine ⟨⟨fun j hj => ?_, fun q f hq hqp hf => ?_, fun i b hi hb => ?_⟩, hoff⟩
  · rw [com_off (by omega) hp (by omega)]; exact h.1 j hj
  · rw [og_com (by omega) hp hq hf, if_neg hqp]; exact h.2.1 q f hq hqp hf
  · exact hoff _ (by omega)
theorem vs_cmL {p fr : Nat} : ∀ (ch : List Nat) (g1 : Nat → Nat) (lo : Nat), p < g1 1 → g1 1 ≤ 8 → og g1 p 2 + ch.length ≤ 9 → VS g g1 p → (∀ j, 218 ≤ j → g1 j = g j) → VS g (cmL p ch g1) p
  | [], g1, lo, hp, h1, hl, h, hk => h
  | n :: r, g1, lo, hp, h1, hl, h, hk => by
    simp only [List.length_cons] at hl
    obtain ⟨a, b⟩ := vs_com (n := n) (show p < 8 by omega) (by omega) h hk
    have e1 : comG g1 p n 1 = g1 1 := com_off (by omega) (by omega) (by omega)
    have e2 : og (comG g1 p n) p 2 = og g1 p 2 + 1 := by rw [og_com (by omega) (by omega) (by omega) (by omega), if_pos rfl, if_pos rfl]
    exact vs_cmL (fr := fr) r (comG g1 p n) lo (by omega) (by omega) (by omega) a b
theorem vs_st {lw : Lw} {p b : Nat} (hp : p < 8) (hb : b < 12) (hW : WF g1 t) (h : VS g g1 p) (h2 : duG g1 lw p b ≠ 200) : VS g (stG g1 lw p b) p := by
  have hpe := hW.p hp
  have h9 := hpe.2.2.1
  have w0 := hW.1.1
  unfold stG
  split
  · refine ⟨fun j hj => ?_, fun q f hq hqp hf => ?_, fun i b' hi hb' => ?_⟩
    · rw [mv_off hp (by omega)]; exact h.1 j hj
    · rw [og_mv hp hq (by omega), if_neg (fun z => hqp z.1)]; exact h.2.1 q f hq hqp hf
    · rw [og_mv hp hp (by omega), if_neg (by omega)] at hi
      rw [og_mv hp hp (by omega), if_neg (by omega), mv_off hp (by omega)]
      exact h.2.2 i b' hi hb'
  · rename_i hd
    have ho := duG_o h9 hd h2
    generalize duG g1 lw p b = o at ho
    refine ⟨fun j hj => ?_, fun q f hq hqp hf => ?_, fun i b' hi hb' => ?_⟩
    · rw [lv_off hp h9 (by omega), if_neg (by omega)]; exact h.1 j hj
    · rw [og_lv hp hq (by omega) h9, if_neg hqp]; exact h.2.1 q f hq hqp hf
    · rw [og_lv hp hp (by omega) h9, if_pos rfl, if_neg (by omega), if_pos rfl] at hi
      have hne := hpe.2.2.2.2.2.2
      have e5 : og (lvG g1 p b o) p (5 + i) = og g1 p (5 + (if o ≤ i then i + 1 else i)) := by
        rw [og_lv hp hp (by omega) h9, if_pos rfl, if_neg (by omega), if_neg (by omega), if_neg (by omega)]
        by_cases hoi : o ≤ i
        · rw [if_pos (by omega), if_pos hoi]; rfl
        · rw [if_neg (by omega), if_neg hoi]
      rw [e5]
      generalize hk : (if o ≤ i then i + 1 else i) = k
      have hkb : k < og g1 p 2 ∧ k ≠ o := by split at hk <;> omega
      have hnk := hpe.2.2.2.2.2.1 k hkb.1
      have hno := hpe.2.2.2.2.2.1 o ho
      have hdis : og g1 p (5 + k) ≠ og g1 p (5 + o) := by
        rcases Nat.lt_or_gt_of_ne hkb.2 with z | z
        · exact hne k o z ho
        · exact fun e => hne o k z hkb.1 e.symm
      rw [lv_off hp h9 (by omega), if_neg (by omega)]
      exact h.2.2 k b' hkb.1 hb'
theorem vs_wkS {lw : Lw} {p L : Nat} {f : Nat → Nat} (hp : p < 8) (hW : WF g1 t) (h : VS g g1 p) (hf : ∀ i, i < L → f i < g1 2) : ∀ k, k ≤ L → (∀ i, i < k → duG (wkS lw p f g1 i) lw p (f i) ≠ 200) → WF (wkS lw p f g1 k) (t + k) ∧ (∀ j, j < 90 ∨ 460 ≤ j → wkS lw p f g1 k j = g1 j) ∧ VS g (wkS lw p f g1 k) p := by
  intro k
  induction k with
  | zero => intro _ _; exact ⟨hW, fun _ _ => rfl, h⟩
  | succ k ih =>
    intro hk hd
    obtain ⟨a, b, e⟩ := ih (by omega) (fun i hi => hd i (by omega))
    have w2 := hW.1.2.2.1
    have hfk := hf k (by omega)
    have hdk := hd k (by omega)
    have e2 : wkS lw p f g1 k 2 = g1 2 := b 2 (by omega)
    rw [wkS]
    exact ⟨wf_st hp (by omega) a hdk, fun j hj => by rw [st_off hp (by omega) a hdk hj]; exact b j hj, vs_st hp (by omega) a e hdk⟩
theorem CS_lt {f : Nat → Nat} : ∀ (bs : List Nat) (k pl : Nat), CS f bs k → cwG g bs pl → ∀ i, i < bs.length → f (k + i) < g 2
  | [], _, _, _, _, i, hi => absurd hi (by simp)
  | b :: r, k, pl, hc, hw, i, hi => by
    obtain ⟨h1, h2⟩ := hc
    cases i with
    | zero => rw [Nat.add_zero, h1]; exact hw.1
    | succ i =>
      simp only [List.length_cons] at hi
      have := CS_lt r (k + 1) _ h2 hw.2.2 i (by omega)
      rw [show k + (i + 1) = k + 1 + i by omega]
      exact this
end VERD
