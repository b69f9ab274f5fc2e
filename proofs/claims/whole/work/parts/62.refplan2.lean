/-! ===== part 62: the reference's plan ===== -/
/-- whether one gets round with the names of the list -/
def rdOK (g : Nat → Nat) (lw : Lw) (p : Nat) (ch : List Nat) : Prop := (wkG lw p (rbF g (g 8) 0) (cmL p ch g)).isSome = true
/-- the first row of r more names behind ch, all from fr on -/
noncomputable def plS (g : Nat → Nat) (lw : Lw) (p : Nat) : Nat → List Nat → Nat → Option (List Nat)
  | 0, ch, _ => cif (rdOK g lw p ch) (some ch) none
  | r + 1, ch, fr => (List.range (g 0 - fr)).findSome? (fun k => cif (hasN g p (fr + k)) none (plS g lw p r (ch ++ [fr + k]) (fr + k + 1)))
section RPL2
variable {E : am_E} {d : Nat} {h : am_H} {Q : Int32 → am_H → Prop} {g g0 : Nat → Nat} {c : Nat → Nat → Nat} {t : Nat}
theorem has_com {p n m : Nat} (hp : p < 8) (hm : og g p 2 < 9) : hasN (comG g p n) p m ↔ hasN g p m ∨ m = n := by
  unfold hasN
  have e2 : og (comG g p n) p 2 = og g p 2 + 1 := by rw [og_com (by omega) hp hp (by omega), if_pos rfl, if_pos rfl]
  have e5 : ∀ i, i ≤ og g p 2 → og (comG g p n) p (5 + i) = if i = og g p 2 then n else og g p (5 + i) := by
    intro i hi
    rw [og_com (by omega) hp hp (by omega), if_pos rfl, if_neg (by omega)]
    by_cases e : i = og g p 2
    · rw [if_pos (by omega), if_pos e]
    · rw [if_neg (by omega), if_neg e]
  rw [e2]
  constructor
  · rintro ⟨i, hi, h1⟩
    rw [e5 i (by omega)] at h1
    by_cases e : i = og g p 2
    · rw [if_pos e] at h1; exact Or.inr h1.symm
    · rw [if_neg e] at h1; exact Or.inl ⟨i, by omega, h1⟩
  · rintro (⟨i, hi, h1⟩ | h1)
    · exact ⟨i, by omega, by rw [e5 i (by omega), if_neg (by omega)]; exact h1⟩
    · exact ⟨og g p 2, by omega, by rw [e5 _ (by omega), if_pos rfl]; exact h1.symm⟩
theorem okC_com {p n fr : Nat} (hp : p < 8) (hm : og g p 2 < 9) (h0 : comG g p n 0 = g 0) : ∀ (r : List Nat) (lo : Nat), n < lo → okC g p fr r lo → okC (comG g p n) p fr r lo
  | [], _, _, h => h
  | m :: r, lo, hl, h => by
    obtain ⟨h1, h2, h3, h4⟩ := h
    refine ⟨h1, by rw [h0]; exact h2, ?_, okC_com hp hm h0 r (m + 1) (by omega) h4⟩
    rw [has_com hp hm]
    rintro (q | q)
    · exact h3 q
    · omega
/-- what comes of the names one is given -/
theorem cmL_ok {p fr : Nat} : ∀ (ch : List Nat) (g : Nat → Nat) (lo : Nat), p < g 1 → WF g t → og g p 2 + ch.length ≤ 9 → okC g p fr ch lo → WF (cmL p ch g) t ∧ (∀ j, j < 90 ∨ 218 ≤ j → cmL p ch g j = g j) ∧ og (cmL p ch g) p 0 = og g p 0 ∧ og (cmL p ch g) p 2 = og g p 2 + ch.length
  | [], g, lo, hp, hW, hl, hc => ⟨hW, fun _ _ => rfl, rfl, rfl⟩
  | n :: r, g, lo, hp, hW, hl, hc => by
    have w1 := hW.1.2.1
    simp only [List.length_cons] at hl
    obtain ⟨h1, h2, h3, h4⟩ := hc
    have hW' := wf_com hp h2 (by omega) h3 hW
    have ho := fun (j : Nat) (hj : j < 90 ∨ 218 ≤ j) => com_off (g := g) (n := n) (by omega) (show p < 8 by omega) hj
    have e1 : comG g p n 1 = g 1 := ho 1 (by omega)
    have e2 : og (comG g p n) p 2 = og g p 2 + 1 := by rw [og_com (by omega) (by omega) (by omega) (by omega), if_pos rfl, if_pos rfl]
    have e00 : og (comG g p n) p 0 = og g p 0 := by rw [og_com (by omega) (by omega) (by omega) (by omega), if_pos rfl, if_neg (by omega), if_neg (by omega)]
    have := cmL_ok r (comG g p n) (n + 1) (by omega) hW' (by omega) (okC_com (by omega) (by omega) (ho 0 (by omega)) r (n + 1) (by omega) h4)
    obtain ⟨i1, i2, i3, i4⟩ := this
    refine ⟨i1, fun j hj => ?_, ?_, ?_⟩
    · rw [cmL, i2 j hj]; exact ho j hj
    · rw [cmL, i3, e00]
    · rw [cmL, i4, e2]; simp only [List.length_cons]; omega
theorem okC_snoc {p fr n : Nat} : ∀ (ch : List Nat) (lo : Nat), okC g p fr ch lo → fr ≤ n → n < g 0 → ¬ hasN g p n → okC g p (n + 1) (ch ++ [n]) lo
  | [], lo, h, h1, h2, h3 => ⟨Nat.le_trans h h1, h2, h3, Nat.le_refl _⟩
  | m :: r, lo, h, h1, h2, h3 => ⟨h.1, h.2.1, h.2.2.1, okC_snoc r (m + 1) h.2.2.2 h1 h2 h3⟩
theorem WA_snoc {A : Nat → Int32} {n : Nat} : ∀ (ch : List Nat) (k : Nat), WA A ch k → A (k + ch.length) = nI n → WA A (ch ++ [n]) k
  | [], _, _, h => ⟨h, trivial⟩
  | m :: r, k, h, h1 => ⟨h.1, WA_snoc r (k + 1) h.2 (by rw [show k + 1 + r.length = k + (m :: r).length by simp; omega]; exact h1)⟩
theorem WA_upd {A : Nat → Int32} {x : Int32} {q : Nat} : ∀ (ch : List Nat) (k : Nat), k + ch.length ≤ q → WA A ch k → WA (upd A q x) ch k
  | [], _, _, _ => trivial
  | m :: r, k, hl, h => by
    simp only [List.length_cons] at hl
    refine ⟨?_, WA_upd r (k + 1) (by omega) h.2⟩
    simp only [upd, if_neg (show ¬ k = q by omega)]
    exact h.1
theorem r_leaf {lw : Lw} {p n fr : Nat} {ch : List Nat} {v5 : Option am_V} (hn : ch.length = n) (hp : p < g 1) (hW : WF g t) (hL : LRl g lw 0 0) (hok : LOK lw) (hcw : cwG g (rbF g (g 8) 0) (og g p 0)) (h9 : og g p 2 + n ≤ 9) (hc : okC g p fr ch 0) (hwa : WA (h 75) ch 0) {i : Nat} (hi : i = n) (hi3 : n ≤ 3) {vf : Option am_V}
    (h1 : rdOK g lw p ch → ∀ h' : am_H, (∀ q, q ≠ 67 → q ≠ 71 → q ≠ 72 → h' q = h q) → Q (nI 1) (hs h' g)) (h0 : ¬ rdOK g lw p ch → ∀ h' : am_H, (∀ q, q ≠ 67 → q ≠ 71 → q ≠ 72 → h' q = h q) → Q (nI 0) (hs h' g)) :
    am_R tT E (d + 5) mX12_isPlanned Q 0 [some (.inr 63), some (.inl (nI p)), some (.inl (nI i)), some (.inl (nI n)), vf, v5] [] (hs h g) := by
  have w1 := hW.1.2.1
  have w2 := hW.1.2.2.1
  have w8 := hW.1.2.2.2.2.2.2.2.2
  obtain ⟨k1, k2, k3, k4⟩ := cmL_ok (fr := fr) ch g 0 hp hW (by omega) hc
  subst hi
  refine am_goS gX12_isPlanned [13, 56] 400 ?_
  simp only [am_eqs, am_eqk, am_eqv, lX12_isPlanned_0, lX12_isPlanned_1, lX12_isPlanned_2, fx_ref, ↓reduceIte, List.mem_cons, List.not_mem_nil, or_false, or_self, false_or, true_and, and_true, Nat.reduceEqDiff, reduceCtorEq, List.length_cons, List.length_nil, Nat.reduceAdd, Nat.reduceLeDiff, Nat.reduceSub, Nat.reduceLT, Nat.zero_le, Nat.zero_add, forall_const, not_true_eq_false, not_false_eq_true, false_implies, true_implies, implies_true, Nat.zero_lt_succ, am_z0, am_z1]
  refine r_laysAside (by omega) (fun h2 f1 f2 _ => ?_)
  simp only [Nat.mul_zero, Nat.zero_add] at f2
  have fin : am_R tT E (d + 5) mX12_isPlanned Q 37 [some (.inr 63), some (.inl (nI p)), some (.inl (nI i)), some (.inl (nI i)), vf, some (.inl (nI i))] [] (hs h2 (cmL p ch g)) := by
    have e8 : cmL p ch g 8 = g 8 := k2 8 (by omega)
    have erb : rbF (cmL p ch g) (cmL p ch g 8) 0 = rbF g (g 8) 0 := by rw [e8]; exact rbF_congr (fun j hj => k2 j (by omega)) _ _ (by omega)
    have hcw' : cwG (cmL p ch g) (rbF (cmL p ch g) (cmL p ch g 8) 0) (og (cmL p ch g) p 0) := by
      rw [erb, k3]
      exact cw_congr (by omega) (fun j hj => k2 j (by omega)) _ _ hcw
    refine am_goS gX12_isPlanned [] 400 ?_
    simp only [am_eqs, am_eqk, am_eqv, lX12_isPlanned_0, lX12_isPlanned_1, lX12_isPlanned_2, fx_ref, ↓reduceIte, List.mem_cons, List.not_mem_nil, or_false, or_self, false_or, true_and, and_true, Nat.reduceEqDiff, reduceCtorEq, List.length_cons, List.length_nil, Nat.reduceAdd, Nat.reduceLeDiff, Nat.reduceSub, Nat.reduceLT, Nat.zero_le, Nat.zero_add, forall_const, not_true_eq_false, not_false_eq_true, false_implies, true_implies, implies_true, Nat.zero_lt_succ, am_z0, am_z1]
    refine r_getsRound (by rw [k2 1 (by omega)]; exact hp) k1 (LRl_congr (fun j hj => k2 j (by omega)) lw 0 0 hL) hok hcw' (fun g3 h3 s1 s2 => ?_)
    rw [erb]
    have hrs : resM g3 g = g := by
      funext j
      unfold resM
      split
      · rfl
      · rw [s1 j (by omega)]; exact k2 j (by omega)
    have hl67 : ∀ k, k < 370 → h3 67 (370 * 0 + k) = nI (g (90 + k)) := by
      intro k hk
      rw [s2 67 (by omega) (by omega), Nat.mul_zero, Nat.zero_add]
      exact f2 k hk
    have hfr : ∀ q, q ≠ 67 → q ≠ 71 → q ≠ 72 → h3 q = h q := fun q x67 x71 x72 => by rw [s2 q x71 x72]; exact f1 q x67
    refine ⟨fun z => ?_, fun z => ?_⟩
    · refine r_putsBack (g0 := g) (by omega) hl67 ?_
      rw [hrs]
      exact ⟨Or.inr rfl, h1 z h3 hfr⟩
    · refine r_putsBack (g0 := g) (by omega) hl67 ?_
      rw [hrs]
      exact ⟨Or.inl rfl, h0 (fun q => by unfold rdOK at q; rw [z] at q; cases q) h3 hfr⟩
  have loop : ∀ (r : List Nat) (k : Nat) (g1 : Nat → Nat), WA (h 75) r k → k + r.length = i → p < g1 1 → og g1 p 2 + r.length ≤ 9 → g1 1 ≤ 8 → cmL p r g1 = cmL p ch g → am_R tT E (d + 5) mX12_isPlanned Q 13 [some (.inr 63), some (.inl (nI p)), some (.inl (nI i)), some (.inl (nI i)), vf, some (.inl (nI k))] [] (hs h2 g1) := by
    intro r
    induction r with
    | nil =>
      intro k g1 hw hk hp1 h91 h11 hcm
      have e : k = i := by simpa using hk
      subst e
      have : g1 = cmL p ch g := hcm
      subst this
      refine am_goS gX12_isPlanned [13, 37] 400 ?_
      simp only [am_eqs, am_eqk, am_eqv, lX12_isPlanned_0, lX12_isPlanned_1, lX12_isPlanned_2, fx_ref, ↓reduceIte, List.mem_cons, List.not_mem_nil, or_false, or_self, false_or, true_and, and_true, Nat.reduceEqDiff, reduceCtorEq, List.length_cons, List.length_nil, Nat.reduceAdd, Nat.reduceLeDiff, Nat.reduceSub, Nat.reduceLT, Nat.zero_le, Nat.zero_add, forall_const, not_true_eq_false, not_false_eq_true, false_implies, true_implies, implies_true, Nat.zero_lt_succ, am_z0, am_z1]
      simp (disch := omega) only [hs_at, hs_put, hs_63, NH_at, NH_put, NH_cpy, ni_add, ni_mul, ni_clamp, ni_in, ni_eq, ni_lt, ni_le, ni_sub, Nat.reduceAdd, Nat.reduceMul, Nat.reduceSub, eq_self, true_implies, not_true_eq_false, false_implies, and_true, true_and, not_false_eq_true, Nat.reduceEqDiff, Nat.reduceLeDiff, Nat.reduceLT, implies_true, ite_true, ite_false]
      exact ⟨fun _ => fin, fun z => absurd (Nat.le_refl _) z⟩
    | cons m r ih =>
      intro k g1 hw hk hp1 h91 h11 hcm
      simp only [List.length_cons] at hk h91
      have e75 : h2 75 k = nI m := by rw [f1 75 (by omega)]; exact hw.1
      refine am_goS gX12_isPlanned [13, 37] 400 ?_
      simp only [am_eqs, am_eqk, am_eqv, lX12_isPlanned_0, lX12_isPlanned_1, lX12_isPlanned_2, fx_ref, ↓reduceIte, List.mem_cons, List.not_mem_nil, or_false, or_self, false_or, true_and, and_true, Nat.reduceEqDiff, reduceCtorEq, List.length_cons, List.length_nil, Nat.reduceAdd, Nat.reduceLeDiff, Nat.reduceSub, Nat.reduceLT, Nat.zero_le, Nat.zero_add, forall_const, not_true_eq_false, not_false_eq_true, false_implies, true_implies, implies_true, Nat.zero_lt_succ, am_z0, am_z1]
      simp (disch := omega) only [hs_at, hs_put, hs_63, NH_at, NH_put, NH_cpy, ni_add, ni_mul, ni_clamp, ni_in, ni_eq, ni_lt, ni_le, ni_sub, Nat.reduceAdd, Nat.reduceMul, Nat.reduceSub, eq_self, true_implies, not_true_eq_false, false_implies, and_true, true_and, not_false_eq_true, Nat.reduceEqDiff, Nat.reduceLeDiff, Nat.reduceLT, implies_true, ite_true, ite_false, hs_off, e75]
      refine ⟨fun z => absurd z (by omega), fun _ => ⟨by omega, ?_⟩⟩
      refine r_comes (by omega) (by omega) ?_
      refine ih (k + 1) _ hw.2 (by omega) ?_ ?_ ?_ hcm
      · rw [com_off (by omega) (by omega) (by omega)]; exact hp1
      · rw [og_com (by omega) (by omega) (by omega) (by omega), if_pos rfl, if_pos rfl]; omega
      · rw [com_off (by omega) (by omega) (by omega)]; exact h11
  exact loop ch 0 g hwa (by omega) hp (by omega) w1 rfl
end RPL2
