/-! ===== part 42: the reference's crossing ===== -/
section RCR
variable {E : am_E} {d : Nat} {h : am_H} {Q : Int32 → am_H → Prop} {g : Nat → Nat} {c : Nat → Nat → Nat} {t : Nat}
noncomputable def duF (g : Nat → Nat) (lw : Lw) (p b : Nat) : Nat → Nat → Nat
  | 0, _ => 200
  | r + 1, o => cif (mayG g lw p o b) o (duF g lw p b r (o + 1))
/-- what is due: 100 nothing, 200 one is stuck, else the place in the row -/
noncomputable def duG (g : Nat → Nat) (lw : Lw) (p b : Nat) : Nat := if letO g p ≤ g 7 then 100 else duF g lw p b (og g p 2) 0
theorem duF_cases (g : Nat → Nat) (lw : Lw) (p b : Nat) : ∀ r o, duF g lw p b r o = 200 ∨ (o ≤ duF g lw p b r o ∧ duF g lw p b r o < o + r) := by
  intro r
  induction r with
  | zero => intro o; exact Or.inl rfl
  | succ r ih =>
    intro o
    by_cases hc : mayG g lw p o b
    · rw [duF, cif_pos hc]; right; omega
    · rw [duF, cif_neg hc]
      rcases ih (o + 1) with e | e
      · exact Or.inl e
      · right; omega
theorem duG_cases (g : Nat → Nat) (lw : Lw) (p b : Nat) : duG g lw p b = 100 ∨ duG g lw p b = 200 ∨ duG g lw p b < og g p 2 := by
  unfold duG
  split
  · exact Or.inl rfl
  · rcases duF_cases g lw p b (og g p 2) 0 with e | e
    · exact Or.inr (Or.inl e)
    · right; right; omega
def mvG (g : Nat → Nat) (p b : Nat) : Nat → Nat := nup g (90 + 16 * p + 0) (oth g b (og g p 0))
/-- the name at the place o of the row left at the bridge b -/
def lvG (g : Nat → Nat) (p b o : Nat) : Nat → Nat := fun j =>
  if j = 90 + 16 * p then oth g b (og g p 0) else if j = 92 + 16 * p then og g p 2 - 1 else if j = 94 + 16 * p then og g p 4 ||| 1 <<< og g p (5 + o)
  else if j = 220 + 20 * b + og g p (5 + o) then g j + 1 else if 95 + 16 * p + o ≤ j ∧ j < 95 + 16 * p + (og g p 2 - 1) then g (j + 1) else g j
theorem r_crosses {lw : Lw} {p b : Nat} (hp : p < g 1) (hb : b < g 2) (htou : tou g b (og g p 0)) (hW : WF g t) (hL : LRl g lw 0 0) (hok : LOK lw)
    (hF : duG g lw p b = 100 → Q (nI 100) (hs h (mvG g p b))) (hB : duG g lw p b = 200 → ∀ h' : am_H, (∀ q, q ≠ 71 → q ≠ 72 → h' q = h q) → Q (-2) (hs h' g))
    (hO : ∀ o, o < og g p 2 → duG g lw p b = o → ∀ h' : am_H, (∀ q, q ≠ 71 → q ≠ 72 → h' q = h q) → Q (nI (og g p (5 + o))) (hs h' (lvG g p b o))) : am_C tT E (d + 3) mX12_crosses [.inr 63, .inl (nI p), .inl (nI b)] (hs h g) Q := by
  have hW2 := hW
  obtain ⟨⟨w0, w1, w2, w3, w4, w5, w6, w7, w8⟩, a2, a3, -⟩ := hW
  have hpe := hW2.p (show p < 8 by omega)
  have hm := hpe.2.2.1
  have h4 := hpe.2.2.2.2.1
  have hp20 := pow_20 w0
  obtain ⟨s1, s2⟩ := a3 b (by omega)
  have hlt : letO g p < 2147483648 := by
    have : ∀ k, k ≤ og g p 2 → letK g p k ≤ 12 * k := by
      intro k
      induction k with
      | zero => intro _; exact Nat.le_refl _
      | succ k ih =>
        intro hk
        have h1 := ih (by omega)
        have h2 := hpe.r20 w0 k (by omega)
        have h3 := (a2 _ h2).2
        simp only [letK]
        omega
    have := this _ (Nat.le_refl _)
    unfold letO
    omega
  refine am_C.of (by decide) (Nat.le_of_ble_eq_true rfl) ?_
  show am_R tT E _ mX12_crosses _ 0 [some (.inr 63), some (.inl (nI p)), some (.inl (nI b)), none, none, none] [] (hs h g)
  refine am_goS gX12_crosses [40] 400 ?_
  simp only [am_eqs, am_eqk, am_eqv, lX12_crosses_0, lX12_crosses_1, lX12_crosses_2, lX12_crosses_3, fx_ref, ↓reduceIte, List.mem_cons, List.not_mem_nil, or_false, or_self, false_or, true_and, and_true, Nat.reduceEqDiff, reduceCtorEq, List.length_cons, List.length_nil, Nat.reduceAdd, Nat.reduceLeDiff, Nat.reduceSub, Nat.reduceLT, Nat.zero_le, Nat.zero_add, forall_const, not_true_eq_false, not_false_eq_true, false_implies, true_implies, implies_true, Nat.zero_lt_succ, am_z0, am_z1]
  refine r_own (by omega) (by omega) ?_
  refine r_otherEnd (by omega) hpe.1 s1 s2 (fun _ => ?_) (fun z => absurd htou z)
  have hoth : oth g b (og g p 0) < 8 := by unfold oth; split <;> omega
  refine r_lettersOf (by omega) hm (hpe.r20 w0) ?_
  simp (disch := omega) only [hs_at, hs_put, hs_63, NH_at, NH_put, NH_cpy, ni_add, ni_mul, ni_clamp, ni_in, ni_eq, ni_lt, ni_le, ni_sub, Nat.reduceAdd, Nat.reduceMul, Nat.reduceSub, eq_self, true_implies, not_true_eq_false, false_implies, and_true, true_and, not_false_eq_true, Nat.reduceEqDiff, Nat.reduceLeDiff, Nat.reduceLT, implies_true, ite_true, ite_false]
  refine ⟨fun hfree => ?_, fun hfree => ?_⟩
  · have hdu : duG g lw p b = duF g lw p b (og g p 2) 0 := by unfold duG; rw [if_neg (by omega)]
    have loop : ∀ k o (h1 : am_H), o + k = og g p 2 → duF g lw p b k o = duG g lw p b → (∀ q, q ≠ 71 → q ≠ 72 → h1 q = h q) → am_R tT E (d + 3) mX12_crosses Q 40 [some (.inr 63), some (.inl (nI p)), some (.inl (nI b)), some (.inl (nI (oth g b (og g p 0)))), some (.inl (nI o)), none] [] (hs h1 g) := by
      intro k
      induction k with
      | zero =>
        intro o h1 hk hd hfr
        have e : o = og g p 2 := by omega
        subst e
        refine am_goS gX12_crosses [40] 400 ?_
        simp only [am_eqs, am_eqk, am_eqv, lX12_crosses_0, lX12_crosses_1, lX12_crosses_2, lX12_crosses_3, fx_ref, ↓reduceIte, List.mem_cons, List.not_mem_nil, or_false, or_self, false_or, true_and, and_true, Nat.reduceEqDiff, reduceCtorEq, List.length_cons, List.length_nil, Nat.reduceAdd, Nat.reduceLeDiff, Nat.reduceSub, Nat.reduceLT, Nat.zero_le, Nat.zero_add, forall_const, not_true_eq_false, not_false_eq_true, false_implies, true_implies, implies_true, Nat.zero_lt_succ, am_z0, am_z1]
        refine r_own (by omega) (by omega) ?_
        simp (disch := omega) only [hs_at, hs_put, hs_63, NH_at, NH_put, NH_cpy, ni_add, ni_mul, ni_clamp, ni_in, ni_eq, ni_lt, ni_le, ni_sub, Nat.reduceAdd, Nat.reduceMul, Nat.reduceSub, eq_self, true_implies, not_true_eq_false, false_implies, and_true, true_and, not_false_eq_true, Nat.reduceEqDiff, Nat.reduceLeDiff, Nat.reduceLT, implies_true, ite_true, ite_false]
        refine ⟨fun _ => ?_, fun z => absurd (Nat.le_refl _) z⟩
        refine r_own (by omega) (by omega) ?_
        simp (disch := omega) only [hs_at, hs_put, hs_63, NH_at, NH_put, NH_cpy, ni_add, ni_mul, ni_clamp, ni_in, ni_eq, ni_lt, ni_le, ni_sub, Nat.reduceAdd, Nat.reduceMul, Nat.reduceSub, eq_self, true_implies, not_true_eq_false, false_implies, and_true, true_and, not_false_eq_true, Nat.reduceEqDiff, Nat.reduceLeDiff, Nat.reduceLT, implies_true, ite_true, ite_false]
        exact hB hd.symm h1 hfr
      | succ k ih =>
        intro o h1 hk hd hfr
        have hn := hpe.2.2.2.2.2.1 o (by omega)
        refine am_goS gX12_crosses [40] 400 ?_
        simp only [am_eqs, am_eqk, am_eqv, lX12_crosses_0, lX12_crosses_1, lX12_crosses_2, lX12_crosses_3, fx_ref, ↓reduceIte, List.mem_cons, List.not_mem_nil, or_false, or_self, false_or, true_and, and_true, Nat.reduceEqDiff, reduceCtorEq, List.length_cons, List.length_nil, Nat.reduceAdd, Nat.reduceLeDiff, Nat.reduceSub, Nat.reduceLT, Nat.zero_le, Nat.zero_add, forall_const, not_true_eq_false, not_false_eq_true, false_implies, true_implies, implies_true, Nat.zero_lt_succ, am_z0, am_z1]
        refine r_own (by omega) (by omega) ?_
        simp (disch := omega) only [hs_at, hs_put, hs_63, NH_at, NH_put, NH_cpy, ni_add, ni_mul, ni_clamp, ni_in, ni_eq, ni_lt, ni_le, ni_sub, Nat.reduceAdd, Nat.reduceMul, Nat.reduceSub, eq_self, true_implies, not_true_eq_false, false_implies, and_true, true_and, not_false_eq_true, Nat.reduceEqDiff, Nat.reduceLeDiff, Nat.reduceLT, implies_true, ite_true, ite_false]
        refine ⟨fun z => absurd z (by omega), fun _ => ?_⟩
        refine r_mayLeave hp (by omega) (by omega) hW2 hL hok (fun y h2 hfr2 => ?_) (fun y h2 hfr2 => ?_)
        · simp (disch := omega) only [hs_at, hs_put, hs_63, NH_at, NH_put, NH_cpy, ni_add, ni_mul, ni_clamp, ni_in, ni_eq, ni_lt, ni_le, ni_sub, Nat.reduceAdd, Nat.reduceMul, Nat.reduceSub, eq_self, true_implies, not_true_eq_false, false_implies, and_true, true_and, not_false_eq_true, Nat.reduceEqDiff, Nat.reduceLeDiff, Nat.reduceLT, implies_true, ite_true, ite_false]
          have hdo : duG g lw p b = o := by rw [← hd, duF, cif_pos y]
          have hfr3 : ∀ q, q ≠ 71 → q ≠ 72 → h2 q = h q := fun q hq1 hq2 => by rw [hfr2 q hq1 hq2, hfr q hq1 hq2]
          refine r_own (by omega) (by omega) ?_
          simp (disch := omega) only [hs_at, hs_put, hs_63, NH_at, NH_put, NH_cpy, ni_add, ni_mul, ni_clamp, ni_in, ni_eq, ni_lt, ni_le, ni_sub, Nat.reduceAdd, Nat.reduceMul, Nat.reduceSub, eq_self, true_implies, not_true_eq_false, false_implies, and_true, true_and, not_false_eq_true, Nat.reduceEqDiff, Nat.reduceLeDiff, Nat.reduceLT, implies_true, ite_true, ite_false]
          refine ⟨fun z => absurd z (by omega), fun _ => ?_⟩
          refine r_own (by omega) (by omega) ?_
          refine r_loses (by omega) hm (by omega) ?_
          have hfin := hO o (by omega) hdo h2 hfr3
          generalize hnn : og g p (5 + o) = n at hn hfin ⊢
          simp (disch := omega) only [hs_at, hs_put, hs_63, NH_at, NH_put, NH_cpy, ni_add, ni_mul, ni_clamp, ni_in, ni_eq, ni_lt, ni_le, ni_sub, Nat.reduceAdd, Nat.reduceMul, Nat.reduceSub, eq_self, true_implies, not_true_eq_false, false_implies, and_true, true_and, not_false_eq_true, Nat.reduceEqDiff, Nat.reduceLeDiff, Nat.reduceLT, implies_true, ite_true, ite_false]
          have hlk : losG g p o (220 + 20 * b + n) = g (220 + 20 * b + n) := by unfold losG; rw [if_neg (by omega), if_neg (by omega)]
          refine ⟨by omega, by omega, ?_⟩
          refine r_own (by omega) (by omega) ?_
          have e4 : og (nup (losG g p o) (220 + 20 * b + n) (losG g p o (220 + 20 * b + n) + 1)) p 4 = og g p 4 := by
            unfold og
            rw [nup_ne _ _ (by omega)]
            unfold losG
            rw [if_neg (by omega), if_neg (by omega)]
          rw [e4]
          simp (disch := omega) only [hs_at, hs_put, hs_63, NH_at, NH_put, NH_cpy, ni_add, ni_mul, ni_clamp, ni_in, ni_eq, ni_lt, ni_le, ni_sub, Nat.reduceAdd, Nat.reduceMul, Nat.reduceSub, eq_self, true_implies, not_true_eq_false, false_implies, and_true, true_and, not_false_eq_true, Nat.reduceEqDiff, Nat.reduceLeDiff, Nat.reduceLT, implies_true, ite_true, ite_false, ni_shl, ni_or]
          refine r_gives (by omega) (by omega) ?_
          refine r_gives (by omega) (by omega) ?_
          have e : nup (nup (nup (losG g p o) (220 + 20 * b + n) (losG g p o (220 + 20 * b + n) + 1)) (90 + 16 * p + 4) (og g p 4 ||| 1 <<< n)) (90 + 16 * p + 0) (oth g b (og g p 0)) = lvG g p b o := by
            funext j
            simp only [nup_app, lvG, losG, hnn]
            grind
          rw [e]
          exact hfin
        · simp (disch := omega) only [hs_at, hs_put, hs_63, NH_at, NH_put, NH_cpy, ni_add, ni_mul, ni_clamp, ni_in, ni_eq, ni_lt, ni_le, ni_sub, Nat.reduceAdd, Nat.reduceMul, Nat.reduceSub, eq_self, true_implies, not_true_eq_false, false_implies, and_true, true_and, not_false_eq_true, Nat.reduceEqDiff, Nat.reduceLeDiff, Nat.reduceLT, implies_true, ite_true, ite_false]
          refine ih (o + 1) h2 (by omega) ?_ (fun q hq1 hq2 => by rw [hfr2 q hq1 hq2, hfr q hq1 hq2])
          rw [← hd, duF, cif_neg y]
    exact loop (og g p 2) 0 h (by omega) hdu.symm (fun _ _ _ => rfl)
  · refine r_gives (by omega) (by omega) ?_
    exact hF (by unfold duG; rw [if_pos (by omega)])
end RCR
