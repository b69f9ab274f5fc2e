/-! ===== part 61: the round, the reference's plan ===== -/
def rbF (g : Nat → Nat) : Nat → Nat → List Nat
  | 0, _ => []
  | n + 1, k => g (75 + k) :: rbF g n (k + 1)
theorem rbF_len (g : Nat → Nat) : ∀ n k, (rbF g n k).length = n
  | 0, _ => rfl
  | n + 1, k => congrArg (· + 1) (rbF_len g n (k + 1))
theorem rbF_congr {g g' : Nat → Nat} (h : ∀ j, j < 90 → g' j = g j) : ∀ n k, k + n ≤ 12 → rbF g' n k = rbF g n k
  | 0, _, _ => rfl
  | n + 1, k, hk => by rw [rbF, rbF, h _ (by omega), rbF_congr h n (k + 1) (by omega)]
def cmL (p : Nat) : List Nat → (Nat → Nat) → Nat → Nat
  | [], g => g
  | n :: r, g => cmL p r (comG g p n)
def okC (g : Nat → Nat) (p fr : Nat) : List Nat → Nat → Prop
  | [], lo => lo ≤ fr
  | n :: r, lo => lo ≤ n ∧ n < g 0 ∧ ¬ hasN g p n ∧ okC g p fr r (n + 1)
section RPLAN
variable {E : am_E} {d : Nat} {h : am_H} {Q : Int32 → am_H → Prop} {g g0 : Nat → Nat} {c : Nat → Nat → Nat} {t : Nat}
theorem r_isRound {p : Nat} (hp : p < g 1) (hW : WF g t) (h1 : cwG g (rbF g (g 8) 0) (og g p 0) → 0 < g 8 → Q (nI 1) (hs h g)) (h0 : ¬ (cwG g (rbF g (g 8) 0) (og g p 0) ∧ 0 < g 8) → Q (nI 0) (hs h g)) : am_C tT E (d + 1) mX12_isRound [.inr 63, .inl (nI p)] (hs h g) Q := by
  have w1 := hW.1.2.1
  have w2 := hW.1.2.2.1
  have w8 := hW.1.2.2.2.2.2.2.2.2
  have hpe := hW.p (show p < 8 by omega)
  refine am_C.of (by decide) (Nat.le_of_ble_eq_true rfl) ?_
  show am_R tT E _ mX12_isRound _ 0 [some (.inr 63), some (.inl (nI p)), none, none] [] (hs h g)
  refine am_goS gX12_isRound [9] 400 ?_
  simp only [am_eqs, am_eqk, am_eqv, lX12_isRound_0, lX12_isRound_1, fx_ref, ↓reduceIte, List.mem_cons, List.not_mem_nil, or_false, or_self, false_or, true_and, and_true, Nat.reduceEqDiff, reduceCtorEq, List.length_cons, List.length_nil, Nat.reduceAdd, Nat.reduceLeDiff, Nat.reduceSub, Nat.reduceLT, Nat.zero_le, Nat.zero_add, forall_const, not_true_eq_false, not_false_eq_true, false_implies, true_implies, implies_true, Nat.zero_lt_succ, am_z0, am_z1]
  refine r_own (by omega) (by omega) ?_
  have loop : ∀ n k pl, k + n = g 8 → pl < 8 → (cwG g (rbF g n k) pl ↔ cwG g (rbF g (g 8) 0) (og g p 0)) → am_R tT E (d + 1) mX12_isRound Q 9 [some (.inr 63), some (.inl (nI p)), some (.inl (nI pl)), some (.inl (nI k))] [] (hs h g) := by
    intro n
    induction n with
    | zero =>
      intro k pl hk hpl hiff
      have e : k = g 8 := by omega
      subst e
      refine am_goS gX12_isRound [9] 400 ?_
      simp only [am_eqs, am_eqk, am_eqv, lX12_isRound_0, lX12_isRound_1, fx_ref, ↓reduceIte, List.mem_cons, List.not_mem_nil, or_false, or_self, false_or, true_and, and_true, Nat.reduceEqDiff, reduceCtorEq, List.length_cons, List.length_nil, Nat.reduceAdd, Nat.reduceLeDiff, Nat.reduceSub, Nat.reduceLT, Nat.zero_le, Nat.zero_add, forall_const, not_true_eq_false, not_false_eq_true, false_implies, true_implies, implies_true, Nat.zero_lt_succ, am_z0, am_z1]
      simp (disch := omega) only [hs_at, hs_put, hs_63, NH_at, NH_put, NH_cpy, ni_add, ni_mul, ni_clamp, ni_in, ni_eq, ni_lt, ni_le, ni_sub, Nat.reduceAdd, Nat.reduceMul, Nat.reduceSub, eq_self, true_implies, not_true_eq_false, false_implies, and_true, true_and, not_false_eq_true, Nat.reduceEqDiff, Nat.reduceLeDiff, Nat.reduceLT, implies_true, ite_true, ite_false]
      exact ⟨fun _ => ⟨fun z => h0 (fun q => by omega), fun z => h1 (hiff.mp trivial) (by omega)⟩, fun z => absurd (Nat.le_refl _) z⟩
    | succ n ih =>
      intro k pl hk hpl hiff
      have hb := hW.2.2.2.2.1 k (by omega)
      have hs := hW.2.2.1 _ (show g (75 + k) < 12 by omega)
      refine am_goS gX12_isRound [9] 400 ?_
      simp only [am_eqs, am_eqk, am_eqv, lX12_isRound_0, lX12_isRound_1, fx_ref, ↓reduceIte, List.mem_cons, List.not_mem_nil, or_false, or_self, false_or, true_and, and_true, Nat.reduceEqDiff, reduceCtorEq, List.length_cons, List.length_nil, Nat.reduceAdd, Nat.reduceLeDiff, Nat.reduceSub, Nat.reduceLT, Nat.zero_le, Nat.zero_add, forall_const, not_true_eq_false, not_false_eq_true, false_implies, true_implies, implies_true, Nat.zero_lt_succ, am_z0, am_z1]
      simp (disch := omega) only [hs_at, hs_put, hs_63, NH_at, NH_put, NH_cpy, ni_add, ni_mul, ni_clamp, ni_in, ni_eq, ni_lt, ni_le, ni_sub, Nat.reduceAdd, Nat.reduceMul, Nat.reduceSub, eq_self, true_implies, not_true_eq_false, false_implies, and_true, true_and, not_false_eq_true, Nat.reduceEqDiff, Nat.reduceLeDiff, Nat.reduceLT, implies_true, ite_true, ite_false]
      refine ⟨fun z => absurd z (by omega), fun _ => ⟨by omega, ?_⟩⟩
      refine r_otherEnd (by omega) hpl hs.1 hs.2 (fun y => ?_) (fun y => ?_)
      · have hot := oth_lt (x := pl) hW (show g (75 + k) < 12 by omega)
        simp (disch := omega) only [hs_at, hs_put, hs_63, NH_at, NH_put, NH_cpy, ni_add, ni_mul, ni_clamp, ni_in, ni_eq, ni_lt, ni_le, ni_sub, Nat.reduceAdd, Nat.reduceMul, Nat.reduceSub, eq_self, true_implies, not_true_eq_false, false_implies, and_true, true_and, not_false_eq_true, Nat.reduceEqDiff, Nat.reduceLeDiff, Nat.reduceLT, implies_true, ite_true, ite_false, ni_m1]
        refine ⟨fun z => absurd z (by omega), fun _ => ?_⟩
        refine ih (k + 1) _ (by omega) hot ?_
        rw [← hiff]
        exact ⟨fun z => ⟨hb, y, z⟩, fun z => z.2.2⟩
      · simp (disch := omega) only [hs_at, hs_put, hs_63, NH_at, NH_put, NH_cpy, ni_add, ni_mul, ni_clamp, ni_in, ni_eq, ni_lt, ni_le, ni_sub, Nat.reduceAdd, Nat.reduceMul, Nat.reduceSub, eq_self, true_implies, not_true_eq_false, false_implies, and_true, true_and, not_false_eq_true, Nat.reduceEqDiff, Nat.reduceLeDiff, Nat.reduceLT, implies_true, ite_true, ite_false]
        exact h0 (fun q => y (hiff.mpr q.1).2.1)
  exact loop (g 8) 0 _ (by omega) hpe.1 Iff.rfl
theorem r_getsRound {lw : Lw} {p : Nat} (hp : p < g 1) (hW : WF g t) (hL : LRl g lw 0 0) (hok : LOK lw) (hcw : cwG g (rbF g (g 8) 0) (og g p 0))
    (hq : ∀ (g2 : Nat → Nat) (h2 : am_H), (∀ j, j < 90 ∨ 460 ≤ j → g2 j = g j) → (∀ q, q ≠ 71 → q ≠ 72 → h2 q = h q) → ((wkG lw p (rbF g (g 8) 0) g).isSome = true → Q (nI 1) (hs h2 g2)) ∧ (wkG lw p (rbF g (g 8) 0) g = none → Q (nI 0) (hs h2 g2))) :
    am_C tT E (d + 4) mX12_getsRound [.inr 63, .inl (nI p)] (hs h g) Q := by
  have w1 := hW.1.2.1
  have w2 := hW.1.2.2.1
  have w8 := hW.1.2.2.2.2.2.2.2.2
  refine am_C.of (by decide) (Nat.le_of_ble_eq_true rfl) ?_
  show am_R tT E _ mX12_getsRound _ 0 [some (.inr 63), some (.inl (nI p)), none] [] (hs h g)
  refine am_goS gX12_getsRound [2] 400 ?_
  simp only [am_eqs, am_eqk, am_eqv, lX12_getsRound_0, lX12_getsRound_1, fx_ref, ↓reduceIte, List.mem_cons, List.not_mem_nil, or_false, or_self, false_or, true_and, and_true, Nat.reduceEqDiff, reduceCtorEq, List.length_cons, List.length_nil, Nat.reduceAdd, Nat.reduceLeDiff, Nat.reduceSub, Nat.reduceLT, Nat.zero_le, Nat.zero_add, forall_const, not_true_eq_false, not_false_eq_true, false_implies, true_implies, implies_true, Nat.zero_lt_succ, am_z0, am_z1]
  have loop : ∀ n k (g1 : Nat → Nat) (h1 : am_H), k + n = g 8 → WF g1 (t + k) → (∀ j, j < 90 ∨ 460 ≤ j → g1 j = g j) → cwG g (rbF g n k) (og g1 p 0) → wkG lw p (rbF g n k) g1 = wkG lw p (rbF g (g 8) 0) g → (∀ q, q ≠ 71 → q ≠ 72 → h1 q = h q) → am_R tT E (d + 4) mX12_getsRound Q 2 [some (.inr 63), some (.inl (nI p)), some (.inl (nI k))] [] (hs h1 g1) := by
    intro n
    induction n with
    | zero =>
      intro k g1 h1 hk hW1 hst hcw1 hwk hfr
      have e8 : g1 8 = g 8 := hst 8 (by omega)
      have e : k = g 8 := by omega
      refine am_goS gX12_getsRound [2] 400 ?_
      simp only [am_eqs, am_eqk, am_eqv, lX12_getsRound_0, lX12_getsRound_1, fx_ref, ↓reduceIte, List.mem_cons, List.not_mem_nil, or_false, or_self, false_or, true_and, and_true, Nat.reduceEqDiff, reduceCtorEq, List.length_cons, List.length_nil, Nat.reduceAdd, Nat.reduceLeDiff, Nat.reduceSub, Nat.reduceLT, Nat.zero_le, Nat.zero_add, forall_const, not_true_eq_false, not_false_eq_true, false_implies, true_implies, implies_true, Nat.zero_lt_succ, am_z0, am_z1]
      simp (disch := omega) only [hs_at, hs_put, hs_63, NH_at, NH_put, NH_cpy, ni_add, ni_mul, ni_clamp, ni_in, ni_eq, ni_lt, ni_le, ni_sub, Nat.reduceAdd, Nat.reduceMul, Nat.reduceSub, eq_self, true_implies, not_true_eq_false, false_implies, and_true, true_and, not_false_eq_true, Nat.reduceEqDiff, Nat.reduceLeDiff, Nat.reduceLT, implies_true, ite_true, ite_false, e8]
      exact ⟨fun _ => (hq g1 h1 hst hfr).1 (by rw [← hwk]; rfl), fun z => absurd z (by omega)⟩
    | succ n ih =>
      intro k g1 h1 hk hW1 hst hcw1 hwk hfr
      have e8 : g1 8 = g 8 := hst 8 (by omega)
      have e75 : g1 (75 + k) = g (75 + k) := hst _ (by omega)
      obtain ⟨hb, htou, hcw'⟩ := hcw1
      rw [rbF] at hwk
      generalize hbb : g (75 + k) = b at hb htou hcw' hwk e75
      have s1 : g1 1 = g 1 := hst 1 (by omega)
      have s2 : g1 2 = g 2 := hst 2 (by omega)
      have s50 : g1 (50 + 2 * b) = g (50 + 2 * b) := hst _ (by omega)
      have s51 : g1 (51 + 2 * b) = g (51 + 2 * b) := hst _ (by omega)
      have htou1 : tou g1 b (og g1 p 0) := by unfold tou at *; rw [s50, s51]; exact htou
      have hL1 : LRl g1 lw 0 0 := LRl_congr (fun j hj => hst j (by omega)) lw 0 0 hL
      have hgo : duG g1 lw p b ≠ 200 → ∀ h2 : am_H, (∀ q, q ≠ 71 → q ≠ 72 → h2 q = h q) → am_R tT E (d + 4) mX12_getsRound Q 2 [some (.inr 63), some (.inl (nI p)), some (.inl (nI (k + 1)))] [] (hs h2 (stG g1 lw p b)) := by
        intro z h2 hf2
        refine ih (k + 1) _ h2 (by omega) (by rw [← Nat.add_assoc]; exact wf_st (by omega) (by omega) hW1 z) (fun j hj => ?_) ?_ (by rw [← hwk, wkG, if_neg z]) hf2
        · rw [st_off (by omega) (by omega) hW1 z hj]; exact hst j hj
        · rw [st_at (by omega) hW1, oth_congr s50 s51]; exact hcw'
      refine am_goS gX12_getsRound [2] 400 ?_
      simp only [am_eqs, am_eqk, am_eqv, lX12_getsRound_0, lX12_getsRound_1, fx_ref, ↓reduceIte, List.mem_cons, List.not_mem_nil, or_false, or_self, false_or, true_and, and_true, Nat.reduceEqDiff, reduceCtorEq, List.length_cons, List.length_nil, Nat.reduceAdd, Nat.reduceLeDiff, Nat.reduceSub, Nat.reduceLT, Nat.zero_le, Nat.zero_add, forall_const, not_true_eq_false, not_false_eq_true, false_implies, true_implies, implies_true, Nat.zero_lt_succ, am_z0, am_z1]
      simp (disch := omega) only [hs_at, hs_put, hs_63, NH_at, NH_put, NH_cpy, ni_add, ni_mul, ni_clamp, ni_in, ni_eq, ni_lt, ni_le, ni_sub, Nat.reduceAdd, Nat.reduceMul, Nat.reduceSub, eq_self, true_implies, not_true_eq_false, false_implies, and_true, true_and, not_false_eq_true, Nat.reduceEqDiff, Nat.reduceLeDiff, Nat.reduceLT, implies_true, ite_true, ite_false, e8, e75]
      refine ⟨fun z => absurd z (by omega), fun _ => ⟨by omega, ?_⟩⟩
      refine r_crosses (by omega) (by omega) htou1 hW1 hL1 hok (fun hd => ?_) (fun hd h2 hf2 => ?_) (fun o' ho' hd h2 hf2 => ?_)
      · simp (disch := omega) only [hs_at, hs_put, hs_63, NH_at, NH_put, NH_cpy, ni_add, ni_mul, ni_clamp, ni_in, ni_eq, ni_lt, ni_le, ni_sub, Nat.reduceAdd, Nat.reduceMul, Nat.reduceSub, eq_self, true_implies, not_true_eq_false, false_implies, and_true, true_and, not_false_eq_true, Nat.reduceEqDiff, Nat.reduceLeDiff, Nat.reduceLT, implies_true, ite_true, ite_false, ni_m2]
        have := hgo (by omega) h1 hfr
        unfold stG at this
        rw [if_pos hd] at this
        exact this
      · simp (disch := omega) only [hs_at, hs_put, hs_63, NH_at, NH_put, NH_cpy, ni_add, ni_mul, ni_clamp, ni_in, ni_eq, ni_lt, ni_le, ni_sub, Nat.reduceAdd, Nat.reduceMul, Nat.reduceSub, eq_self, true_implies, not_true_eq_false, false_implies, and_true, true_and, not_false_eq_true, Nat.reduceEqDiff, Nat.reduceLeDiff, Nat.reduceLT, implies_true, ite_true, ite_false]
        exact (hq g1 h2 hst (fun q x y => by rw [hf2 q x y]; exact hfr q x y)).2 (by rw [← hwk, wkG, if_pos hd])
      · have hn := (hW1.p (show p < 8 by omega)).2.2.2.2.2.1 o' ho'
        have h9 := (hW1.p (show p < 8 by omega)).2.2.1
        have w0 := hW1.1.1
        simp (disch := omega) only [hs_at, hs_put, hs_63, NH_at, NH_put, NH_cpy, ni_add, ni_mul, ni_clamp, ni_in, ni_eq, ni_lt, ni_le, ni_sub, Nat.reduceAdd, Nat.reduceMul, Nat.reduceSub, eq_self, true_implies, not_true_eq_false, false_implies, and_true, true_and, not_false_eq_true, Nat.reduceEqDiff, Nat.reduceLeDiff, Nat.reduceLT, implies_true, ite_true, ite_false, ni_m2]
        refine ⟨fun z => absurd z (by omega), fun _ => ?_⟩
        have := hgo (by omega) h2 (fun q x y => by rw [hf2 q x y]; exact hfr q x y)
        unfold stG at this
        rw [if_neg (by omega), hd] at this
        exact this
  exact loop (g 8) 0 g h (by omega) hW (fun _ _ => rfl) hcw rfl (fun _ _ _ => rfl)
end RPLAN
