/-! ===== part 52: behind of the reference ===== -/
section RBEH
variable {E : am_E} {d : Nat} {h : am_H} {Q : Int32 → am_H → Prop} {g g0 : Nat → Nat} {c : Nat → Nat → Nat} {t : Nat}
def A5 (a b c d e : Int32) (k : Nat) : Int32 := if k = 0 then a else if k = 1 then b else if k = 2 then c else if k = 3 then d else e
theorem sel5 {P : Int32 → Prop} {k : Nat} {a b c d e : Int32} (h : P (A5 a b c d e k)) : (k = 0 → P a) ∧ (¬ k = 0 → (k = 1 → P b) ∧ (¬ k = 1 → (k = 2 → P c) ∧ (¬ k = 2 → (k = 3 → P d) ∧ (¬ k = 3 → P e)))) := by
  unfold A5 at h
  grind
noncomputable def bhF (g : Nat → Nat) (A : Nat → Int32) : Nat → Nat → Nat → Option (List Nat)
  | 0, _, _ => some []
  | n + 1, k, pl => cif (A k = -1) (some []) (cif (isB (A k) (g 2) ∧ tou g (A k).toNatClampNeg pl) ((bhF g A n (k + 1) (oth g (A k).toNatClampNeg pl)).map (fun l => (A k).toNatClampNeg :: l)) none)
/-- the bridges follow each other -/
def cwG (g : Nat → Nat) : List Nat → Nat → Prop
  | [], _ => True
  | b :: r, pl => b < g 2 ∧ tou g b pl ∧ cwG g r (oth g b pl)
def WA (A : Nat → Int32) : List Nat → Nat → Prop
  | [], _ => True
  | b :: r, k => A k = nI b ∧ WA A r (k + 1)
noncomputable def wkG (lw : Lw) (p : Nat) : List Nat → (Nat → Nat) → Option (Nat → Nat)
  | [], g => some g
  | b :: r, g => if duG g lw p b = 200 then none else wkG lw p r (stG g lw p b)
theorem bhF_ok {A : Nat → Int32} (hg : g 2 ≤ 12) : ∀ n k pl bs, bhF g A n k pl = some bs → bs.length ≤ n ∧ cwG g bs pl ∧ WA A bs k ∧ (bs.length < n → A (k + bs.length) = -1) := by
  intro n
  induction n with
  | zero =>
    intro k pl bs h
    simp only [bhF, Option.some.injEq] at h
    subst h
    exact ⟨Nat.le_refl _, trivial, trivial, fun z => absurd z (by simp)⟩
  | succ n ih =>
    intro k pl bs h
    rw [bhF] at h
    by_cases h1 : A k = -1
    · rw [cif_pos h1] at h
      simp only [Option.some.injEq] at h
      subst h
      exact ⟨Nat.zero_le _, trivial, trivial, fun _ => h1⟩
    · rw [cif_neg h1] at h
      by_cases h2 : isB (A k) (g 2) ∧ tou g (A k).toNatClampNeg pl
      · rw [cif_pos h2] at h
        obtain ⟨⟨b, hb, hA⟩, ht⟩ := h2
        rw [hA, ni_clamp (by omega)] at h ht
        cases h3 : bhF g A n (k + 1) (oth g b pl) with
        | none => rw [h3] at h; cases h
        | some l =>
          rw [h3] at h
          simp only [Option.map_some, Option.some.injEq] at h
          subst h
          obtain ⟨i1, i2, i3, i4⟩ := ih _ _ _ h3
          refine ⟨by simp only [List.length_cons]; omega, ⟨hb, ht, i2⟩, ⟨hA, i3⟩, fun z => ?_⟩
          simp only [List.length_cons] at z ⊢
          rw [show k + (l.length + 1) = k + 1 + l.length by omega]
          exact i4 (by omega)
      · rw [cif_neg h2] at h; cases h
theorem cw_congr {g' : Nat → Nat} (hg : g 2 ≤ 12) (h : ∀ j, j < 90 → g' j = g j) : ∀ bs pl, cwG g bs pl → cwG g' bs pl
  | [], _, _ => trivial
  | b :: r, pl, hc => by
    have e1 : g' (50 + 2 * b) = g (50 + 2 * b) := h _ (by have := hc.1; omega)
    have e2 : g' (51 + 2 * b) = g (51 + 2 * b) := h _ (by have := hc.1; omega)
    refine ⟨by rw [h 2 (by omega)]; exact hc.1, ?_, ?_⟩
    · unfold tou; rw [e1, e2]; exact hc.2.1
    · rw [oth_congr e1 e2]; exact cw_congr hg h r _ hc.2.2
/-- the row walked in thought -/
theorem r_walk {lw : Lw} {p : Nat} {a b c' d' e : Int32} {many : Nat} {v7 v9 : Option am_V} {o : Option (Nat → Nat)} (hm12 : many ≤ 5) (hW0 : WF g t) (hp : p < g 1) (hL0 : LRl g lw 0 0) (hok : LOK lw)
    (K : ∀ (g2 : Nat → Nat) (h2 : am_H) (i' th : Nat), (∀ j, j < 90 ∨ 460 ≤ j → g2 j = g j) → (∀ q, q ≠ 71 → q ≠ 72 → h2 q = h q) → (th = 0 ∧ o = none ∨ th = 1 ∧ o = some g2 ∧ WF g2 (t + many)) → am_R tT E (d + 4) mX12_behind Q 238 [some (.inr 63), some (.inl (nI p)), some (.inl a), some (.inl b), some (.inl c'), some (.inl d'), some (.inl e), v7, some (.inl (nI many)), v9, some (.inl (nI th)), some (.inl (nI i'))] [] (hs h2 g2)) :
    ∀ (bs : List Nat) (i : Nat) (g1 : Nat → Nat) (h1 : am_H), WA (A5 a b c' d' e) bs i → i + bs.length = many → WF g1 (t + i) → (∀ j, j < 90 ∨ 460 ≤ j → g1 j = g j) → cwG g bs (og g1 p 0) → o = wkG lw p bs g1 → (∀ q, q ≠ 71 → q ≠ 72 → h1 q = h q) → am_R tT E (d + 4) mX12_behind Q 160 [some (.inr 63), some (.inl (nI p)), some (.inl a), some (.inl b), some (.inl c'), some (.inl d'), some (.inl e), v7, some (.inl (nI many)), v9, some (.inl (nI 1)), some (.inl (nI i))] [] (hs h1 g1) := by
  have w1 := hW0.1.2.1
  have w2 := hW0.1.2.2.1
  intro bs
  induction bs with
  | nil =>
    intro i g1 h1 hwa hi hW hst hcw ho hfr
    have e1 : i = many := by simpa using hi
    subst e1
    refine am_goS gX12_behind [160, 238] 400 ?_
    simp only [am_eqs, am_eqk, am_eqv, lX12_behind_0, lX12_behind_1, lX12_behind_2, lX12_behind_3, lX12_behind_4, lX12_behind_5, fx_ref, ↓reduceIte, List.mem_cons, List.not_mem_nil, or_false, or_self, false_or, true_and, and_true, Nat.reduceEqDiff, reduceCtorEq, List.length_cons, List.length_nil, Nat.reduceAdd, Nat.reduceLeDiff, Nat.reduceSub, Nat.reduceLT, Nat.zero_le, Nat.zero_add, forall_const, not_true_eq_false, not_false_eq_true, false_implies, true_implies, implies_true, Nat.zero_lt_succ, am_z0, am_z1]
    simp (disch := omega) only [hs_at, hs_put, hs_63, NH_at, NH_put, NH_cpy, ni_add, ni_mul, ni_clamp, ni_in, ni_eq, ni_lt, ni_le, ni_sub, Nat.reduceAdd, Nat.reduceMul, Nat.reduceSub, eq_self, true_implies, not_true_eq_false, false_implies, and_true, true_and, not_false_eq_true, Nat.reduceEqDiff, Nat.reduceLeDiff, Nat.reduceLT, implies_true, ite_true, ite_false]
    exact ⟨fun _ => K g1 h1 i 1 hst hfr (Or.inr ⟨rfl, ho, hW⟩), fun z => absurd (Nat.le_refl _) z⟩
  | cons b0 r ih =>
    intro i g1 h1 hwa hi hW hst hcw ho hfr
    obtain ⟨hA, hwa'⟩ := hwa
    obtain ⟨hb, htou, hcw'⟩ := hcw
    simp only [List.length_cons] at hi
    have e1 : g1 1 = g 1 := hst 1 (by omega)
    have e2 : g1 2 = g 2 := hst 2 (by omega)
    have e50 : g1 (50 + 2 * b0) = g (50 + 2 * b0) := hst _ (by omega)
    have e51 : g1 (51 + 2 * b0) = g (51 + 2 * b0) := hst _ (by omega)
    have htou1 : tou g1 b0 (og g1 p 0) := by unfold tou at *; rw [e50, e51]; exact htou
    have hL1 : LRl g1 lw 0 0 := LRl_congr (fun j hj => hst j (by omega)) lw 0 0 hL0
    have hbar : duG g1 lw p b0 = 200 → o = none := fun z => by rw [ho, wkG, if_pos z]
    have hgo : duG g1 lw p b0 ≠ 200 → ∀ h2 : am_H, (∀ q, q ≠ 71 → q ≠ 72 → h2 q = h q) → am_R tT E (d + 4) mX12_behind Q 160 [some (.inr 63), some (.inl (nI p)), some (.inl a), some (.inl b), some (.inl c'), some (.inl d'), some (.inl e), v7, some (.inl (nI many)), v9, some (.inl (nI 1)), some (.inl (nI (i + 1)))] [] (hs h2 (stG g1 lw p b0)) := by
      intro z h2 hf2
      refine ih (i + 1) _ h2 hwa' (by omega) (by rw [← Nat.add_assoc]; exact wf_st (by omega) (by omega) hW z) (fun j hj => ?_) ?_ (by rw [ho, wkG, if_neg z]) hf2
      · rw [st_off (by omega) (by omega) hW z hj]; exact hst j hj
      · rw [st_at (by omega) hW, oth_congr e50 e51]; exact hcw'
    refine am_goS gX12_behind [160, 217, 238] 400 ?_
    simp only [am_eqs, am_eqk, am_eqv, lX12_behind_0, lX12_behind_1, lX12_behind_2, lX12_behind_3, lX12_behind_4, lX12_behind_5, fx_ref, ↓reduceIte, List.mem_cons, List.not_mem_nil, or_false, or_self, false_or, true_and, and_true, Nat.reduceEqDiff, reduceCtorEq, List.length_cons, List.length_nil, Nat.reduceAdd, Nat.reduceLeDiff, Nat.reduceSub, Nat.reduceLT, Nat.zero_le, Nat.zero_add, forall_const, not_true_eq_false, not_false_eq_true, false_implies, true_implies, implies_true, Nat.zero_lt_succ, am_z0, am_z1]
    simp (disch := omega) only [hs_at, hs_put, hs_63, NH_at, NH_put, NH_cpy, ni_add, ni_mul, ni_clamp, ni_in, ni_eq, ni_lt, ni_le, ni_sub, Nat.reduceAdd, Nat.reduceMul, Nat.reduceSub, eq_self, true_implies, not_true_eq_false, false_implies, and_true, true_and, not_false_eq_true, Nat.reduceEqDiff, Nat.reduceLeDiff, Nat.reduceLT, implies_true, ite_true, ite_false]
    refine ⟨fun z => absurd z (by omega), fun _ => ?_⟩
    refine sel5 (P := fun v => am_R tT E (d + 4) mX12_behind Q 217 [some (.inr 63), some (.inl (nI p)), some (.inl a), some (.inl b), some (.inl c'), some (.inl d'), some (.inl e), v7, some (.inl (nI many)), v9, some (.inl (nI 1)), some (.inl (nI i))] [.inl v, .inl (nI p), .inr 63] (hs h1 g1)) ?_
    rw [hA]
    refine am_goS gX12_behind [160, 238] 400 ?_
    simp only [am_eqs, am_eqk, am_eqv, lX12_behind_0, lX12_behind_1, lX12_behind_2, lX12_behind_3, lX12_behind_4, lX12_behind_5, fx_ref, ↓reduceIte, List.mem_cons, List.not_mem_nil, or_false, or_self, false_or, true_and, and_true, Nat.reduceEqDiff, reduceCtorEq, List.length_cons, List.length_nil, Nat.reduceAdd, Nat.reduceLeDiff, Nat.reduceSub, Nat.reduceLT, Nat.zero_le, Nat.zero_add, forall_const, not_true_eq_false, not_false_eq_true, false_implies, true_implies, implies_true, Nat.zero_lt_succ, am_z0, am_z1]
    refine r_crosses (by omega) (by omega) htou1 hW hL1 hok (fun hd => ?_) (fun hd h2 hf2 => ?_) (fun o' ho' hd h2 hf2 => ?_)
    · simp (disch := omega) only [hs_at, hs_put, hs_63, NH_at, NH_put, NH_cpy, ni_add, ni_mul, ni_clamp, ni_in, ni_eq, ni_lt, ni_le, ni_sub, Nat.reduceAdd, Nat.reduceMul, Nat.reduceSub, eq_self, true_implies, not_true_eq_false, false_implies, and_true, true_and, not_false_eq_true, Nat.reduceEqDiff, Nat.reduceLeDiff, Nat.reduceLT, implies_true, ite_true, ite_false, ni_m2]
      have := hgo (by omega) h1 hfr
      unfold stG at this
      rw [if_pos hd] at this
      exact this
    · simp (disch := omega) only [hs_at, hs_put, hs_63, NH_at, NH_put, NH_cpy, ni_add, ni_mul, ni_clamp, ni_in, ni_eq, ni_lt, ni_le, ni_sub, Nat.reduceAdd, Nat.reduceMul, Nat.reduceSub, eq_self, true_implies, not_true_eq_false, false_implies, and_true, true_and, not_false_eq_true, Nat.reduceEqDiff, Nat.reduceLeDiff, Nat.reduceLT, implies_true, ite_true, ite_false]
      have hk := K g1 h2 (i + 1) 0 hst (fun q x y => by rw [hf2 q x y]; exact hfr q x y) (Or.inl ⟨rfl, hbar hd⟩)
      refine am_goS gX12_behind [160, 238] 400 ?_
      simp only [am_eqs, am_eqk, am_eqv, lX12_behind_0, lX12_behind_1, lX12_behind_2, lX12_behind_3, lX12_behind_4, lX12_behind_5, fx_ref, ↓reduceIte, List.mem_cons, List.not_mem_nil, or_false, or_self, false_or, true_and, and_true, Nat.reduceEqDiff, reduceCtorEq, List.length_cons, List.length_nil, Nat.reduceAdd, Nat.reduceLeDiff, Nat.reduceSub, Nat.reduceLT, Nat.zero_le, Nat.zero_add, forall_const, not_true_eq_false, not_false_eq_true, false_implies, true_implies, implies_true, Nat.zero_lt_succ, am_z0, am_z1]
      simp (disch := omega) only [hs_at, hs_put, hs_63, NH_at, NH_put, NH_cpy, ni_add, ni_mul, ni_clamp, ni_in, ni_eq, ni_lt, ni_le, ni_sub, Nat.reduceAdd, Nat.reduceMul, Nat.reduceSub, eq_self, true_implies, not_true_eq_false, false_implies, and_true, true_and, not_false_eq_true, Nat.reduceEqDiff, Nat.reduceLeDiff, Nat.reduceLT, implies_true, ite_true, ite_false]
      exact ⟨fun _ => hk, fun _ => hk⟩
    · have hn := (hW.p (show p < 8 by omega)).2.2.2.2.2.1 o' ho'
      have h9 := (hW.p (show p < 8 by omega)).2.2.1
      have w0 := hW.1.1
      simp (disch := omega) only [hs_at, hs_put, hs_63, NH_at, NH_put, NH_cpy, ni_add, ni_mul, ni_clamp, ni_in, ni_eq, ni_lt, ni_le, ni_sub, Nat.reduceAdd, Nat.reduceMul, Nat.reduceSub, eq_self, true_implies, not_true_eq_false, false_implies, and_true, true_and, not_false_eq_true, Nat.reduceEqDiff, Nat.reduceLeDiff, Nat.reduceLT, implies_true, ite_true, ite_false, ni_m2]
      refine ⟨fun z => absurd z (by omega), fun _ => ?_⟩
      have := hgo (by omega) h2 (fun q x y => by rw [hf2 q x y]; exact hfr q x y)
      unfold stG at this
      rw [if_neg (by omega), hd] at this
      exact this
noncomputable def sp_behind (g : Nat → Nat) (lw : Lw) (vp : Int32) (A : Nat → Int32) : Int32 := cif (isB vp (g 1)) (match bhF g A 5 0 (og g vp.toNatClampNeg 0) with
  | none => -1
  | some [] => -1
  | some (b :: r) => match wkG lw vp.toNatClampNeg (b :: r) g with
    | none => -2
    | some g' => nI (had g' vp.toNatClampNeg)) (-1)
theorem ri_behind {lw : Lw} {vp a b c' d' e : Int32} (hW : WF g t) (hL : LRl g lw 0 0) (hok : LOK lw) (hq : ∀ h' : am_H, (∀ q, q ≠ 67 → q ≠ 71 → q ≠ 72 → h' q = h q) → Q (sp_behind g lw vp (A5 a b c' d' e)) (hs h' g)) : am_C tT E (d + 4) mX12_behind [.inr 63, .inl vp, .inl a, .inl b, .inl c', .inl d', .inl e] (hs h g) Q := by
  have w1 := hW.1.2.1
  have w2 := hW.1.2.2.1
  have hq0 := hq h (fun _ _ _ _ => rfl)
  refine am_C.of (by decide) (Nat.le_of_ble_eq_true rfl) ?_
  show am_R tT E _ mX12_behind _ 0 [some (.inr 63), some (.inl vp), some (.inl a), some (.inl b), some (.inl c'), some (.inl d'), some (.inl e), none, none, none, none, none] [] (hs h g)
  refine am_goS gX12_behind [27] 400 ?_
  simp only [am_eqs, am_eqk, am_eqv, lX12_behind_0, lX12_behind_1, lX12_behind_2, lX12_behind_3, lX12_behind_4, lX12_behind_5, fx_ref, ↓reduceIte, List.mem_cons, List.not_mem_nil, or_false, or_self, false_or, true_and, and_true, Nat.reduceEqDiff, reduceCtorEq, List.length_cons, List.length_nil, Nat.reduceAdd, Nat.reduceLeDiff, Nat.reduceSub, Nat.reduceLT, Nat.zero_le, Nat.zero_add, forall_const, not_true_eq_false, not_false_eq_true, false_implies, true_implies, implies_true, Nat.zero_lt_succ, am_z0, am_z1]
  refine r_isPerson (by omega) (fun z1 => ?_) (fun z1 => ?_)
  · simp (disch := omega) only [hs_at, hs_put, hs_63, NH_at, NH_put, NH_cpy, ni_add, ni_mul, ni_clamp, ni_in, ni_eq, ni_lt, ni_le, ni_sub, Nat.reduceAdd, Nat.reduceMul, Nat.reduceSub, eq_self, true_implies, not_true_eq_false, false_implies, and_true, true_and, not_false_eq_true, Nat.reduceEqDiff, Nat.reduceLeDiff, Nat.reduceLT, implies_true, ite_true, ite_false]
    unfold sp_behind at hq hq0
    rw [cif_pos z1] at hq hq0
    obtain ⟨p, hp, rfl⟩ := z1
    rw [ni_clamp (by omega)] at hq hq0
    have hpe := hW.p (show p < 8 by omega)
    refine r_own (by omega) (by omega) ?_
    have fin : ∀ (pl' : Int32) (m9 k' : Nat) (v11 : Option am_V) (bs : List Nat), bhF g (A5 a b c' d' e) 5 0 (og g p 0) = some bs → am_R tT E (d + 4) mX12_behind Q 142 [some (.inr 63), some (.inl (nI p)), some (.inl a), some (.inl b), some (.inl c'), some (.inl d'), some (.inl e), some (.inl pl'), some (.inl (nI bs.length)), some (.inl (nI m9)), some (.inl (nI k')), v11] [] (hs h g) := by
      intro pl' m9 k' v11 bs hbs
      obtain ⟨b1, b2, b3, b4⟩ := bhF_ok w2 _ _ _ _ hbs
      rw [hbs] at hq hq0
      refine am_goS gX12_behind [160] 400 ?_
      simp only [am_eqs, am_eqk, am_eqv, lX12_behind_0, lX12_behind_1, lX12_behind_2, lX12_behind_3, lX12_behind_4, lX12_behind_5, fx_ref, ↓reduceIte, List.mem_cons, List.not_mem_nil, or_false, or_self, false_or, true_and, and_true, Nat.reduceEqDiff, reduceCtorEq, List.length_cons, List.length_nil, Nat.reduceAdd, Nat.reduceLeDiff, Nat.reduceSub, Nat.reduceLT, Nat.zero_le, Nat.zero_add, forall_const, not_true_eq_false, not_false_eq_true, false_implies, true_implies, implies_true, Nat.zero_lt_succ, am_z0, am_z1]
      simp (disch := omega) only [hs_at, hs_put, hs_63, NH_at, NH_put, NH_cpy, ni_add, ni_mul, ni_clamp, ni_in, ni_eq, ni_lt, ni_le, ni_sub, Nat.reduceAdd, Nat.reduceMul, Nat.reduceSub, eq_self, true_implies, not_true_eq_false, false_implies, and_true, true_and, not_false_eq_true, Nat.reduceEqDiff, Nat.reduceLeDiff, Nat.reduceLT, implies_true, ite_true, ite_false]
      refine ⟨fun e0 => ?_, fun e0 => ?_⟩
      · have : bs = [] := List.length_eq_zero_iff.mp e0
        subst this
        exact hq0
      · refine r_laysAside (by omega) (fun h1 f1 f2 _ => ?_)
        simp only [Nat.mul_zero, Nat.zero_add] at f2
        refine r_walk (h := h1) (o := wkG lw p bs g) b1 hW hp hL hok (fun g2 h2 i' th s1 s2 s3 => ?_) bs 0 g h1 b3 (by omega) hW (fun _ _ => rfl) b2 rfl (fun _ _ _ => rfl)
        have hrs : resM g2 g = g := by
          funext j
          unfold resM
          split
          · rfl
          · exact s1 j (by omega)
        have hl67 : ∀ k, k < 370 → h2 67 (370 * 0 + k) = nI (g (90 + k)) := by
          intro k hk
          rw [s2 67 (by omega) (by omega), Nat.mul_zero, Nat.zero_add]
          exact f2 k hk
        have hans := hq h2 (fun q x67 x71 x72 => by rw [s2 q x71 x72]; exact f1 q x67)
        match bs, e0 with
        | b0 :: r, _ =>
          simp only at hans
          refine am_goS gX12_behind [] 400 ?_
          simp only [am_eqs, am_eqk, am_eqv, lX12_behind_0, lX12_behind_1, lX12_behind_2, lX12_behind_3, lX12_behind_4, lX12_behind_5, fx_ref, ↓reduceIte, List.mem_cons, List.not_mem_nil, or_false, or_self, false_or, true_and, and_true, Nat.reduceEqDiff, reduceCtorEq, List.length_cons, List.length_nil, Nat.reduceAdd, Nat.reduceLeDiff, Nat.reduceSub, Nat.reduceLT, Nat.zero_le, Nat.zero_add, forall_const, not_true_eq_false, not_false_eq_true, false_implies, true_implies, implies_true, Nat.zero_lt_succ, am_z0, am_z1]
          rcases s3 with ⟨rfl, e3⟩ | ⟨rfl, e3, hW3⟩
          · rw [e3] at hans
            simp (disch := omega) only [hs_at, hs_put, hs_63, NH_at, NH_put, NH_cpy, ni_add, ni_mul, ni_clamp, ni_in, ni_eq, ni_lt, ni_le, ni_sub, Nat.reduceAdd, Nat.reduceMul, Nat.reduceSub, eq_self, true_implies, not_true_eq_false, false_implies, and_true, true_and, not_false_eq_true, Nat.reduceEqDiff, Nat.reduceLeDiff, Nat.reduceLT, implies_true, ite_true, ite_false]
            refine r_putsBack (g0 := g) (by omega) hl67 ?_
            rw [hrs]
            exact hans
          · rw [e3] at hans
            have hpe2 := hW3.p (show p < 8 by omega)
            have w0 := hW3.1.1
            simp (disch := omega) only [hs_at, hs_put, hs_63, NH_at, NH_put, NH_cpy, ni_add, ni_mul, ni_clamp, ni_in, ni_eq, ni_lt, ni_le, ni_sub, Nat.reduceAdd, Nat.reduceMul, Nat.reduceSub, eq_self, true_implies, not_true_eq_false, false_implies, and_true, true_and, not_false_eq_true, Nat.reduceEqDiff, Nat.reduceLeDiff, Nat.reduceLT, implies_true, ite_true, ite_false]
            refine r_had (by omega) hpe2.2.2.1 (hpe2.r20 w0) ?_
            refine r_putsBack (g0 := g) (by omega) hl67 ?_
            rw [hrs]
            exact hans
    have loop : ∀ n k pl (pre : List Nat) (v11 : Option am_V), k + n = 5 → pl < 8 → pre.length = k → bhF g (A5 a b c' d' e) 5 0 (og g p 0) = (bhF g (A5 a b c' d' e) n k pl).map (fun l => pre ++ l) → am_R tT E (d + 4) mX12_behind Q 27 [some (.inr 63), some (.inl (nI p)), some (.inl a), some (.inl b), some (.inl c'), some (.inl d'), some (.inl e), some (.inl (nI pl)), some (.inl (nI k)), some (.inl (nI 1)), some (.inl (nI k)), v11] [] (hs h g) := by
      intro n
      induction n with
      | zero =>
        intro k pl pre v11 hk hpl hpre hb
        have hfin := fin (nI pl) 1 k v11 pre (by rw [hb]; simp [bhF])
        rw [hpre] at hfin
        refine am_goS gX12_behind [27, 142] 400 ?_
        simp only [am_eqs, am_eqk, am_eqv, lX12_behind_0, lX12_behind_1, lX12_behind_2, lX12_behind_3, lX12_behind_4, lX12_behind_5, fx_ref, ↓reduceIte, List.mem_cons, List.not_mem_nil, or_false, or_self, false_or, true_and, and_true, Nat.reduceEqDiff, reduceCtorEq, List.length_cons, List.length_nil, Nat.reduceAdd, Nat.reduceLeDiff, Nat.reduceSub, Nat.reduceLT, Nat.zero_le, Nat.zero_add, forall_const, not_true_eq_false, not_false_eq_true, false_implies, true_implies, implies_true, Nat.zero_lt_succ, am_z0, am_z1]
        simp (disch := omega) only [hs_at, hs_put, hs_63, NH_at, NH_put, NH_cpy, ni_add, ni_mul, ni_clamp, ni_in, ni_eq, ni_lt, ni_le, ni_sub, Nat.reduceAdd, Nat.reduceMul, Nat.reduceSub, eq_self, true_implies, not_true_eq_false, false_implies, and_true, true_and, not_false_eq_true, Nat.reduceEqDiff, Nat.reduceLeDiff, Nat.reduceLT, implies_true, ite_true, ite_false]
        exact ⟨fun _ => hfin, fun z => absurd z (by omega)⟩
      | succ n ih =>
        intro k pl pre v11 hk hpl hpre hb
        refine am_goS gX12_behind [27, 81, 142] 400 ?_
        simp only [am_eqs, am_eqk, am_eqv, lX12_behind_0, lX12_behind_1, lX12_behind_2, lX12_behind_3, lX12_behind_4, lX12_behind_5, fx_ref, ↓reduceIte, List.mem_cons, List.not_mem_nil, or_false, or_self, false_or, true_and, and_true, Nat.reduceEqDiff, reduceCtorEq, List.length_cons, List.length_nil, Nat.reduceAdd, Nat.reduceLeDiff, Nat.reduceSub, Nat.reduceLT, Nat.zero_le, Nat.zero_add, forall_const, not_true_eq_false, not_false_eq_true, false_implies, true_implies, implies_true, Nat.zero_lt_succ, am_z0, am_z1]
        simp (disch := omega) only [hs_at, hs_put, hs_63, NH_at, NH_put, NH_cpy, ni_add, ni_mul, ni_clamp, ni_in, ni_eq, ni_lt, ni_le, ni_sub, Nat.reduceAdd, Nat.reduceMul, Nat.reduceSub, eq_self, true_implies, not_true_eq_false, false_implies, and_true, true_and, not_false_eq_true, Nat.reduceEqDiff, Nat.reduceLeDiff, Nat.reduceLT, implies_true, ite_true, ite_false]
        refine ⟨fun z => absurd z (by omega), fun _ => ?_⟩
        refine sel5 (P := fun v => am_R tT E (d + 4) mX12_behind Q 81 [some (.inr 63), some (.inl (nI p)), some (.inl a), some (.inl b), some (.inl c'), some (.inl d'), some (.inl e), some (.inl (nI pl)), some (.inl (nI k)), some (.inl (nI 1)), some (.inl (nI k)), v11] [.inl v] (hs h g)) ?_
        have unf : bhF g (A5 a b c' d' e) (n + 1) k pl = cif (A5 a b c' d' e k = -1) (some []) (cif (isB (A5 a b c' d' e k) (g 2) ∧ tou g (A5 a b c' d' e k).toNatClampNeg pl) ((bhF g (A5 a b c' d' e) n (k + 1) (oth g (A5 a b c' d' e k).toNatClampNeg pl)).map (fun l => (A5 a b c' d' e k).toNatClampNeg :: l)) none) := rfl
        rw [unf] at hb
        clear unf
        generalize A5 a b c' d' e k = v at hb
        refine am_goS gX12_behind [27, 142] 400 ?_
        simp only [am_eqs, am_eqk, am_eqv, lX12_behind_0, lX12_behind_1, lX12_behind_2, lX12_behind_3, lX12_behind_4, lX12_behind_5, fx_ref, ↓reduceIte, List.mem_cons, List.not_mem_nil, or_false, or_self, false_or, true_and, and_true, Nat.reduceEqDiff, reduceCtorEq, List.length_cons, List.length_nil, Nat.reduceAdd, Nat.reduceLeDiff, Nat.reduceSub, Nat.reduceLT, Nat.zero_le, Nat.zero_add, forall_const, not_true_eq_false, not_false_eq_true, false_implies, true_implies, implies_true, Nat.zero_lt_succ, am_z0, am_z1]
        refine ⟨fun e1 => ?_, fun e1 => ?_⟩
        · rw [cif_pos e1] at hb
          have hfin := fun pl' m9 k' v11 => fin pl' m9 k' v11 pre (by rw [hb]; simp)
          rw [hpre] at hfin
          refine am_goS gX12_behind [27, 142] 400 ?_
          simp only [am_eqs, am_eqk, am_eqv, lX12_behind_0, lX12_behind_1, lX12_behind_2, lX12_behind_3, lX12_behind_4, lX12_behind_5, fx_ref, ↓reduceIte, List.mem_cons, List.not_mem_nil, or_false, or_self, false_or, true_and, and_true, Nat.reduceEqDiff, reduceCtorEq, List.length_cons, List.length_nil, Nat.reduceAdd, Nat.reduceLeDiff, Nat.reduceSub, Nat.reduceLT, Nat.zero_le, Nat.zero_add, forall_const, not_true_eq_false, not_false_eq_true, false_implies, true_implies, implies_true, Nat.zero_lt_succ, am_z0, am_z1]
          have hf := hfin (nI pl) 0 (k + 1) (some (.inl v))
          simp (disch := omega) only [hs_at, hs_put, hs_63, NH_at, NH_put, NH_cpy, ni_add, ni_mul, ni_clamp, ni_in, ni_eq, ni_lt, ni_le, ni_sub, Nat.reduceAdd, Nat.reduceMul, Nat.reduceSub, eq_self, true_implies, not_true_eq_false, false_implies, and_true, true_and, not_false_eq_true, Nat.reduceEqDiff, Nat.reduceLeDiff, Nat.reduceLT, implies_true, ite_true, ite_false]
          exact ⟨fun _ => hf, fun _ => hf⟩
        · rw [cif_neg e1] at hb
          simp (disch := omega) only [hs_at, hs_put, hs_63, NH_at, NH_put, NH_cpy, ni_add, ni_mul, ni_clamp, ni_in, ni_eq, ni_lt, ni_le, ni_sub, Nat.reduceAdd, Nat.reduceMul, Nat.reduceSub, eq_self, true_implies, not_true_eq_false, false_implies, and_true, true_and, not_false_eq_true, Nat.reduceEqDiff, Nat.reduceLeDiff, Nat.reduceLT, implies_true, ite_true, ite_false]
          refine r_isBridge (by omega) (fun z2 => ?_) (fun z2 => ?_)
          · simp (disch := omega) only [hs_at, hs_put, hs_63, NH_at, NH_put, NH_cpy, ni_add, ni_mul, ni_clamp, ni_in, ni_eq, ni_lt, ni_le, ni_sub, Nat.reduceAdd, Nat.reduceMul, Nat.reduceSub, eq_self, true_implies, not_true_eq_false, false_implies, and_true, true_and, not_false_eq_true, Nat.reduceEqDiff, Nat.reduceLeDiff, Nat.reduceLT, implies_true, ite_true, ite_false]
            obtain ⟨b0, hb0, rfl⟩ := z2
            rw [ni_clamp (by omega)] at hb
            have hs := hW.2.2.1 b0 (by omega)
            refine r_otherEnd (by omega) hpl hs.1 hs.2 (fun z3 => ?_) (fun z3 => ?_)
            · have hot := oth_lt (x := pl) hW (show b0 < 12 by omega)
              rw [cif_pos ⟨⟨b0, hb0, rfl⟩, z3⟩] at hb
              simp (disch := omega) only [hs_at, hs_put, hs_63, NH_at, NH_put, NH_cpy, ni_add, ni_mul, ni_clamp, ni_in, ni_eq, ni_lt, ni_le, ni_sub, Nat.reduceAdd, Nat.reduceMul, Nat.reduceSub, eq_self, true_implies, not_true_eq_false, false_implies, and_true, true_and, not_false_eq_true, Nat.reduceEqDiff, Nat.reduceLeDiff, Nat.reduceLT, implies_true, ite_true, ite_false, ni_m1]
              refine ⟨fun z => absurd z (by omega), fun _ => ?_⟩
              refine ih (k + 1) _ (pre ++ [b0]) _ (by omega) hot (by simp [hpre]) ?_
              rw [hb, Option.map_map]
              congr 1
              funext l
              simp
            · rw [cif_neg (fun q => z3 q.2)] at hb
              simp only [Option.map_none] at hb
              rw [hb] at hq0
              simp (disch := omega) only [hs_at, hs_put, hs_63, NH_at, NH_put, NH_cpy, ni_add, ni_mul, ni_clamp, ni_in, ni_eq, ni_lt, ni_le, ni_sub, Nat.reduceAdd, Nat.reduceMul, Nat.reduceSub, eq_self, true_implies, not_true_eq_false, false_implies, and_true, true_and, not_false_eq_true, Nat.reduceEqDiff, Nat.reduceLeDiff, Nat.reduceLT, implies_true, ite_true, ite_false]
              exact hq0
          · rw [cif_neg (fun q => z2 q.1)] at hb
            simp only [Option.map_none] at hb
            rw [hb] at hq0
            simp (disch := omega) only [hs_at, hs_put, hs_63, NH_at, NH_put, NH_cpy, ni_add, ni_mul, ni_clamp, ni_in, ni_eq, ni_lt, ni_le, ni_sub, Nat.reduceAdd, Nat.reduceMul, Nat.reduceSub, eq_self, true_implies, not_true_eq_false, false_implies, and_true, true_and, not_false_eq_true, Nat.reduceEqDiff, Nat.reduceLeDiff, Nat.reduceLT, implies_true, ite_true, ite_false]
            exact hq0
    exact loop 5 0 _ [] none rfl hpe.1 rfl (by simp)
  · simp (disch := omega) only [hs_at, hs_put, hs_63, NH_at, NH_put, NH_cpy, ni_add, ni_mul, ni_clamp, ni_in, ni_eq, ni_lt, ni_le, ni_sub, Nat.reduceAdd, Nat.reduceMul, Nat.reduceSub, eq_self, true_implies, not_true_eq_false, false_implies, and_true, true_and, not_false_eq_true, Nat.reduceEqDiff, Nat.reduceLeDiff, Nat.reduceLT, implies_true, ite_true, ite_false]
    unfold sp_behind at hq0
    rw [cif_neg z1] at hq0
    exact hq0
end RBEH
