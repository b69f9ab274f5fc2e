/-! ===== part 79: order of the class ===== -/
section CIORD
variable {E : am_E} {d : Nat} {h : am_H} {Q : Int32 → am_H → Prop} {g g0 : Nat → Nat} {c : Nat → Nat → Nat} {t : Nat}
theorem c_standTogether {s b : Nat} (hs0 : 0 < s) (hsN : s < 2 ^ g 1) (hb : b < g 2) (hW : WF g t) (hA : RAt g c) (h1 : okOr g s b → Q (nI 1) (NH c)) (h0 : ¬ okOr g s b → Q (nI 0) (NH c)) : am_C tT E (d + 1) mX10_standTogether [.inr 1, .inl (nI s), .inl (nI b)] (NH c) Q := by
  have w1 := hW.1.2.1
  have w2 := hW.1.2.2.1
  have hs256 : s < 256 := Nat.lt_of_lt_of_le hsN (Nat.pow_le_pow_right (by decide) w1)
  obtain ⟨q0, hq0, hb0⟩ := bit_some hs0 hsN
  have hss := hW.2.2.1 b (by omega)
  have q15 : c 15 (2 * b) = g (50 + 2 * b) := hA.1.2.2.2.2.2.2 _ (by omega)
  have q16 : c 15 (2 * b + 1) = g (51 + 2 * b) := by rw [hA.1.2.2.2.2.2.2 _ (by omega)]; congr 1; omega
  have q6 : c 6 0 = g 1 := hA.2.1.1
  refine am_C.of (by decide) (Nat.le_of_ble_eq_true rfl) ?_
  show am_R tT E _ mX10_standTogether _ 0 [some (.inr 1), some (.inl (nI s)), some (.inl (nI b)), none, none] [] (NH c)
  refine am_goS gX10_standTogether [5] 400 ?_
  simp only [am_eqs, am_eqk, am_eqv, lX10_standTogether_0, lX10_standTogether_1, fx_class, NH_at, NH_put, ↓reduceIte, List.mem_cons, List.not_mem_nil, or_false, or_self, false_or, true_and, and_true, Nat.reduceEqDiff, reduceCtorEq, List.length_cons, List.length_nil, Nat.reduceAdd, Nat.reduceLeDiff, Nat.reduceSub, Nat.reduceLT, Nat.zero_le, Nat.zero_add, forall_const, not_true_eq_false, not_false_eq_true, false_implies, true_implies, implies_true, Nat.zero_lt_succ, am_z0, am_z1]
  have loop : ∀ m p (v : Int32), p + m = g 1 → (((∀ q, q < p → s >>> q &&& 1 = 0) ∧ v = -1) ∨ ∃ pl, pl < 8 ∧ v = nI pl ∧ tou g b pl ∧ (∃ q, q < p ∧ s >>> q &&& 1 = 1) ∧ ∀ q, q < p → s >>> q &&& 1 = 1 → og g q 0 = pl) → am_R tT E (d + 1) mX10_standTogether Q 5 [some (.inr 1), some (.inl (nI s)), some (.inl (nI b)), some (.inl v), some (.inl (nI p))] [] (NH c) := by
    intro m
    induction m with
    | zero =>
      intro p v hp hinv
      have e : p = g 1 := by omega
      refine am_goS gX10_standTogether [17] 400 ?_
      simp only [am_eqs, am_eqk, am_eqv, lX10_standTogether_0, lX10_standTogether_1, fx_class, NH_at, NH_put, ↓reduceIte, List.mem_cons, List.not_mem_nil, or_false, or_self, false_or, true_and, and_true, Nat.reduceEqDiff, reduceCtorEq, List.length_cons, List.length_nil, Nat.reduceAdd, Nat.reduceLeDiff, Nat.reduceSub, Nat.reduceLT, Nat.zero_le, Nat.zero_add, forall_const, not_true_eq_false, not_false_eq_true, false_implies, true_implies, implies_true, Nat.zero_lt_succ, am_z0, am_z1]
      try simp (disch := omega) only [hs_at, hs_put, hs_63, NH_at, NH_put, NH_cpy, ni_add, ni_mul, ni_clamp, ni_in, ni_eq, ni_lt, ni_le, ni_sub, Nat.reduceAdd, Nat.reduceMul, Nat.reduceSub, eq_self, true_implies, not_true_eq_false, false_implies, and_true, true_and, not_false_eq_true, Nat.reduceEqDiff, Nat.reduceLeDiff, Nat.reduceLT, implies_true, ite_true, ite_false, q6]
      refine ⟨fun _ => ?_, fun z => absurd z (by omega)⟩
      rcases hinv with ⟨hz, -⟩ | ⟨pl, hpl, -, ht, -, hal⟩
      · have := hz q0 (by omega); omega
      · exact h1 ⟨pl, hpl, ht, fun q hq hbq => hal q (by omega) hbq⟩
    | succ m ih =>
      intro p v hp hinv
      have hb01 := bit01 s p
      have hpp := (hW.p (show p < 8 by omega)).1
      have q7 : c 7 p = og g p 0 := (hA.2.1.2 p (by omega)).1
      refine am_goS gX10_standTogether [5, 29, 45] 400 ?_
      simp only [am_eqs, am_eqk, am_eqv, lX10_standTogether_0, lX10_standTogether_1, fx_class, NH_at, NH_put, ↓reduceIte, List.mem_cons, List.not_mem_nil, or_false, or_self, false_or, true_and, and_true, Nat.reduceEqDiff, reduceCtorEq, List.length_cons, List.length_nil, Nat.reduceAdd, Nat.reduceLeDiff, Nat.reduceSub, Nat.reduceLT, Nat.zero_le, Nat.zero_add, forall_const, not_true_eq_false, not_false_eq_true, false_implies, true_implies, implies_true, Nat.zero_lt_succ, am_z0, am_z1]
      try simp (disch := omega) only [hs_at, hs_put, hs_63, NH_at, NH_put, NH_cpy, ni_add, ni_mul, ni_clamp, ni_in, ni_eq, ni_lt, ni_le, ni_sub, Nat.reduceAdd, Nat.reduceMul, Nat.reduceSub, eq_self, true_implies, not_true_eq_false, false_implies, and_true, true_and, not_false_eq_true, Nat.reduceEqDiff, Nat.reduceLeDiff, Nat.reduceLT, implies_true, ite_true, ite_false, q6, ni_shr, ni_and]
      refine ⟨fun z => absurd z (by omega), fun _ => ⟨fun z => ?_, fun z => ?_⟩⟩
      · refine ih (p + 1) v (by omega) ?_
        rcases hinv with ⟨hz, e⟩ | ⟨pl, hpl, e, ht, ⟨q1, hq1, hb1⟩, hal⟩
        · refine Or.inl ⟨fun q hq => ?_, e⟩
          by_cases e : q = p
          · rw [e]; exact z
          · exact hz q (by omega)
        · refine Or.inr ⟨pl, hpl, e, ht, ⟨q1, by omega, hb1⟩, fun q hq hbq => ?_⟩
          by_cases e : q = p
          · rw [e] at hbq; omega
          · exact hal q (by omega) hbq
      · have z1 : s >>> p &&& 1 = 1 := by omega
        have tail : ∀ pl, pl < 8 → (∀ q, q < p → s >>> q &&& 1 = 1 → og g q 0 = pl) → (pl = og g p 0 ∨ ∃ q, q < g 1 ∧ s >>> q &&& 1 = 1 ∧ og g q 0 = pl) → am_R tT E (d + 1) mX10_standTogether Q 45 [some (.inr 1), some (.inl (nI s)), some (.inl (nI b)), some (.inl (nI pl)), some (.inl (nI p))] [] (NH c) := by
          intro pl hpl hal hor
          refine am_goS gX10_standTogether [5] 400 ?_
          simp only [am_eqs, am_eqk, am_eqv, lX10_standTogether_0, lX10_standTogether_1, fx_class, NH_at, NH_put, ↓reduceIte, List.mem_cons, List.not_mem_nil, or_false, or_self, false_or, true_and, and_true, Nat.reduceEqDiff, reduceCtorEq, List.length_cons, List.length_nil, Nat.reduceAdd, Nat.reduceLeDiff, Nat.reduceSub, Nat.reduceLT, Nat.zero_le, Nat.zero_add, forall_const, not_true_eq_false, not_false_eq_true, false_implies, true_implies, implies_true, Nat.zero_lt_succ, am_z0, am_z1]
          try simp (disch := omega) only [hs_at, hs_put, hs_63, NH_at, NH_put, NH_cpy, ni_add, ni_mul, ni_clamp, ni_in, ni_eq, ni_lt, ni_le, ni_sub, Nat.reduceAdd, Nat.reduceMul, Nat.reduceSub, eq_self, true_implies, not_true_eq_false, false_implies, and_true, true_and, not_false_eq_true, Nat.reduceEqDiff, Nat.reduceLeDiff, Nat.reduceLT, implies_true, ite_true, ite_false, q7]
          refine ⟨by omega, fun y => ?_, fun y => ?_⟩
          · refine c_touches (by omega) hpl (by omega) (by omega) (fun u => ?_) (fun u => ?_)
            · rw [q15, q16] at u
              try simp (disch := omega) only [hs_at, hs_put, hs_63, NH_at, NH_put, NH_cpy, ni_add, ni_mul, ni_clamp, ni_in, ni_eq, ni_lt, ni_le, ni_sub, Nat.reduceAdd, Nat.reduceMul, Nat.reduceSub, eq_self, true_implies, not_true_eq_false, false_implies, and_true, true_and, not_false_eq_true, Nat.reduceEqDiff, Nat.reduceLeDiff, Nat.reduceLT, implies_true, ite_true, ite_false]
              refine ih (p + 1) _ (by omega) (Or.inr ⟨pl, hpl, rfl, u, ⟨p, by omega, z1⟩, fun q hq hbq => ?_⟩)
              by_cases e : q = p
              · rw [e]; exact y
              · exact hal q (by omega) hbq
            · rw [q15, q16] at u
              try simp (disch := omega) only [hs_at, hs_put, hs_63, NH_at, NH_put, NH_cpy, ni_add, ni_mul, ni_clamp, ni_in, ni_eq, ni_lt, ni_le, ni_sub, Nat.reduceAdd, Nat.reduceMul, Nat.reduceSub, eq_self, true_implies, not_true_eq_false, false_implies, and_true, true_and, not_false_eq_true, Nat.reduceEqDiff, Nat.reduceLeDiff, Nat.reduceLT, implies_true, ite_true, ite_false]
              refine h0 (fun q => ?_)
              obtain ⟨pl', hpl', hti⟩ := q
              have := hti.2 p (by omega) z1
              rw [← this, y] at hti
              exact u hti.1
          · refine h0 (fun q => ?_)
            obtain ⟨pl', hpl', hti⟩ := q
            have h3 := hti.2 p (by omega) z1
            rcases hor with e | ⟨q1, hq1, hb1, e1⟩
            · exact y e.symm
            · have := hti.2 q1 hq1 hb1
              omega
        rcases hinv with ⟨hz, e⟩ | ⟨pl, hpl, e, ht, ⟨q1, hq1, hb1⟩, hal⟩
        · subst e
          refine am_goS gX10_standTogether [45] 400 ?_
          simp only [am_eqs, am_eqk, am_eqv, lX10_standTogether_0, lX10_standTogether_1, fx_class, NH_at, NH_put, ↓reduceIte, List.mem_cons, List.not_mem_nil, or_false, or_self, false_or, true_and, and_true, Nat.reduceEqDiff, reduceCtorEq, List.length_cons, List.length_nil, Nat.reduceAdd, Nat.reduceLeDiff, Nat.reduceSub, Nat.reduceLT, Nat.zero_le, Nat.zero_add, forall_const, not_true_eq_false, not_false_eq_true, false_implies, true_implies, implies_true, Nat.zero_lt_succ, am_z0, am_z1]
          try simp (disch := omega) only [hs_at, hs_put, hs_63, NH_at, NH_put, NH_cpy, ni_add, ni_mul, ni_clamp, ni_in, ni_eq, ni_lt, ni_le, ni_sub, Nat.reduceAdd, Nat.reduceMul, Nat.reduceSub, eq_self, true_implies, not_true_eq_false, false_implies, and_true, true_and, not_false_eq_true, Nat.reduceEqDiff, Nat.reduceLeDiff, Nat.reduceLT, implies_true, ite_true, ite_false, q7]
          refine ⟨by omega, tail _ hpp (fun q hq hbq => ?_) (Or.inl rfl)⟩
          have := hz q hq
          omega
        · subst e
          refine am_goS gX10_standTogether [45] 400 ?_
          simp only [am_eqs, am_eqk, am_eqv, lX10_standTogether_0, lX10_standTogether_1, fx_class, NH_at, NH_put, ↓reduceIte, List.mem_cons, List.not_mem_nil, or_false, or_self, false_or, true_and, and_true, Nat.reduceEqDiff, reduceCtorEq, List.length_cons, List.length_nil, Nat.reduceAdd, Nat.reduceLeDiff, Nat.reduceSub, Nat.reduceLT, Nat.zero_le, Nat.zero_add, forall_const, not_true_eq_false, not_false_eq_true, false_implies, true_implies, implies_true, Nat.zero_lt_succ, am_z0, am_z1]
          try simp (disch := omega) only [hs_at, hs_put, hs_63, NH_at, NH_put, NH_cpy, ni_add, ni_mul, ni_clamp, ni_in, ni_eq, ni_lt, ni_le, ni_sub, Nat.reduceAdd, Nat.reduceMul, Nat.reduceSub, eq_self, true_implies, not_true_eq_false, false_implies, and_true, true_and, not_false_eq_true, Nat.reduceEqDiff, Nat.reduceLeDiff, Nat.reduceLT, implies_true, ite_true, ite_false, ni_m1]
          refine ⟨fun z => absurd z (by omega), fun _ => tail pl hpl hal (Or.inr ⟨q1, by omega, hb1, hal q1 hq1 hb1⟩)⟩
  exact loop (g 1) 0 (-1) (by omega) (Or.inl ⟨fun q hq => absurd hq (by omega), rfl⟩)
theorem c_ofind {lw : Lw} {s b pl : Nat} (hb : b < g 2) (hs0 : 0 < s) (hs256 : s < 256) (h6 : cntK s 20 ≤ 6) (hti : TI g s b pl) (hW : WF g t) (ht : t + 12 < 1000000) (hA : RAt g c) (hL : LC c lw) (hok : LOK lw) (h20 : c 20 3 = 0)
    (h1 : ∀ x, toF lw b s (cntK s 20) g s [] none = some x → ∀ c', RAt g c' → OC c' (cntK s 20) (some x) → (∀ o, o ≠ 7 → o ≠ 11 → o ≠ 12 → o ≠ 13 → o ≠ 16 → o ≠ 19 → o ≠ 21 → o ≠ 22 → o ≠ 60 → o ≠ 61 → o ≠ 62 → c' o = c o) → Q (nI 1) (NH c'))
    (h0 : toF lw b s (cntK s 20) g s [] none = none → ∀ c', RAt g c' → (∀ o, o ≠ 7 → o ≠ 11 → o ≠ 12 → o ≠ 13 → o ≠ 16 → o ≠ 19 → o ≠ 21 → o ≠ 22 → o ≠ 60 → o ≠ 61 → o ≠ 62 → c' o = c o) → Q (nI 0) (NH c')) :
    am_C tT E (d + 11) mX0_find [.inr 60, .inl (nI s), .inl (nI b)] (NH c) Q := by
  have w2 := hW.1.2.2.1
  refine am_C.of (by decide) (Nat.le_of_ble_eq_true rfl) ?_
  show am_R tT E _ mX0_find _ 0 [some (.inr 60), some (.inl (nI s)), some (.inl (nI b))] [] (NH c)
  refine am_goS gX0_find [] 400 ?_
  simp only [am_eqs, am_eqk, am_eqv, lX0_find_0, lX0_find_1, fx_class, NH_at, NH_put, ↓reduceIte, List.mem_cons, List.not_mem_nil, or_false, or_self, false_or, true_and, and_true, Nat.reduceEqDiff, reduceCtorEq, List.length_cons, List.length_nil, Nat.reduceAdd, Nat.reduceLeDiff, Nat.reduceSub, Nat.reduceLT, Nat.zero_le, Nat.zero_add, forall_const, not_true_eq_false, not_false_eq_true, false_implies, true_implies, implies_true, Nat.zero_lt_succ, am_z0, am_z1]
  refine c_bitCount (by omega) ?_
  try simp (disch := omega) only [hs_at, hs_put, hs_63, NH_at, NH_put, NH_cpy, ni_add, ni_mul, ni_clamp, ni_in, ni_eq, ni_lt, ni_le, ni_sub, Nat.reduceAdd, Nat.reduceMul, Nat.reduceSub, eq_self, true_implies, not_true_eq_false, false_implies, and_true, true_and, not_false_eq_true, Nat.reduceEqDiff, Nat.reduceLeDiff, Nat.reduceLT, implies_true, ite_true, ite_false, ni_m1]
  generalize hc2 : cup (cup (cup (cup c 60 2 s) 60 3 (cntK s 20)) 60 4 b) 60 5 4294967295 = c2
  have f2 : ∀ o, o ≠ 60 → c2 o = c o := fun o ho => by rw [← hc2, cup_ne _ _ _ ho, cup_ne _ _ _ ho, cup_ne _ _ _ ho, cup_ne _ _ _ ho]
  have e2 : c2 60 2 = s ∧ c2 60 3 = cntK s 20 ∧ c2 60 4 = b ∧ c2 60 5 = 4294967295 := by
    rw [← hc2]
    refine ⟨?_, ?_, ?_, ?_⟩ <;> simp [cup_app]
  have hA2 : RAt g c2 := rat_cell hA (fun o x y _ => f2 o (by omega))
  have hL2 : LC c2 lw := by
    unfold LC at *
    rw [f2 17 (by omega), f2 18 (by omega)]
    exact hL
  have hr := c_oseek (E := E) (d := d + 6 - cntK s 20) (b := b) (all := s) (size := cntK s 20) (pl := pl) hok hs256 rfl h6 (by omega) (cntK s 20) g s t (d + 10) [] none c2
  refine hr _ (by omega) hb hW (by omega) hA2 hL2 (by rw [f2 20 (by omega)]; exact h20) e2.1 e2.2.1 e2.2.2.1 hs256 rfl (by simp) trivial e2.2.2.2 hti (fun c3 r3 o3 f3 _ => ?_)
  have hfr : ∀ o, o ≠ 7 → o ≠ 11 → o ≠ 12 → o ≠ 13 → o ≠ 16 → o ≠ 19 → o ≠ 21 → o ≠ 22 → o ≠ 60 → o ≠ 61 → o ≠ 62 → c3 o = c o := fun o x1 x2 x3 x4 x5 x6 x7 x8 x9 x10 x11 => by rw [f3.1 o x1 x2 x3 x4 x5 x6 x7 x8 x9 x10 x11]; exact f2 o x9
  generalize toF lw b s (cntK s 20) g s [] none = R at h1 h0 o3
  cases R with
  | none =>
    have e5 : c3 60 5 = 4294967295 := o3
    try simp (disch := omega) only [hs_at, hs_put, hs_63, NH_at, NH_put, NH_cpy, ni_add, ni_mul, ni_clamp, ni_in, ni_eq, ni_lt, ni_le, ni_sub, Nat.reduceAdd, Nat.reduceMul, Nat.reduceSub, eq_self, true_implies, not_true_eq_false, false_implies, and_true, true_and, not_false_eq_true, Nat.reduceEqDiff, Nat.reduceLeDiff, Nat.reduceLT, implies_true, ite_true, ite_false, e5]
    exact h0 rfl c3 r3 hfr
  | some x =>
    have e5 : c3 60 5 = x.1 := o3.1
    have e20 := o3.2.2.1
    try simp (disch := omega) only [hs_at, hs_put, hs_63, NH_at, NH_put, NH_cpy, ni_add, ni_mul, ni_clamp, ni_in, ni_eq, ni_lt, ni_le, ni_sub, Nat.reduceAdd, Nat.reduceMul, Nat.reduceSub, eq_self, true_implies, not_true_eq_false, false_implies, and_true, true_and, not_false_eq_true, Nat.reduceEqDiff, Nat.reduceLeDiff, Nat.reduceLT, implies_true, ite_true, ite_false, e5]
    refine ⟨fun z => absurd z (by omega), fun _ => h1 x rfl c3 r3 o3 hfr⟩
theorem ci_order {lw : Lw} {vs vb vw : Int32} (hW : WF g t) (ht : t + 12 < 1000000) (hA : RA g c) (hL : LC c lw) (hok : LOK lw) (h20 : c 20 3 = 0) (hq : ∀ c2, RA g c2 → (∀ o, o = 0 ∨ o = 17 ∨ o = 18 ∨ o = 20 ∨ (22 < o ∧ o ≠ 60 ∧ o ≠ 61 ∧ o ≠ 62) → c2 o = c o) → Q (sp_order g lw vs vb vw) (NH c2)) : am_C tT E (d + 12) mX11_order [.inr 0, .inl vs, .inl vb, .inl vw] (NH c) Q := by
  have e1 : c 6 0 = g 1 := hA.2.1.1
  have e14 : c 14 0 = g 2 := hA.1.2.2.2.2.2.1
  have w1 := hW.1.2.1
  have w2 := hW.1.2.2.1
  have hAt : RAt g c := ⟨hA.1, hA.2.1, hA.2.2.1⟩
  have hq0 := hq c hA (fun _ _ => rfl)
  have hno : ¬ okOS g vs vb vw → Q (-1) (NH c) := fun z => by unfold sp_order at hq0; rw [cif_neg z] at hq0; exact hq0
  have hN : 1 ≤ 2 ^ g 1 ∧ 2 ^ g 1 ≤ 256 := ⟨Nat.one_le_two_pow, Nat.pow_le_pow_right (by decide) w1⟩
  obtain ⟨s, hs32, rfl⟩ := ni_all vs
  refine am_C.of (by decide) (Nat.le_of_ble_eq_true rfl) ?_
  show am_R tT E _ mX11_order _ 0 [some (.inr 0), some (.inl (nI s)), some (.inl vb), some (.inl vw), none] [] (NH c)
  refine am_goS gX11_order [60] 400 ?_
  simp only [am_eqs, am_eqk, am_eqv, lX11_order_0, lX11_order_1, lX11_order_2, fx_class, NH_at, NH_put, ↓reduceIte, List.mem_cons, List.not_mem_nil, or_false, or_self, false_or, true_and, and_true, Nat.reduceEqDiff, reduceCtorEq, List.length_cons, List.length_nil, Nat.reduceAdd, Nat.reduceLeDiff, Nat.reduceSub, Nat.reduceLT, Nat.zero_le, Nat.zero_add, forall_const, not_true_eq_false, not_false_eq_true, false_implies, true_implies, implies_true, Nat.zero_lt_succ, am_z0, am_z1]
  rw [e1, ni_ushr hs32 (by omega)]
  have hdiv : s >>> g 1 = s / 2 ^ g 1 := Nat.shiftRight_eq_div_pow s (g 1)
  have hdl : s / 2 ^ g 1 ≤ s := Nat.div_le_self _ _
  have hlt : s / 2 ^ g 1 = 0 ↔ s < 2 ^ g 1 := by rw [Nat.div_eq_zero_iff]; omega
  rw [hdiv]
  try simp (disch := omega) only [hs_at, hs_put, hs_63, NH_at, NH_put, NH_cpy, ni_add, ni_mul, ni_clamp, ni_in, ni_eq, ni_lt, ni_le, ni_sub, Nat.reduceAdd, Nat.reduceMul, Nat.reduceSub, eq_self, true_implies, not_true_eq_false, false_implies, and_true, true_and, not_false_eq_true, Nat.reduceEqDiff, Nat.reduceLeDiff, Nat.reduceLT, implies_true, ite_true, ite_false]
  refine Iff.mp and_comm ⟨fun z => ?_, fun z => ?_⟩
  · refine hno (fun q => ?_)
    obtain ⟨s', b', e1, -, h0, hl', -⟩ := q
    rw [ni_eq (by omega) (by omega)] at e1
    omega
  · have hsN := hlt.mp z
    have hcl := cnt_le s 20
    refine c_isBridge (by omega) (fun z1 => ?_) (fun z1 => ?_)
    · rw [e14] at z1
      obtain ⟨b, hb, rfl⟩ := z1
      have hinv : okOS g (nI s) (nI b) vw → 0 < s ∧ cntK s 20 ≤ 6 ∧ (vw = nI 0 ∨ ∃ k, k < cntK s 20 ∧ vw = nI (10 + k)) ∧ okOr g s b := by
        intro q
        obtain ⟨s', b', e1, e2, h0, hl', hb', h6, hv, ho⟩ := q
        have hs' : s = s' := by rw [ni_eq (by omega) (by omega)] at e1; exact e1
        have hb2 : b = b' := by rw [ni_eq (by omega) (by omega)] at e2; exact e2
        subst hs' hb2
        exact ⟨h0, h6, hv, ho⟩
      try simp (disch := omega) only [hs_at, hs_put, hs_63, NH_at, NH_put, NH_cpy, ni_add, ni_mul, ni_clamp, ni_in, ni_eq, ni_lt, ni_le, ni_sub, Nat.reduceAdd, Nat.reduceMul, Nat.reduceSub, eq_self, true_implies, not_true_eq_false, false_implies, and_true, true_and, not_false_eq_true, Nat.reduceEqDiff, Nat.reduceLeDiff, Nat.reduceLT, implies_true, ite_true, ite_false]
      refine c_bitCount (by omega) ?_
      refine c_within (fun y => ?_) (fun y => ?_)
      · rw [ni_le (by omega) (by omega), ni_le (by omega) (by omega)] at y
        have hs0 : 0 < s := by
          apply Nat.pos_of_ne_zero
          intro e
          rw [e] at y
          have : ∀ m, cntK 0 m = 0 := by
            intro m
            induction m with
            | zero => rfl
            | succ m ihm => rw [cntK, ihm, shr1]; simp
          rw [this] at y
          omega
        have main : (vw = nI 0 ∨ ∃ k, k < cntK s 20 ∧ vw = nI (10 + k)) → am_R tT E (d + 12) mX11_order Q 60 [some (.inr 0), some (.inl (nI s)), some (.inl (nI b)), some (.inl vw), some (.inl (nI (cntK s 20)))] [] (NH c) := by
          intro hvw
          refine am_goS gX11_order [] 400 ?_
          simp only [am_eqs, am_eqk, am_eqv, lX11_order_0, lX11_order_1, lX11_order_2, fx_class, NH_at, NH_put, ↓reduceIte, List.mem_cons, List.not_mem_nil, or_false, or_self, false_or, true_and, and_true, Nat.reduceEqDiff, reduceCtorEq, List.length_cons, List.length_nil, Nat.reduceAdd, Nat.reduceLeDiff, Nat.reduceSub, Nat.reduceLT, Nat.zero_le, Nat.zero_add, forall_const, not_true_eq_false, not_false_eq_true, false_implies, true_implies, implies_true, Nat.zero_lt_succ, am_z0, am_z1]
          refine c_standTogether hs0 hsN hb hW hAt (fun u => ?_) (fun u => ?_)
          · obtain ⟨pl, hpl, hti⟩ := u
            have hokp : okOS g (nI s) (nI b) vw := ⟨s, b, rfl, rfl, hs0, hsN, hb, by omega, hvw, pl, hpl, hti⟩
            unfold sp_order at hq
            rw [cif_pos hokp, ni_clamp (by omega), ni_clamp (by omega)] at hq
            have fin : ∀ c3, RAt g c3 → (∀ o, o ≠ 7 → o ≠ 11 → o ≠ 12 → o ≠ 13 → o ≠ 16 → o ≠ 19 → o ≠ 21 → o ≠ 22 → o ≠ 60 → o ≠ 61 → o ≠ 62 → c3 o = c o) → RA g c3 ∧ (∀ o, o = 0 ∨ o = 17 ∨ o = 18 ∨ o = 20 ∨ (22 < o ∧ o ≠ 60 ∧ o ≠ 61 ∧ o ≠ 62) → c3 o = c o) := by
              intro c3 r3 f3
              refine ⟨⟨r3.1, r3.2.1, r3.2.2, fun q hq => ?_⟩, fun o ho => f3 o (by omega) (by omega) (by omega) (by omega) (by omega) (by omega) (by omega) (by omega) (by omega) (by omega) (by omega)⟩
              rw [f3 10 (by omega) (by omega) (by omega) (by omega) (by omega) (by omega) (by omega) (by omega) (by omega) (by omega) (by omega)]
              exact hA.2.2.2 q hq
            try simp (disch := omega) only [hs_at, hs_put, hs_63, NH_at, NH_put, NH_cpy, ni_add, ni_mul, ni_clamp, ni_in, ni_eq, ni_lt, ni_le, ni_sub, Nat.reduceAdd, Nat.reduceMul, Nat.reduceSub, eq_self, true_implies, not_true_eq_false, false_implies, and_true, true_and, not_false_eq_true, Nat.reduceEqDiff, Nat.reduceLeDiff, Nat.reduceLT, implies_true, ite_true, ite_false]
            refine c_ofind hb hs0 (by omega) (by omega) hti hW ht hAt hL hok h20 (fun x hx c3 r3 o3 f3 => ?_) (fun hx c3 r3 f3 => ?_)
            · obtain ⟨a1, a2⟩ := fin c3 r3 f3
              have hans := hq c3 a1 a2
              rw [hx] at hans
              simp only at hans
              obtain ⟨e5, k61, x20, xl⟩ := o3
              try simp (disch := omega) only [hs_at, hs_put, hs_63, NH_at, NH_put, NH_cpy, ni_add, ni_mul, ni_clamp, ni_in, ni_eq, ni_lt, ni_le, ni_sub, Nat.reduceAdd, Nat.reduceMul, Nat.reduceSub, eq_self, true_implies, not_true_eq_false, false_implies, and_true, true_and, not_false_eq_true, Nat.reduceEqDiff, Nat.reduceLeDiff, Nat.reduceLT, implies_true, ite_true, ite_false, e5]
              refine ⟨fun e => ?_, fun e => ?_⟩
              · rw [if_pos e] at hans; exact hans
              · rw [if_neg e] at hans
                rcases hvw with hv | ⟨k, hk, rfl⟩
                · exact absurd hv e
                · rw [ni_clamp (by omega), Nat.add_sub_cancel_left] at hans
                  have hk61 := WA_get (A := fun i => nI (c3 61 i)) x.2 0 k (by omega) (CS_WA x.2 0 k61)
                  rw [Nat.zero_add] at hk61
                  try simp (disch := omega) only [hs_at, hs_put, hs_63, NH_at, NH_put, NH_cpy, ni_add, ni_mul, ni_clamp, ni_in, ni_eq, ni_lt, ni_le, ni_sub, Nat.reduceAdd, Nat.reduceMul, Nat.reduceSub, eq_self, true_implies, not_true_eq_false, false_implies, and_true, true_and, not_false_eq_true, Nat.reduceEqDiff, Nat.reduceLeDiff, Nat.reduceLT, implies_true, ite_true, ite_false, Nat.add_sub_cancel_left]
                  refine ⟨by omega, ?_⟩
                  rw [hk61]
                  exact hans
            · obtain ⟨a1, a2⟩ := fin c3 r3 f3
              have hans := hq c3 a1 a2
              rw [hx] at hans
              try simp (disch := omega) only [hs_at, hs_put, hs_63, NH_at, NH_put, NH_cpy, ni_add, ni_mul, ni_clamp, ni_in, ni_eq, ni_lt, ni_le, ni_sub, Nat.reduceAdd, Nat.reduceMul, Nat.reduceSub, eq_self, true_implies, not_true_eq_false, false_implies, and_true, true_and, not_false_eq_true, Nat.reduceEqDiff, Nat.reduceLeDiff, Nat.reduceLT, implies_true, ite_true, ite_false]
              exact hans
          · try simp (disch := omega) only [hs_at, hs_put, hs_63, NH_at, NH_put, NH_cpy, ni_add, ni_mul, ni_clamp, ni_in, ni_eq, ni_lt, ni_le, ni_sub, Nat.reduceAdd, Nat.reduceMul, Nat.reduceSub, eq_self, true_implies, not_true_eq_false, false_implies, and_true, true_and, not_false_eq_true, Nat.reduceEqDiff, Nat.reduceLeDiff, Nat.reduceLT, implies_true, ite_true, ite_false]
            exact hno (fun q => u (hinv q).2.2.2)
        try simp (disch := omega) only [hs_at, hs_put, hs_63, NH_at, NH_put, NH_cpy, ni_add, ni_mul, ni_clamp, ni_in, ni_eq, ni_lt, ni_le, ni_sub, Nat.reduceAdd, Nat.reduceMul, Nat.reduceSub, eq_self, true_implies, not_true_eq_false, false_implies, and_true, true_and, not_false_eq_true, Nat.reduceEqDiff, Nat.reduceLeDiff, Nat.reduceLT, implies_true, ite_true, ite_false]
        refine ⟨fun e => main (Or.inl e), fun e => ?_⟩
        refine c_isPart (by omega) (fun u => ?_) (fun u => ?_)
        · try simp (disch := omega) only [hs_at, hs_put, hs_63, NH_at, NH_put, NH_cpy, ni_add, ni_mul, ni_clamp, ni_in, ni_eq, ni_lt, ni_le, ni_sub, Nat.reduceAdd, Nat.reduceMul, Nat.reduceSub, eq_self, true_implies, not_true_eq_false, false_implies, and_true, true_and, not_false_eq_true, Nat.reduceEqDiff, Nat.reduceLeDiff, Nat.reduceLT, implies_true, ite_true, ite_false]
          exact main (Or.inr u)
        · try simp (disch := omega) only [hs_at, hs_put, hs_63, NH_at, NH_put, NH_cpy, ni_add, ni_mul, ni_clamp, ni_in, ni_eq, ni_lt, ni_le, ni_sub, Nat.reduceAdd, Nat.reduceMul, Nat.reduceSub, eq_self, true_implies, not_true_eq_false, false_implies, and_true, true_and, not_false_eq_true, Nat.reduceEqDiff, Nat.reduceLeDiff, Nat.reduceLT, implies_true, ite_true, ite_false]
          refine hno (fun q => ?_)
          rcases (hinv q).2.2.1 with hv | hv
          · exact e hv
          · exact u hv
      · try simp (disch := omega) only [hs_at, hs_put, hs_63, NH_at, NH_put, NH_cpy, ni_add, ni_mul, ni_clamp, ni_in, ni_eq, ni_lt, ni_le, ni_sub, Nat.reduceAdd, Nat.reduceMul, Nat.reduceSub, eq_self, true_implies, not_true_eq_false, false_implies, and_true, true_and, not_false_eq_true, Nat.reduceEqDiff, Nat.reduceLeDiff, Nat.reduceLT, implies_true, ite_true, ite_false]
        refine hno (fun q => ?_)
        have h6 := (hinv q).2.1
        have h0 := (hinv q).1
        have := lk_cnt (s := s) (by omega) (by omega)
        apply y
        rw [ni_le (by omega) (by omega), ni_le (by omega) (by omega)]
        omega
    · try simp (disch := omega) only [hs_at, hs_put, hs_63, NH_at, NH_put, NH_cpy, ni_add, ni_mul, ni_clamp, ni_in, ni_eq, ni_lt, ni_le, ni_sub, Nat.reduceAdd, Nat.reduceMul, Nat.reduceSub, eq_self, true_implies, not_true_eq_false, false_implies, and_true, true_and, not_false_eq_true, Nat.reduceEqDiff, Nat.reduceLeDiff, Nat.reduceLT, implies_true, ite_true, ite_false]
      rw [e14] at z1
      refine hno (fun q => ?_)
      obtain ⟨s', b', -, e1, -, -, h2, -⟩ := q
      exact z1 ⟨b', h2, e1⟩
end CIORD
