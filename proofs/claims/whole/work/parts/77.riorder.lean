/-! ===== part 77: order of the reference ===== -/
section RIORD
variable {E : am_E} {d : Nat} {h : am_H} {Q : Int32 → am_H → Prop} {g g0 : Nat → Nat} {c : Nat → Nat → Nat} {t : Nat}
def LPq (g : Nat → Nat) (s k : Nat) (v : Int32) : Prop := ((∀ q, k ≤ q → q < g 1 → s >>> q &&& 1 = 0) ∧ v = -1) ∨ ∃ q, k ≤ q ∧ q < g 1 ∧ s >>> q &&& 1 = 1 ∧ v = nI (og g q 0)
theorem bit_some {s N : Nat} (h0 : 0 < s) (hs : s < 2 ^ N) : ∃ q, q < N ∧ s >>> q &&& 1 = 1 := by
  apply Classical.byContradiction
  intro hn
  have hz : s = 0 := by
    apply Nat.eq_of_testBit_eq
    intro i
    rw [Nat.zero_testBit]
    by_cases hi : i < N
    · cases hb : s.testBit i with
      | false => rfl
      | true => exact absurd ⟨i, hi, by rw [shr1, hb]; rfl⟩ hn
    · exact Nat.testBit_lt_two_pow (Nat.lt_of_lt_of_le hs (Nat.pow_le_pow_right (by decide) (by omega)))
  omega
theorem r_otail {lw : Lw} {s b pl : Nat} {vw : Int32} {v4 v5 : Option am_V} (hb : b < g 2) (hs0 : 0 < s) (hsN : s < 2 ^ g 1) (h6 : cntK s 20 ≤ 6) (hvw : vw = nI 0 ∨ ∃ k, k < cntK s 20 ∧ vw = nI (10 + k)) (hti : TI g s b pl) (hW : WF g t) (hL : LRl g lw 0 0) (hok : LOK lw)
    (hq : ∀ h' : am_H, (∀ o, o ≠ 63 → o ≠ 67 → o ≠ 71 → o ≠ 72 → o ≠ 76 → o ≠ 77 → h' o = h o) → (∀ k, k ≠ 30 → h' 63 k = h 63 k) → Q (match toF lw b s (cntK s 20) g s [] none with
      | none => -1
      | some x => if vw = nI 0 then nI x.1 else nI (x.2.getD (vw.toNatClampNeg - 10) 0)) (hs h' g)) :
    am_R tT E (d + 11) mX12_order Q 162 [some (.inr 63), some (.inl (nI s)), some (.inl (nI b)), some (.inl vw), v4, v5] [] (hs h g) := by
  have w1 := hW.1.2.1
  have w2 := hW.1.2.2.1
  have hs256 : s < 256 := Nat.lt_of_lt_of_le hsN (Nat.pow_le_pow_right (by decide) w1)
  refine am_goS gX12_order [] 400 ?_
  simp only [am_eqs, am_eqk, am_eqv, lX12_order_0, lX12_order_1, lX12_order_2, lX12_order_3, lX12_order_4, fx_ref, ↓reduceIte, List.mem_cons, List.not_mem_nil, or_false, or_self, false_or, true_and, and_true, Nat.reduceEqDiff, reduceCtorEq, List.length_cons, List.length_nil, Nat.reduceAdd, Nat.reduceLeDiff, Nat.reduceSub, Nat.reduceLT, Nat.zero_le, Nat.zero_add, forall_const, not_true_eq_false, not_false_eq_true, false_implies, true_implies, implies_true, Nat.zero_lt_succ, am_z0, am_z1]
  try simp (disch := omega) only [hs_at, hs_put, hs_63, NH_at, NH_put, NH_cpy, ni_add, ni_mul, ni_clamp, ni_in, ni_eq, ni_lt, ni_le, ni_sub, Nat.reduceAdd, Nat.reduceMul, Nat.reduceSub, eq_self, true_implies, not_true_eq_false, false_implies, and_true, true_and, not_false_eq_true, Nat.reduceEqDiff, Nat.reduceLeDiff, Nat.reduceLT, implies_true, ite_true, ite_false, hs_up63]
  generalize hh2 : am_upd h 63 30 (-1) = h2
  have e30 : h2 63 30 = -1 := by rw [← hh2, am_upd_self]; simp [upd]
  have f1 : ∀ o, o ≠ 63 → h2 o = h o := fun o ho => by rw [← hh2, am_upd_ne _ _ _ ho]
  have f2 : ∀ k, k ≠ 30 → h2 63 k = h 63 k := fun k x => by rw [← hh2, am_upd_self]; simp only [upd, if_neg x]
  have hr := r_tries (E := E) (d := d + 6 - cntK s 20) (b := b) (all := s) (size := cntK s 20) (pl := pl) hok hs256 h6 (by omega) (cntK s 20) g s t (d + 10) [] none h2
  refine hr _ (by omega) hb hW hL hs256 rfl (by simp) trivial e30 hti (fun h3 o3 f3 w3 => ?_)
  have hans := hq h3 (fun o x1 x2 x3 x4 x5 x6 => by rw [f3.1 o x1 x2 x3 x4 x5 x6]; exact f1 o x1) (fun k x => by rw [f3.2.1 k x]; exact f2 k x)
  generalize toF lw b s (cntK s 20) g s [] none = R at hans o3
  cases R with
  | none =>
    have e : h3 63 30 = -1 := o3
    simp only at hans
    try simp (disch := omega) only [hs_at, hs_put, hs_63, NH_at, NH_put, NH_cpy, ni_add, ni_mul, ni_clamp, ni_in, ni_eq, ni_lt, ni_le, ni_sub, Nat.reduceAdd, Nat.reduceMul, Nat.reduceSub, eq_self, true_implies, not_true_eq_false, false_implies, and_true, true_and, not_false_eq_true, Nat.reduceEqDiff, Nat.reduceLeDiff, Nat.reduceLT, implies_true, ite_true, ite_false, hs_63, e]
    exact hans
  | some x =>
    obtain ⟨k30, k77, x20, xl⟩ := o3
    simp only at hans
    try simp (disch := omega) only [hs_at, hs_put, hs_63, NH_at, NH_put, NH_cpy, ni_add, ni_mul, ni_clamp, ni_in, ni_eq, ni_lt, ni_le, ni_sub, Nat.reduceAdd, Nat.reduceMul, Nat.reduceSub, eq_self, true_implies, not_true_eq_false, false_implies, and_true, true_and, not_false_eq_true, Nat.reduceEqDiff, Nat.reduceLeDiff, Nat.reduceLT, implies_true, ite_true, ite_false, hs_63, k30, ni_m1]
    refine ⟨fun z => absurd z (by omega), fun _ => ⟨fun e => ?_, fun e => ?_⟩⟩
    · rw [if_pos e] at hans; exact hans
    · rw [if_neg e] at hans
      rcases hvw with hv | ⟨k, hk, rfl⟩
      · exact absurd hv e
      · rw [ni_clamp (by omega), Nat.add_sub_cancel_left] at hans
        have hk77 := WA_get (A := h3 77) x.2 0 k (by omega) k77
        rw [Nat.zero_add] at hk77
        try simp (disch := omega) only [hs_at, hs_put, hs_63, NH_at, NH_put, NH_cpy, ni_add, ni_mul, ni_clamp, ni_in, ni_eq, ni_lt, ni_le, ni_sub, Nat.reduceAdd, Nat.reduceMul, Nat.reduceSub, eq_self, true_implies, not_true_eq_false, false_implies, and_true, true_and, not_false_eq_true, Nat.reduceEqDiff, Nat.reduceLeDiff, Nat.reduceLT, implies_true, ite_true, ite_false, hs_off, Nat.add_sub_cancel_left]
        refine ⟨by omega, ?_⟩
        rw [hk77]
        exact hans
theorem ri_order {lw : Lw} {vs vb vw : Int32} (hW : WF g t) (hL : LRl g lw 0 0) (hok : LOK lw) (hq : ∀ h' : am_H, (∀ o, o ≠ 63 → o ≠ 67 → o ≠ 71 → o ≠ 72 → o ≠ 76 → o ≠ 77 → h' o = h o) → (∀ k, k ≠ 30 → h' 63 k = h 63 k) → Q (sp_order g lw vs vb vw) (hs h' g)) : am_C tT E (d + 11) mX12_order [.inr 63, .inl vs, .inl vb, .inl vw] (hs h g) Q := by
  have w1 := hW.1.2.1
  have w2 := hW.1.2.2.1
  have hq0 := hq h (fun _ _ _ _ _ _ _ => rfl) (fun _ _ => rfl)
  have hno : ¬ okOS g vs vb vw → Q (-1) (hs h g) := fun z => by unfold sp_order at hq0; rw [cif_neg z] at hq0; exact hq0
  have hN : 1 ≤ 2 ^ g 1 ∧ 2 ^ g 1 ≤ 256 := ⟨Nat.one_le_two_pow, Nat.pow_le_pow_right (by decide) w1⟩
  refine am_C.of (by decide) (Nat.le_of_ble_eq_true rfl) ?_
  show am_R tT E _ mX12_order _ 0 [some (.inr 63), some (.inl vs), some (.inl vb), some (.inl vw), none, none] [] (hs h g)
  refine am_goS gX12_order [57] 400 ?_
  simp only [am_eqs, am_eqk, am_eqv, lX12_order_0, lX12_order_1, lX12_order_2, lX12_order_3, lX12_order_4, fx_ref, ↓reduceIte, List.mem_cons, List.not_mem_nil, or_false, or_self, false_or, true_and, and_true, Nat.reduceEqDiff, reduceCtorEq, List.length_cons, List.length_nil, Nat.reduceAdd, Nat.reduceLeDiff, Nat.reduceSub, Nat.reduceLT, Nat.zero_le, Nat.zero_add, forall_const, not_true_eq_false, not_false_eq_true, false_implies, true_implies, implies_true, Nat.zero_lt_succ, am_z0, am_z1]
  refine r_isBridge (by omega) (fun z1 => ?_) (fun z1 => ?_)
  · obtain ⟨b, hb, rfl⟩ := z1
    try simp (disch := omega) only [hs_at, hs_put, hs_63, NH_at, NH_put, NH_cpy, ni_add, ni_mul, ni_clamp, ni_in, ni_eq, ni_lt, ni_le, ni_sub, Nat.reduceAdd, Nat.reduceMul, Nat.reduceSub, eq_self, true_implies, not_true_eq_false, false_implies, and_true, true_and, not_false_eq_true, Nat.reduceEqDiff, Nat.reduceLeDiff, Nat.reduceLT, implies_true, ite_true, ite_false, ni_shl]
    rw [Nat.one_shiftLeft]
    refine r_isIn (fun z2 => ?_) (fun z2 => ?_)
    · obtain ⟨e2, hl⟩ := ni_ofInt (Int32.le_trans (show nI 0 ≤ nI 1 by decide) z2.1)
      generalize vs.toInt.toNat = s at e2 hl
      subst e2
      rw [ni_le (by omega) (by omega), ni_le (by omega) (by omega)] at z2
      have hsN : s < 2 ^ g 1 := by omega
      have hcl := cnt_le s 20
      try simp (disch := omega) only [hs_at, hs_put, hs_63, NH_at, NH_put, NH_cpy, ni_add, ni_mul, ni_clamp, ni_in, ni_eq, ni_lt, ni_le, ni_sub, Nat.reduceAdd, Nat.reduceMul, Nat.reduceSub, eq_self, true_implies, not_true_eq_false, false_implies, and_true, true_and, not_false_eq_true, Nat.reduceEqDiff, Nat.reduceLeDiff, Nat.reduceLT, implies_true, ite_true, ite_false]
      refine r_count (by omega) ?_
      try simp (disch := omega) only [hs_at, hs_put, hs_63, NH_at, NH_put, NH_cpy, ni_add, ni_mul, ni_clamp, ni_in, ni_eq, ni_lt, ni_le, ni_sub, Nat.reduceAdd, Nat.reduceMul, Nat.reduceSub, eq_self, true_implies, not_true_eq_false, false_implies, and_true, true_and, not_false_eq_true, Nat.reduceEqDiff, Nat.reduceLeDiff, Nat.reduceLT, implies_true, ite_true, ite_false]
      have hinv : okOS g (nI s) (nI b) vw → cntK s 20 ≤ 6 ∧ (vw = nI 0 ∨ ∃ k, k < cntK s 20 ∧ vw = nI (10 + k)) ∧ okOr g s b := by
        intro q
        obtain ⟨s', b', e1, e2, h0, hl', hb', h6, hv, ho⟩ := q
        have hs' : s = s' := by rw [ni_eq (by omega) (by omega)] at e1; exact e1
        have hb2 : b = b' := by rw [ni_eq (by omega) (by omega)] at e2; exact e2
        subst hs' hb2
        exact ⟨h6, hv, ho⟩
      refine ⟨fun z3 => hno (fun q => ?_), fun z3 => ?_⟩
      · have := (hinv q).1
        omega
      · have main : (vw = nI 0 ∨ ∃ k, k < cntK s 20 ∧ vw = nI (10 + k)) → am_R tT E (d + 11) mX12_order Q 57 [some (.inr 63), some (.inl (nI s)), some (.inl (nI b)), some (.inl vw), none, none] [] (hs h g) := by
          intro hvw
          obtain ⟨q0, hq0', hb0⟩ := bit_some (show 0 < s by omega) hsN
          have loop2 : ∀ m p pl, p + m = g 1 → pl < 8 → (∃ q, q < g 1 ∧ s >>> q &&& 1 = 1 ∧ pl = og g q 0) → (∀ q, q < p → s >>> q &&& 1 = 1 → og g q 0 = pl) → am_R tT E (d + 11) mX12_order Q 108 [some (.inr 63), some (.inl (nI s)), some (.inl (nI b)), some (.inl vw), some (.inl (nI pl)), some (.inl (nI p))] [] (hs h g) := by
            intro m
            induction m with
            | zero =>
              intro p pl hp hpl hex hal
              have e : p = g 1 := by omega
              have hss := hW.2.2.1 b (by omega)
              refine am_goS gX12_order [119, 162] 400 ?_
              simp only [am_eqs, am_eqk, am_eqv, lX12_order_0, lX12_order_1, lX12_order_2, lX12_order_3, lX12_order_4, fx_ref, ↓reduceIte, List.mem_cons, List.not_mem_nil, or_false, or_self, false_or, true_and, and_true, Nat.reduceEqDiff, reduceCtorEq, List.length_cons, List.length_nil, Nat.reduceAdd, Nat.reduceLeDiff, Nat.reduceSub, Nat.reduceLT, Nat.zero_le, Nat.zero_add, forall_const, not_true_eq_false, not_false_eq_true, false_implies, true_implies, implies_true, Nat.zero_lt_succ, am_z0, am_z1]
              try simp (disch := omega) only [hs_at, hs_put, hs_63, NH_at, NH_put, NH_cpy, ni_add, ni_mul, ni_clamp, ni_in, ni_eq, ni_lt, ni_le, ni_sub, Nat.reduceAdd, Nat.reduceMul, Nat.reduceSub, eq_self, true_implies, not_true_eq_false, false_implies, and_true, true_and, not_false_eq_true, Nat.reduceEqDiff, Nat.reduceLeDiff, Nat.reduceLT, implies_true, ite_true, ite_false]
              refine ⟨fun _ => ?_, fun z => absurd z (by omega)⟩
              refine r_otherEnd (by omega) hpl hss.1 hss.2 (fun y => ?_) (fun y => ?_)
              · have hot := oth_lt (x := pl) hW (show b < 12 by omega)
                try simp (disch := omega) only [hs_at, hs_put, hs_63, NH_at, NH_put, NH_cpy, ni_add, ni_mul, ni_clamp, ni_in, ni_eq, ni_lt, ni_le, ni_sub, Nat.reduceAdd, Nat.reduceMul, Nat.reduceSub, eq_self, true_implies, not_true_eq_false, false_implies, and_true, true_and, not_false_eq_true, Nat.reduceEqDiff, Nat.reduceLeDiff, Nat.reduceLT, implies_true, ite_true, ite_false, ni_m1]
                have hti : TI g s b pl := ⟨y, fun q hq hbq => hal q (by omega) hbq⟩
                have hokp : okOS g (nI s) (nI b) vw := ⟨s, b, rfl, rfl, by omega, hsN, hb, by omega, hvw, pl, hpl, hti⟩
                have hq' := hq
                unfold sp_order at hq'
                rw [cif_pos hokp, ni_clamp (by omega), ni_clamp (by omega)] at hq'
                have hfin := r_otail (E := E) (d := d) (Q := Q) (v4 := some (.inl (nI pl))) (v5 := some (.inl (nI p))) hb (by omega) hsN (by omega) hvw hti hW hL hok hq'
                exact ⟨fun z => absurd z (by omega), fun _ => hfin⟩
              · try simp (disch := omega) only [hs_at, hs_put, hs_63, NH_at, NH_put, NH_cpy, ni_add, ni_mul, ni_clamp, ni_in, ni_eq, ni_lt, ni_le, ni_sub, Nat.reduceAdd, Nat.reduceMul, Nat.reduceSub, eq_self, true_implies, not_true_eq_false, false_implies, and_true, true_and, not_false_eq_true, Nat.reduceEqDiff, Nat.reduceLeDiff, Nat.reduceLT, implies_true, ite_true, ite_false]
                refine hno (fun q => ?_)
                obtain ⟨pl', hpl', hti⟩ := (hinv q).2.2
                obtain ⟨q1, hq1, hb1, e1⟩ := hex
                have := hti.2 q1 hq1 hb1
                rw [← e1] at this
                rw [this] at y
                exact y hti.1
            | succ m ih =>
              intro p pl hp hpl hex hal
              have hb01 := bit01 s p
              have hpp := (hW.p (show p < 8 by omega)).1
              refine am_goS gX12_order [108, 149] 400 ?_
              simp only [am_eqs, am_eqk, am_eqv, lX12_order_0, lX12_order_1, lX12_order_2, lX12_order_3, lX12_order_4, fx_ref, ↓reduceIte, List.mem_cons, List.not_mem_nil, or_false, or_self, false_or, true_and, and_true, Nat.reduceEqDiff, reduceCtorEq, List.length_cons, List.length_nil, Nat.reduceAdd, Nat.reduceLeDiff, Nat.reduceSub, Nat.reduceLT, Nat.zero_le, Nat.zero_add, forall_const, not_true_eq_false, not_false_eq_true, false_implies, true_implies, implies_true, Nat.zero_lt_succ, am_z0, am_z1]
              try simp (disch := omega) only [hs_at, hs_put, hs_63, NH_at, NH_put, NH_cpy, ni_add, ni_mul, ni_clamp, ni_in, ni_eq, ni_lt, ni_le, ni_sub, Nat.reduceAdd, Nat.reduceMul, Nat.reduceSub, eq_self, true_implies, not_true_eq_false, false_implies, and_true, true_and, not_false_eq_true, Nat.reduceEqDiff, Nat.reduceLeDiff, Nat.reduceLT, implies_true, ite_true, ite_false, ni_shr, ni_and]
              refine ⟨fun z => absurd z (by omega), fun _ => ⟨fun z => ?_, fun z => ?_⟩⟩
              · refine r_own (by omega) (by omega) ?_
                try simp (disch := omega) only [hs_at, hs_put, hs_63, NH_at, NH_put, NH_cpy, ni_add, ni_mul, ni_clamp, ni_in, ni_eq, ni_lt, ni_le, ni_sub, Nat.reduceAdd, Nat.reduceMul, Nat.reduceSub, eq_self, true_implies, not_true_eq_false, false_implies, and_true, true_and, not_false_eq_true, Nat.reduceEqDiff, Nat.reduceLeDiff, Nat.reduceLT, implies_true, ite_true, ite_false]
                refine ⟨fun y => ?_, fun y => ?_⟩
                · refine ih (p + 1) pl (by omega) hpl hex (fun q hq hbq => ?_)
                  by_cases e : q = p
                  · rw [e]; exact y
                  · exact hal q (by omega) hbq
                · refine hno (fun q => ?_)
                  obtain ⟨pl', hpl', hti⟩ := (hinv q).2.2
                  obtain ⟨q1, hq1, hb1, e1⟩ := hex
                  have h1 := hti.2 q1 hq1 hb1
                  have h2 := hti.2 p (by omega) z
                  omega
              · refine ih (p + 1) pl (by omega) hpl hex (fun q hq hbq => ?_)
                by_cases e : q = p
                · rw [e] at hbq; omega
                · exact hal q (by omega) hbq
          have loop1 : ∀ k (v : Int32), k ≤ g 1 → LPq g s k v → am_R tT E (d + 11) mX12_order Q 70 [some (.inr 63), some (.inl (nI s)), some (.inl (nI b)), some (.inl vw), some (.inl v), some (.inl (lcl k))] [] (hs h g) := by
            intro k
            induction k with
            | zero =>
              intro v hk hlp
              rcases hlp with ⟨h0, -⟩ | ⟨q, -, hq, hbq, rfl⟩
              · have := h0 q0 (by omega) hq0'
                omega
              · refine am_goS gX12_order [75, 108] 400 ?_
                simp only [am_eqs, am_eqk, am_eqv, lX12_order_0, lX12_order_1, lX12_order_2, lX12_order_3, lX12_order_4, fx_ref, ↓reduceIte, List.mem_cons, List.not_mem_nil, or_false, or_self, false_or, true_and, and_true, Nat.reduceEqDiff, reduceCtorEq, List.length_cons, List.length_nil, Nat.reduceAdd, Nat.reduceLeDiff, Nat.reduceSub, Nat.reduceLT, Nat.zero_le, Nat.zero_add, forall_const, not_true_eq_false, not_false_eq_true, false_implies, true_implies, implies_true, Nat.zero_lt_succ, am_z0, am_z1]
                refine ⟨fun _ => loop2 (g 1) 0 _ (by omega) (hW.p (show q < 8 by omega)).1 ⟨q, hq, hbq, rfl⟩ (fun q' hq' => absurd hq' (by omega)), fun z => absurd (show lcl 0 < nI 0 by decide) z⟩
            | succ k ih =>
              intro v hk hlp
              have hb01 := bit01 s k
              rw [lcl_s]
              refine am_goS gX12_order [70, 108] 400 ?_
              simp only [am_eqs, am_eqk, am_eqv, lX12_order_0, lX12_order_1, lX12_order_2, lX12_order_3, lX12_order_4, fx_ref, ↓reduceIte, List.mem_cons, List.not_mem_nil, or_false, or_self, false_or, true_and, and_true, Nat.reduceEqDiff, reduceCtorEq, List.length_cons, List.length_nil, Nat.reduceAdd, Nat.reduceLeDiff, Nat.reduceSub, Nat.reduceLT, Nat.zero_le, Nat.zero_add, forall_const, not_true_eq_false, not_false_eq_true, false_implies, true_implies, implies_true, Nat.zero_lt_succ, am_z0, am_z1]
              try simp (disch := omega) only [hs_at, hs_put, hs_63, NH_at, NH_put, NH_cpy, ni_add, ni_mul, ni_clamp, ni_in, ni_eq, ni_lt, ni_le, ni_sub, Nat.reduceAdd, Nat.reduceMul, Nat.reduceSub, eq_self, true_implies, not_true_eq_false, false_implies, and_true, true_and, not_false_eq_true, Nat.reduceEqDiff, Nat.reduceLeDiff, Nat.reduceLT, implies_true, ite_true, ite_false, ni_shr, ni_and]
              refine ⟨fun z => absurd z (by omega), fun _ => ⟨fun z => ?_, fun z => ?_⟩⟩
              · refine r_own (by omega) (by omega) ?_
                rw [lcl_add]
                exact ih _ (by omega) (Or.inr ⟨k, Nat.le_refl _, by omega, z, rfl⟩)
              · rw [lcl_add]
                refine ih v (by omega) ?_
                rcases hlp with ⟨h0, e⟩ | ⟨q, hq1, hq2, hbq, e⟩
                · refine Or.inl ⟨fun q hq1 hq2 => ?_, e⟩
                  by_cases e : q = k
                  · rw [e]; omega
                  · exact h0 q (by omega) hq2
                · exact Or.inr ⟨q, by omega, hq2, hbq, e⟩
          refine am_goS gX12_order [70, 108] 400 ?_
          simp only [am_eqs, am_eqk, am_eqv, lX12_order_0, lX12_order_1, lX12_order_2, lX12_order_3, lX12_order_4, fx_ref, ↓reduceIte, List.mem_cons, List.not_mem_nil, or_false, or_self, false_or, true_and, and_true, Nat.reduceEqDiff, reduceCtorEq, List.length_cons, List.length_nil, Nat.reduceAdd, Nat.reduceLeDiff, Nat.reduceSub, Nat.reduceLT, Nat.zero_le, Nat.zero_add, forall_const, not_true_eq_false, not_false_eq_true, false_implies, true_implies, implies_true, Nat.zero_lt_succ, am_z0, am_z1]
          try simp (disch := omega) only [hs_at, hs_put, hs_63, NH_at, NH_put, NH_cpy, ni_add, ni_mul, ni_clamp, ni_in, ni_eq, ni_lt, ni_le, ni_sub, Nat.reduceAdd, Nat.reduceMul, Nat.reduceSub]
          have hl1 := loop1 (g 1) (-1) (Nat.le_refl _) (Or.inl ⟨fun q h1 h2 => absurd h1 (by omega), rfl⟩)
          unfold lcl at hl1
          rw [if_neg (by omega)] at hl1
          exact ⟨by omega, hl1⟩
        refine ⟨fun e => main (Or.inl e), fun e => ?_⟩
        refine r_count (by omega) ?_
        try simp (disch := omega) only [hs_at, hs_put, hs_63, NH_at, NH_put, NH_cpy, ni_add, ni_mul, ni_clamp, ni_in, ni_eq, ni_lt, ni_le, ni_sub, Nat.reduceAdd, Nat.reduceMul, Nat.reduceSub, eq_self, true_implies, not_true_eq_false, false_implies, and_true, true_and, not_false_eq_true, Nat.reduceEqDiff, Nat.reduceLeDiff, Nat.reduceLT, implies_true, ite_true, ite_false]
        refine r_isIn (fun y => ?_) (fun y => ?_)
        · obtain ⟨e2, hl2⟩ := ni_ofInt (Int32.le_trans (show nI 0 ≤ nI 10 by decide) y.1)
          rw [e2, ni_le (by omega) (by omega), ni_le (by omega) (by omega)] at y
          try simp (disch := omega) only [hs_at, hs_put, hs_63, NH_at, NH_put, NH_cpy, ni_add, ni_mul, ni_clamp, ni_in, ni_eq, ni_lt, ni_le, ni_sub, Nat.reduceAdd, Nat.reduceMul, Nat.reduceSub, eq_self, true_implies, not_true_eq_false, false_implies, and_true, true_and, not_false_eq_true, Nat.reduceEqDiff, Nat.reduceLeDiff, Nat.reduceLT, implies_true, ite_true, ite_false]
          exact main (Or.inr ⟨vw.toInt.toNat - 10, by omega, e2.trans (congrArg nI (by omega))⟩)
        · try simp (disch := omega) only [hs_at, hs_put, hs_63, NH_at, NH_put, NH_cpy, ni_add, ni_mul, ni_clamp, ni_in, ni_eq, ni_lt, ni_le, ni_sub, Nat.reduceAdd, Nat.reduceMul, Nat.reduceSub, eq_self, true_implies, not_true_eq_false, false_implies, and_true, true_and, not_false_eq_true, Nat.reduceEqDiff, Nat.reduceLeDiff, Nat.reduceLT, implies_true, ite_true, ite_false]
          refine hno (fun q => ?_)
          rcases (hinv q).2.1 with hv | ⟨k, hk, rfl⟩
          · exact e hv
          · apply y
            rw [ni_le (by omega) (by omega), ni_le (by omega) (by omega)]
            omega
    · try simp (disch := omega) only [hs_at, hs_put, hs_63, NH_at, NH_put, NH_cpy, ni_add, ni_mul, ni_clamp, ni_in, ni_eq, ni_lt, ni_le, ni_sub, Nat.reduceAdd, Nat.reduceMul, Nat.reduceSub, eq_self, true_implies, not_true_eq_false, false_implies, and_true, true_and, not_false_eq_true, Nat.reduceEqDiff, Nat.reduceLeDiff, Nat.reduceLT, implies_true, ite_true, ite_false]
      refine hno (fun q => ?_)
      obtain ⟨s', b', e1, -, h0, hl, -⟩ := q
      subst e1
      apply z2
      rw [ni_le (by omega) (by omega), ni_le (by omega) (by omega)]
      omega
  · try simp (disch := omega) only [hs_at, hs_put, hs_63, NH_at, NH_put, NH_cpy, ni_add, ni_mul, ni_clamp, ni_in, ni_eq, ni_lt, ni_le, ni_sub, Nat.reduceAdd, Nat.reduceMul, Nat.reduceSub, eq_self, true_implies, not_true_eq_false, false_implies, and_true, true_and, not_false_eq_true, Nat.reduceEqDiff, Nat.reduceLeDiff, Nat.reduceLT, implies_true, ite_true, ite_false]
    refine hno (fun q => ?_)
    obtain ⟨s', b', -, e1, -, -, h2, -⟩ := q
    exact z1 ⟨b', h2, e1⟩
end RIORD
