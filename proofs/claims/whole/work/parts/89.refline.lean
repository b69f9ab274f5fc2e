/-! ===== part 89: the reference reads a line ===== -/
section RLINE
variable {E : am_E} {d : Nat} {h : am_H} {Q : Int32 → am_H → Prop} {g : Nat → Nat} {T : Nat → Nat} {n cnt : Nat}
theorem ct_one (hA : TK T n cnt = tEND) (hc : cnt ≤ 400) : ∀ (r o d : Nat), o + r = 8 → CT E T n cnt g mX12_oneTest (d + 11 + 3 * r) (clF (TK T n) r) (2 * r + 4) true o := by
  intro r
  induction r with
  | zero =>
    intro o d ho i st h Q hP hi hst h1 h0
    have hb := TK_b (T := T) (n := n) i
    have htk := hP.tk
    have hlt := rT_lt hb
    have s6 := (rT_w hb).2.2.2.1
    have s40 := rT_sg (s := 40) hb (by omega) (by omega)
    rw [clF] at h1 h0
    have hno : (TK T n i = 10005 ∨ TK T n i = 20040) → am_C tT E (d + 10) mX12_opens [.inr 63] (hs h g) (fun v h' => (v = nI 0 → Q (nI 0) h') ∧ (¬ v = nI 0 → False)) := by
      intro z
      rw [if_pos z] at h0
      exact r_opens hP (by omega) (fun z => absurd z (by omega)) (fun _ h' er fr => ⟨fun _ => h0 _ _ rfl h' er fr, fun z => absurd rfl z⟩)
    have hyes : ¬ (TK T n i = 10005 ∨ TK T n i = 20040) → am_R tT E (d + 11 + 3 * 0) mX12_oneTest Q 92 [some (.inr 63), none] [] (hs h g) := by
      intro z
      rw [if_neg z] at h1 h0
      exact r_cmp (d := d) (by omega) hA hc hP hi hst h1 h0
    refine am_C.of (by decide) (Nat.le_of_ble_eq_true rfl) ?_
    show am_R tT E _ mX12_oneTest _ 0 [some (.inr 63), none] [] (hs h g)
    refine am_goS gX12_oneTest [16, 61, 92] 400 ?_
    simp only [am_eqs, am_eqk, am_eqv, lX12_oneTest_0, lX12_oneTest_1, lX12_oneTest_2, lX12_oneTest_3, fx_ref, ↓reduceIte, List.mem_cons, List.not_mem_nil, or_false, or_self, false_or, true_and, and_true, Nat.reduceEqDiff, reduceCtorEq, List.length_cons, List.length_nil, Nat.reduceAdd, Nat.reduceLeDiff, Nat.reduceSub, Nat.reduceLT, Nat.zero_le, Nat.zero_add, forall_const, not_true_eq_false, not_false_eq_true, false_implies, true_implies, implies_true, Nat.zero_lt_succ, am_z0, am_z1]
    try simp (disch := omega) only [hs_at, hs_put, hs_63, NH_at, NH_put, NH_cpy, ni_add, ni_mul, ni_clamp, ni_in, ni_eq, ni_lt, ni_le, ni_sub, Nat.reduceAdd, Nat.reduceMul, Nat.reduceSub, eq_self, true_implies, not_true_eq_false, false_implies, and_true, true_and, not_false_eq_true, Nat.reduceEqDiff, Nat.reduceLeDiff, Nat.reduceLT, implies_true, ite_true, ite_false, hs_63, htk]
    refine ⟨fun z => ?_, fun z => ⟨fun y => ?_, fun y => ?_⟩⟩
    · refine r_opens hP (by omega) (fun z => absurd z (by omega)) (fun _ h' er fr => ⟨fun _ => ?_, fun z => absurd rfl z⟩)
      rw [if_pos (Or.inl (s6.mp z))] at h0
      exact h0 _ _ rfl h' er fr
    · refine r_opens hP (by omega) (fun z => absurd z (by omega)) (fun _ h' er fr => ⟨fun _ => ?_, fun z => absurd rfl z⟩)
      rw [if_pos (Or.inr (s40.mp y))] at h0
      exact h0 _ _ rfl h' er fr
    · exact hyes (fun q => q.elim (fun e => z (s6.mpr e)) (fun e => y (s40.mpr e)))
  | succ r ih =>
    intro o d ho i st h Q hP hi hst h1 h0
    have hb := TK_b (T := T) (n := n) i
    have htk := hP.tk
    have hlt := rT_lt hb
    have s6 := (rT_w hb).2.2.2.1
    have s40 := rT_sg (s := 40) hb (by omega) (by omega)
    have hgc := cl_gd (A := TK T n) (cnt := cnt) hA r
    rw [clF] at h1 h0
    have eD : d + 11 + 3 * (r + 1) = (d + 1 + 3 * r) + 12 + 1 := by omega
    rw [eD]
    refine am_C.of (by decide) (Nat.le_of_ble_eq_true rfl) ?_
    show am_R tT E _ mX12_oneTest _ 0 [some (.inr 63), none] [] (hs h g)
    refine am_goS gX12_oneTest [16, 61, 92] 400 ?_
    simp only [am_eqs, am_eqk, am_eqv, lX12_oneTest_0, lX12_oneTest_1, lX12_oneTest_2, lX12_oneTest_3, fx_ref, ↓reduceIte, List.mem_cons, List.not_mem_nil, or_false, or_self, false_or, true_and, and_true, Nat.reduceEqDiff, reduceCtorEq, List.length_cons, List.length_nil, Nat.reduceAdd, Nat.reduceLeDiff, Nat.reduceSub, Nat.reduceLT, Nat.zero_le, Nat.zero_add, forall_const, not_true_eq_false, not_false_eq_true, false_implies, true_implies, implies_true, Nat.zero_lt_succ, am_z0, am_z1]
    try simp (disch := omega) only [hs_at, hs_put, hs_63, NH_at, NH_put, NH_cpy, ni_add, ni_mul, ni_clamp, ni_in, ni_eq, ni_lt, ni_le, ni_sub, Nat.reduceAdd, Nat.reduceMul, Nat.reduceSub, eq_self, true_implies, not_true_eq_false, false_implies, and_true, true_and, not_false_eq_true, Nat.reduceEqDiff, Nat.reduceLeDiff, Nat.reduceLT, implies_true, ite_true, ite_false, hs_63, htk]
    refine ⟨fun z => ?_, fun z => ⟨fun y => ?_, fun y => ?_⟩⟩
    · -- not
      have e := s6.mp z
      rw [if_pos e] at h1 h0
      have hic := lt_cnt (A := TK T n) (P := (· = 10005)) hA (by unfold tEND; omega) hi e
      have hone := ih (o + 1) (d + 2) (by omega)
      rw [show d + 2 + 11 + 3 * r = d + 1 + 3 * r + 12 by omega] at hone
      refine r_opens hP (by omega) (fun _ h2 p2 f2 => ⟨fun z => absurd z (by decide), fun _ => ?_⟩) (fun z => absurd z (by omega))
      refine am_goS gX12_oneTest [] 400 ?_
      simp only [am_eqs, am_eqk, am_eqv, lX12_oneTest_0, lX12_oneTest_1, lX12_oneTest_2, lX12_oneTest_3, fx_ref, ↓reduceIte, List.mem_cons, List.not_mem_nil, or_false, or_self, false_or, true_and, and_true, Nat.reduceEqDiff, reduceCtorEq, List.length_cons, List.length_nil, Nat.reduceAdd, Nat.reduceLeDiff, Nat.reduceSub, Nat.reduceLT, Nat.zero_le, Nat.zero_add, forall_const, not_true_eq_false, not_false_eq_true, false_implies, true_implies, implies_true, Nat.zero_lt_succ, am_z0, am_z1]
      refine hone (i + 1) st h2 _ p2 (by omega) (by omega) (fun k l hk h3 st' t' ty' p3 f3 => ⟨fun z => absurd z (by decide), fun _ => ?_⟩) (fun e1 j hk h3 er f3 => ⟨fun _ => ?_, fun z => absurd rfl z⟩)
      · obtain ⟨g1, g2, g3⟩ := hgc (i + 1) (by omega) _ _ hk
        have hlen := tkL_len st'
        rw [t'] at hlen
        obtain ⟨p4, f4⟩ := p3.dec
        have e21 := p3.2.2.2.1
        try simp (disch := omega) only [hs_at, hs_put, hs_63, NH_at, NH_put, NH_cpy, ni_add, ni_mul, ni_clamp, ni_in, ni_eq, ni_lt, ni_le, ni_sub, Nat.reduceAdd, Nat.reduceMul, Nat.reduceSub, eq_self, true_implies, not_true_eq_false, false_implies, and_true, true_and, not_false_eq_true, Nat.reduceEqDiff, Nat.reduceLeDiff, Nat.reduceLT, implies_true, ite_true, ite_false, hs_63, e21, hs_up63, Nat.add_sub_cancel]
        refine r_lay p4 (by rw [List.length_append]; omega) ⟨by omega, by omega⟩ (fun h5 p5 f5 => ?_)
        rw [hk, bnd_ok] at h1
        rw [List.append_assoc] at p5
        refine h1 _ _ rfl h5 (st' ++ [(20, 0)]) ?_ (fun S hS => ?_) p5 (f2.trans (f3.trans (f4.trans f5)))
        · rw [tkL_app, t']; rfl
        · rw [tyL_app, ty' S (by omega)]; rfl
      · rw [hk] at h0
        exact h0 _ _ rfl h3 er (f2.trans f3)
    · -- a bracket
      have e := s40.mp y
      rw [if_neg (by omega), if_pos e] at h1 h0
      have hic := lt_cnt (A := TK T n) (P := (· = 20040)) hA (by unfold tEND; omega) hi e
      have hone := ih (o + 1) d (by omega)
      rw [show d + 11 + 3 * r = d + 4 + 3 * r + 7 by omega] at hone
      have hev := ct_every hA hc hgc hone
      rw [show d + 4 + 3 * r + 8 = d + 5 + 3 * r + 7 by omega] at hev
      have han := ct_any hA hc (ev_gd hA hgc) hev
      rw [show d + 5 + 3 * r + 8 = d + 1 + 3 * r + 12 by omega] at han
      have hga := an_gd (A := TK T n) (cnt := cnt) hA hgc
      refine r_opens hP (by omega) (fun _ h2 p2 f2 => ⟨fun z => absurd z (by decide), fun _ => ?_⟩) (fun z => absurd z (by omega))
      refine am_goS gX12_oneTest [] 400 ?_
      simp only [am_eqs, am_eqk, am_eqv, lX12_oneTest_0, lX12_oneTest_1, lX12_oneTest_2, lX12_oneTest_3, fx_ref, ↓reduceIte, List.mem_cons, List.not_mem_nil, or_false, or_self, false_or, true_and, and_true, Nat.reduceEqDiff, reduceCtorEq, List.length_cons, List.length_nil, Nat.reduceAdd, Nat.reduceLeDiff, Nat.reduceSub, Nat.reduceLT, Nat.zero_le, Nat.zero_add, forall_const, not_true_eq_false, not_false_eq_true, false_implies, true_implies, implies_true, Nat.zero_lt_succ, am_z0, am_z1]
      refine han (i + 1) st h2 _ p2 (by omega) (by omega) (fun k l hk h3 st' t' ty' p3 f3 => ⟨fun z => absurd z (by decide), fun _ => ?_⟩) (fun e1 j hk h3 er f3 => ⟨fun _ => ?_, fun z => absurd rfl z⟩)
      · obtain ⟨g1, g2, g3⟩ := hga (i + 1) (by omega) _ _ hk
        have s41 := rT_sg (s := 41) (TK_b (T := T) (n := n) k) (by omega) (by omega)
        rw [hk, bnd_ok] at h1 h0
        refine r_need p3 (by omega) (fun q h4 p4 f4 => ⟨fun z => absurd z (by decide), fun _ => ?_⟩) (fun q h4 er f4 => ⟨fun _ => ?_, fun z => absurd rfl z⟩)
        · rw [if_pos (s41.mp q)] at h1
          obtain ⟨p5, f5⟩ := p4.dec
          have e21 := p4.2.2.2.1
          try simp (disch := omega) only [hs_at, hs_put, hs_63, NH_at, NH_put, NH_cpy, ni_add, ni_mul, ni_clamp, ni_in, ni_eq, ni_lt, ni_le, ni_sub, Nat.reduceAdd, Nat.reduceMul, Nat.reduceSub, eq_self, true_implies, not_true_eq_false, false_implies, and_true, true_and, not_false_eq_true, Nat.reduceEqDiff, Nat.reduceLeDiff, Nat.reduceLT, implies_true, ite_true, ite_false, hs_63, e21, hs_up63, Nat.add_sub_cancel]
          exact h1 _ _ rfl _ st' t' (ty'.le (by omega)) p5 (f2.trans (f3.trans (f4.trans f5)))
        · rw [if_neg (fun z => q (s41.mpr z))] at h0
          exact h0 _ _ rfl h4 er (f2.trans (f3.trans f4))
      · rw [hk] at h0
        exact h0 _ _ rfl h3 er (f2.trans f3)
    · have n1 : ¬ TK T n i = 10005 := fun e => z (s6.mpr e)
      have n2 : ¬ TK T n i = 20040 := fun e => y (s40.mpr e)
      rw [if_neg n1, if_neg n2] at h1 h0
      exact r_cmp (d := d + 3 + 3 * r) (by omega) hA hc hP hi hst (fun k l hk h' st' t' ty' => h1 k l hk h' st' t' (ty'.le (by omega))) h0
/-- a condition, from the ground -/
theorem ct_cond (hA : TK T n cnt = tEND) (hc : cnt ≤ 400) : CT E T n cnt g mX12_any (d + 37) (anF (TK T n) (clF (TK T n) 8)) 22 true 0 := by
  have hgc := cl_gd (A := TK T n) (cnt := cnt) hA 8
  have hone := ct_one (E := E) (g := g) hA hc 8 0 d rfl
  rw [show d + 11 + 3 * 8 = d + 28 + 7 by omega] at hone
  have hev := ct_every hA hc hgc hone
  rw [show d + 28 + 8 = d + 29 + 7 by omega] at hev
  have han := ct_any hA hc (ev_gd hA hgc) hev
  exact han
end RLINE
