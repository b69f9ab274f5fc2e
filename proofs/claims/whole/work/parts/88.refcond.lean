/-! ===== part 88: the reference reads conditions ===== -/
section RPARSE4
variable {E : am_E} {d : Nat} {h : am_H} {Q : Int32 → am_H → Prop} {g : Nat → Nat} {T : Nat → Nat} {n cnt : Nat}
theorem ct_every {o nd : Nat} {cl : Nat → PR} (hA : TK T n cnt = tEND) (hc : cnt ≤ 400) (hgd : gd cnt cl) (hcl : CT E T n cnt g mX12_oneTest (d + 7) cl nd true o) : CT E T n cnt g mX12_every (d + 8) (evF (TK T n) cl) (nd + 1) true o := by
  intro i st h Q hP hi hst h1 h0
  have hend : ¬ (tEND = 10004) := by unfold tEND; omega
  refine am_C.of (by decide) (Nat.le_of_ble_eq_true rfl) ?_
  show am_R tT E _ mX12_every _ 0 [some (.inr 63)] [] (hs h g)
  refine am_goS gX12_every [9] 400 ?_
  simp only [am_eqs, am_eqk, am_eqv, lX12_every_0, fx_ref, ↓reduceIte, List.mem_cons, List.not_mem_nil, or_false, or_self, false_or, true_and, and_true, Nat.reduceEqDiff, reduceCtorEq, List.length_cons, List.length_nil, Nat.reduceAdd, Nat.reduceLeDiff, Nat.reduceSub, Nat.reduceLT, Nat.zero_le, Nat.zero_add, forall_const, not_true_eq_false, not_false_eq_true, false_implies, true_implies, implies_true, Nat.zero_lt_succ, am_z0, am_z1]
  have loop : ∀ m j (hh : am_H) (st' : List (Nat × Nat)), cnt ≤ j + m → j ≤ cnt → (st ++ st').length ≤ j → TY (nd + 1) true st' → PS T n j (st ++ st') o hh → FRr h hh → evF (TK T n) cl i = pre (tkL st') (tailF (TK T n) (· = 10004) (fun _ => cl) m j) → am_R tT E (d + 8) mX12_every Q 9 [some (.inr 63)] [] (hs hh g) := by
    intro m
    induction m with
    | zero =>
      intro j hh st' hm hj hsl hty hps hfr heq
      have e : j = cnt := by omega
      have hb := TK_b (T := T) (n := n) j
      have htk := hps.tk
      have hlt := rT_lt hb
      have s := (rT_w hb).2.2.1
      have hno : ¬ (TK T n j = 10004) := by rw [e, hA]; exact hend
      rw [tail_stop hno, pre_ok, List.append_nil] at heq
      refine am_goS gX12_every [9] 400 ?_
      simp only [am_eqs, am_eqk, am_eqv, lX12_every_0, fx_ref, ↓reduceIte, List.mem_cons, List.not_mem_nil, or_false, or_self, false_or, true_and, and_true, Nat.reduceEqDiff, reduceCtorEq, List.length_cons, List.length_nil, Nat.reduceAdd, Nat.reduceLeDiff, Nat.reduceSub, Nat.reduceLT, Nat.zero_le, Nat.zero_add, forall_const, not_true_eq_false, not_false_eq_true, false_implies, true_implies, implies_true, Nat.zero_lt_succ, am_z0, am_z1]
      try simp (disch := omega) only [hs_at, hs_put, hs_63, NH_at, NH_put, NH_cpy, ni_add, ni_mul, ni_clamp, ni_in, ni_eq, ni_lt, ni_le, ni_sub, Nat.reduceAdd, Nat.reduceMul, Nat.reduceSub, eq_self, true_implies, not_true_eq_false, false_implies, and_true, true_and, not_false_eq_true, Nat.reduceEqDiff, Nat.reduceLeDiff, Nat.reduceLT, implies_true, ite_true, ite_false, hs_63, htk]
      exact ⟨fun z => absurd (s.mp z) hno, fun _ => h1 _ _ heq hh st' rfl hty hps hfr⟩
    | succ m ih =>
      intro j hh st' hm hj hsl hty hps hfr heq
      have hb := TK_b (T := T) (n := n) j
      have htk := hps.tk
      have hlt := rT_lt hb
      have s := (rT_w hb).2.2.1
      by_cases hop : TK T n j = 10004
      · have hjc := lt_cnt (A := TK T n) (P := (· = 10004)) hA hend hj hop
        rw [tailF, cif_pos hop] at heq
        refine am_goS gX12_every [9] 400 ?_
        simp only [am_eqs, am_eqk, am_eqv, lX12_every_0, fx_ref, ↓reduceIte, List.mem_cons, List.not_mem_nil, or_false, or_self, false_or, true_and, and_true, Nat.reduceEqDiff, reduceCtorEq, List.length_cons, List.length_nil, Nat.reduceAdd, Nat.reduceLeDiff, Nat.reduceSub, Nat.reduceLT, Nat.zero_le, Nat.zero_add, forall_const, not_true_eq_false, not_false_eq_true, false_implies, true_implies, implies_true, Nat.zero_lt_succ, am_z0, am_z1]
        try simp (disch := omega) only [hs_at, hs_put, hs_63, NH_at, NH_put, NH_cpy, ni_add, ni_mul, ni_clamp, ni_in, ni_eq, ni_lt, ni_le, ni_sub, Nat.reduceAdd, Nat.reduceMul, Nat.reduceSub, eq_self, true_implies, not_true_eq_false, false_implies, and_true, true_and, not_false_eq_true, Nat.reduceEqDiff, Nat.reduceLeDiff, Nat.reduceLT, implies_true, ite_true, ite_false, hs_63, htk]
        refine ⟨fun _ => ?_, fun z => absurd (s.mpr hop) z⟩
        refine r_nextP hps (fun h2 p2 f2 => ?_)
        refine hcl (j + 1) (st ++ st') h2 _ p2 (by omega) (by omega) (fun k1 l1 hpk h3 st2 t2 ty2 p3 f3 => ⟨fun z => absurd z (by decide), fun _ => ?_⟩) (fun e1 j1 hpk h3 er f3 => ⟨fun _ => ?_, fun z => absurd rfl z⟩)
        · obtain ⟨g1, g2, g3⟩ := hgd (j + 1) (by omega) _ _ hpk
          have hlen2 := tkL_len st2
          rw [t2] at hlen2
          refine r_lay p3 (by rw [List.length_append]; omega) ⟨by omega, by omega⟩ (fun h4 p4 f4 => ?_)
          rw [hpk, bnd_ok, pre_pre, hop] at heq
          have e1 : st ++ st' ++ st2 ++ [(21, 0)] = st ++ (st' ++ st2 ++ [(21, 0)]) := by simp
          rw [e1] at p4
          refine ih k1 h4 (st' ++ st2 ++ [(21, 0)]) (by omega) g2 (by rw [← e1]; simp only [List.length_append, List.length_cons, List.length_nil] at *; omega) (TY_bin hty ty2 (by omega) (fun S => rfl)) p4 (hfr.trans (f2.trans (f3.trans f4))) ?_
          rw [heq, tkL_app, tkL_app]
          have e2 : tkS (21, 0) = [10004] := rfl
          simp only [tkL, e2, t2, List.append_nil, List.append_assoc]
        · rw [hpk] at heq
          exact h0 _ _ heq h3 er (hfr.trans (f2.trans f3))
      · rw [tail_stop hop, pre_ok, List.append_nil] at heq
        refine am_goS gX12_every [9] 400 ?_
        simp only [am_eqs, am_eqk, am_eqv, lX12_every_0, fx_ref, ↓reduceIte, List.mem_cons, List.not_mem_nil, or_false, or_self, false_or, true_and, and_true, Nat.reduceEqDiff, reduceCtorEq, List.length_cons, List.length_nil, Nat.reduceAdd, Nat.reduceLeDiff, Nat.reduceSub, Nat.reduceLT, Nat.zero_le, Nat.zero_add, forall_const, not_true_eq_false, not_false_eq_true, false_implies, true_implies, implies_true, Nat.zero_lt_succ, am_z0, am_z1]
        try simp (disch := omega) only [hs_at, hs_put, hs_63, NH_at, NH_put, NH_cpy, ni_add, ni_mul, ni_clamp, ni_in, ni_eq, ni_lt, ni_le, ni_sub, Nat.reduceAdd, Nat.reduceMul, Nat.reduceSub, eq_self, true_implies, not_true_eq_false, false_implies, and_true, true_and, not_false_eq_true, Nat.reduceEqDiff, Nat.reduceLeDiff, Nat.reduceLT, implies_true, ite_true, ite_false, hs_63, htk]
        exact ⟨fun z => absurd (s.mp z) hop, fun _ => h1 _ _ heq hh st' rfl hty hps hfr⟩
  have e0 : evF (TK T n) cl i = bnd (cl i) (fun j l => pre l (tailF (TK T n) (· = 10004) (fun _ => cl) 401 j)) := rfl
  refine hcl i st h _ hP hi hst (fun k1 l1 hpk h2 st2 t2 ty2 p2 f2 => ⟨fun z => absurd z (by decide), fun _ => ?_⟩) (fun e1 j1 hpk h2 er f2 => ⟨fun _ => ?_, fun z => absurd rfl z⟩)
  · obtain ⟨g1, g2, g3⟩ := hgd i hi _ _ hpk
    have hlen2 := tkL_len st2
    rw [t2] at hlen2
    refine loop 401 k1 h2 st2 (by omega) g2 (by rw [List.length_append]; omega) (ty2.le (by omega)) p2 f2 ?_
    rw [e0, hpk, bnd_ok, t2]
  · exact h0 _ _ (by rw [e0, hpk]; rfl) h2 er f2
theorem ct_any {o nd : Nat} {cl : Nat → PR} (hA : TK T n cnt = tEND) (hc : cnt ≤ 400) (hgd : gd cnt (evF (TK T n) cl)) (hcl : CT E T n cnt g mX12_every (d + 7) (evF (TK T n) cl) nd true o) : CT E T n cnt g mX12_any (d + 8) (anF (TK T n) cl) (nd + 1) true o := by
  intro i st h Q hP hi hst h1 h0
  have hend : ¬ (tEND = 10003) := by unfold tEND; omega
  refine am_C.of (by decide) (Nat.le_of_ble_eq_true rfl) ?_
  show am_R tT E _ mX12_any _ 0 [some (.inr 63)] [] (hs h g)
  refine am_goS gX12_any [9] 400 ?_
  simp only [am_eqs, am_eqk, am_eqv, lX12_any_0, fx_ref, ↓reduceIte, List.mem_cons, List.not_mem_nil, or_false, or_self, false_or, true_and, and_true, Nat.reduceEqDiff, reduceCtorEq, List.length_cons, List.length_nil, Nat.reduceAdd, Nat.reduceLeDiff, Nat.reduceSub, Nat.reduceLT, Nat.zero_le, Nat.zero_add, forall_const, not_true_eq_false, not_false_eq_true, false_implies, true_implies, implies_true, Nat.zero_lt_succ, am_z0, am_z1]
  have loop : ∀ m j (hh : am_H) (st' : List (Nat × Nat)), cnt ≤ j + m → j ≤ cnt → (st ++ st').length ≤ j → TY (nd + 1) true st' → PS T n j (st ++ st') o hh → FRr h hh → anF (TK T n) cl i = pre (tkL st') (tailF (TK T n) (· = 10003) (fun _ => evF (TK T n) cl) m j) → am_R tT E (d + 8) mX12_any Q 9 [some (.inr 63)] [] (hs hh g) := by
    intro m
    induction m with
    | zero =>
      intro j hh st' hm hj hsl hty hps hfr heq
      have e : j = cnt := by omega
      have hb := TK_b (T := T) (n := n) j
      have htk := hps.tk
      have hlt := rT_lt hb
      have s := (rT_w hb).2.1
      have hno : ¬ (TK T n j = 10003) := by rw [e, hA]; exact hend
      rw [tail_stop hno, pre_ok, List.append_nil] at heq
      refine am_goS gX12_any [9] 400 ?_
      simp only [am_eqs, am_eqk, am_eqv, lX12_any_0, fx_ref, ↓reduceIte, List.mem_cons, List.not_mem_nil, or_false, or_self, false_or, true_and, and_true, Nat.reduceEqDiff, reduceCtorEq, List.length_cons, List.length_nil, Nat.reduceAdd, Nat.reduceLeDiff, Nat.reduceSub, Nat.reduceLT, Nat.zero_le, Nat.zero_add, forall_const, not_true_eq_false, not_false_eq_true, false_implies, true_implies, implies_true, Nat.zero_lt_succ, am_z0, am_z1]
      try simp (disch := omega) only [hs_at, hs_put, hs_63, NH_at, NH_put, NH_cpy, ni_add, ni_mul, ni_clamp, ni_in, ni_eq, ni_lt, ni_le, ni_sub, Nat.reduceAdd, Nat.reduceMul, Nat.reduceSub, eq_self, true_implies, not_true_eq_false, false_implies, and_true, true_and, not_false_eq_true, Nat.reduceEqDiff, Nat.reduceLeDiff, Nat.reduceLT, implies_true, ite_true, ite_false, hs_63, htk]
      exact ⟨fun z => absurd (s.mp z) hno, fun _ => h1 _ _ heq hh st' rfl hty hps hfr⟩
    | succ m ih =>
      intro j hh st' hm hj hsl hty hps hfr heq
      have hb := TK_b (T := T) (n := n) j
      have htk := hps.tk
      have hlt := rT_lt hb
      have s := (rT_w hb).2.1
      by_cases hop : TK T n j = 10003
      · have hjc := lt_cnt (A := TK T n) (P := (· = 10003)) hA hend hj hop
        rw [tailF, cif_pos hop] at heq
        refine am_goS gX12_any [9] 400 ?_
        simp only [am_eqs, am_eqk, am_eqv, lX12_any_0, fx_ref, ↓reduceIte, List.mem_cons, List.not_mem_nil, or_false, or_self, false_or, true_and, and_true, Nat.reduceEqDiff, reduceCtorEq, List.length_cons, List.length_nil, Nat.reduceAdd, Nat.reduceLeDiff, Nat.reduceSub, Nat.reduceLT, Nat.zero_le, Nat.zero_add, forall_const, not_true_eq_false, not_false_eq_true, false_implies, true_implies, implies_true, Nat.zero_lt_succ, am_z0, am_z1]
        try simp (disch := omega) only [hs_at, hs_put, hs_63, NH_at, NH_put, NH_cpy, ni_add, ni_mul, ni_clamp, ni_in, ni_eq, ni_lt, ni_le, ni_sub, Nat.reduceAdd, Nat.reduceMul, Nat.reduceSub, eq_self, true_implies, not_true_eq_false, false_implies, and_true, true_and, not_false_eq_true, Nat.reduceEqDiff, Nat.reduceLeDiff, Nat.reduceLT, implies_true, ite_true, ite_false, hs_63, htk]
        refine ⟨fun _ => ?_, fun z => absurd (s.mpr hop) z⟩
        refine r_nextP hps (fun h2 p2 f2 => ?_)
        refine hcl (j + 1) (st ++ st') h2 _ p2 (by omega) (by omega) (fun k1 l1 hpk h3 st2 t2 ty2 p3 f3 => ⟨fun z => absurd z (by decide), fun _ => ?_⟩) (fun e1 j1 hpk h3 er f3 => ⟨fun _ => ?_, fun z => absurd rfl z⟩)
        · obtain ⟨g1, g2, g3⟩ := hgd (j + 1) (by omega) _ _ hpk
          have hlen2 := tkL_len st2
          rw [t2] at hlen2
          refine r_lay p3 (by rw [List.length_append]; omega) ⟨by omega, by omega⟩ (fun h4 p4 f4 => ?_)
          rw [hpk, bnd_ok, pre_pre, hop] at heq
          have e1 : st ++ st' ++ st2 ++ [(22, 0)] = st ++ (st' ++ st2 ++ [(22, 0)]) := by simp
          rw [e1] at p4
          refine ih k1 h4 (st' ++ st2 ++ [(22, 0)]) (by omega) g2 (by rw [← e1]; simp only [List.length_append, List.length_cons, List.length_nil] at *; omega) (TY_bin hty ty2 (by omega) (fun S => rfl)) p4 (hfr.trans (f2.trans (f3.trans f4))) ?_
          rw [heq, tkL_app, tkL_app]
          have e2 : tkS (22, 0) = [10003] := rfl
          simp only [tkL, e2, t2, List.append_nil, List.append_assoc]
        · rw [hpk] at heq
          exact h0 _ _ heq h3 er (hfr.trans (f2.trans f3))
      · rw [tail_stop hop, pre_ok, List.append_nil] at heq
        refine am_goS gX12_any [9] 400 ?_
        simp only [am_eqs, am_eqk, am_eqv, lX12_any_0, fx_ref, ↓reduceIte, List.mem_cons, List.not_mem_nil, or_false, or_self, false_or, true_and, and_true, Nat.reduceEqDiff, reduceCtorEq, List.length_cons, List.length_nil, Nat.reduceAdd, Nat.reduceLeDiff, Nat.reduceSub, Nat.reduceLT, Nat.zero_le, Nat.zero_add, forall_const, not_true_eq_false, not_false_eq_true, false_implies, true_implies, implies_true, Nat.zero_lt_succ, am_z0, am_z1]
        try simp (disch := omega) only [hs_at, hs_put, hs_63, NH_at, NH_put, NH_cpy, ni_add, ni_mul, ni_clamp, ni_in, ni_eq, ni_lt, ni_le, ni_sub, Nat.reduceAdd, Nat.reduceMul, Nat.reduceSub, eq_self, true_implies, not_true_eq_false, false_implies, and_true, true_and, not_false_eq_true, Nat.reduceEqDiff, Nat.reduceLeDiff, Nat.reduceLT, implies_true, ite_true, ite_false, hs_63, htk]
        exact ⟨fun z => absurd (s.mp z) hop, fun _ => h1 _ _ heq hh st' rfl hty hps hfr⟩
  have e0 : anF (TK T n) cl i = bnd (evF (TK T n) cl i) (fun j l => pre l (tailF (TK T n) (· = 10003) (fun _ => evF (TK T n) cl) 401 j)) := rfl
  refine hcl i st h _ hP hi hst (fun k1 l1 hpk h2 st2 t2 ty2 p2 f2 => ⟨fun z => absurd z (by decide), fun _ => ?_⟩) (fun e1 j1 hpk h2 er f2 => ⟨fun _ => ?_, fun z => absurd rfl z⟩)
  · obtain ⟨g1, g2, g3⟩ := hgd i hi _ _ hpk
    have hlen2 := tkL_len st2
    rw [t2] at hlen2
    refine loop 401 k1 h2 st2 (by omega) g2 (by rw [List.length_append]; omega) (ty2.le (by omega)) p2 f2 ?_
    rw [e0, hpk, bnd_ok, t2]
  · exact h0 _ _ (by rw [e0, hpk]; rfl) h2 er f2
theorem r_opens {i o : Nat} {st : List (Nat × Nat)} (hP : PS T n i st o h) (ho : o ≤ 8) (h1 : o < 8 → ∀ h' : am_H, PS T n (i + 1) st (o + 1) h' → FRr h h' → Q (nI 1) (hs h' g)) (h0 : o = 8 → ∀ h' : am_H, ER T n 3 i h' → FRr h h' → Q (nI 0) (hs h' g)) : am_C tT E (d + 8) mX12_opens [.inr 63] (hs h g) Q := by
  have e21 := hP.2.2.2.1
  refine am_C.of (by decide) (Nat.le_of_ble_eq_true rfl) ?_
  show am_R tT E _ mX12_opens _ 0 [some (.inr 63)] [] (hs h g)
  refine am_goS gX12_opens [] 400 ?_
  simp only [am_eqs, am_eqk, am_eqv, lX12_opens_0, fx_ref, ↓reduceIte, List.mem_cons, List.not_mem_nil, or_false, or_self, false_or, true_and, and_true, Nat.reduceEqDiff, reduceCtorEq, List.length_cons, List.length_nil, Nat.reduceAdd, Nat.reduceLeDiff, Nat.reduceSub, Nat.reduceLT, Nat.zero_le, Nat.zero_add, forall_const, not_true_eq_false, not_false_eq_true, false_implies, true_implies, implies_true, Nat.zero_lt_succ, am_z0, am_z1]
  try simp (disch := omega) only [hs_at, hs_put, hs_63, NH_at, NH_put, NH_cpy, ni_add, ni_mul, ni_clamp, ni_in, ni_eq, ni_lt, ni_le, ni_sub, Nat.reduceAdd, Nat.reduceMul, Nat.reduceSub, eq_self, true_implies, not_true_eq_false, false_implies, and_true, true_and, not_false_eq_true, Nat.reduceEqDiff, Nat.reduceLeDiff, Nat.reduceLT, implies_true, ite_true, ite_false, hs_63, e21, hs_up63]
  refine ⟨fun z => ?_, fun z => ?_⟩
  · refine r_bad hP.1 (fun h' er fr => ?_)
    try simp (disch := omega) only [hs_at, hs_put, hs_63, NH_at, NH_put, NH_cpy, ni_add, ni_mul, ni_clamp, ni_in, ni_eq, ni_lt, ni_le, ni_sub, Nat.reduceAdd, Nat.reduceMul, Nat.reduceSub, eq_self, true_implies, not_true_eq_false, false_implies, and_true, true_and, not_false_eq_true, Nat.reduceEqDiff, Nat.reduceLeDiff, Nat.reduceLT, implies_true, ite_true, ite_false]
    exact ⟨Or.inl rfl, h0 z h' er fr⟩
  · have hP2 : PS T n i st (o + 1) (am_upd h 63 21 (nI (o + 1))) := by
      obtain ⟨hR, e12, hsf, -, e18⟩ := hP
      refine ⟨hR.cg (am_upd_ne _ _ _ (by omega)) (fun k x y => ?_), ?_, ?_, ?_, ?_⟩
      · rw [am_upd_self]; simp only [upd, if_neg (show ¬ k = 21 by omega)]
      · rw [am_upd_self]; simp only [upd, if_neg (show ¬ 12 = 21 by omega)]; exact e12
      · rw [am_upd_ne _ _ _ (by omega)]; exact hsf
      · rw [am_upd_self]; simp [upd]
      · rw [am_upd_self]; simp only [upd, if_neg (show ¬ 18 = 21 by omega)]; exact e18
    refine r_nextP hP2 (fun h' p' f' => ?_)
    refine h1 (by omega) h' p' (FRr.trans ⟨fun o x y => am_upd_ne _ _ _ x, fun k hk => ?_⟩ f')
    rw [am_upd_self]; simp only [upd, if_neg (show ¬ k = 21 by omega)]
theorem PS.dec {i o : Nat} {st : List (Nat × Nat)} (hP : PS T n i st (o + 1) h) : PS T n i st o (am_upd h 63 21 (nI o)) ∧ FRr h (am_upd h 63 21 (nI o)) := by
  obtain ⟨hR, e12, hsf, -, e18⟩ := hP
  refine ⟨⟨hR.cg (am_upd_ne _ _ _ (by omega)) (fun k x y => ?_), ?_, ?_, ?_, ?_⟩, fun o x y => am_upd_ne _ _ _ x, fun k hk => ?_⟩
  · rw [am_upd_self]; simp only [upd, if_neg (show ¬ k = 21 by omega)]
  · rw [am_upd_self]; simp only [upd, if_neg (show ¬ 12 = 21 by omega)]; exact e12
  · rw [am_upd_ne _ _ _ (by omega)]; exact hsf
  · rw [am_upd_self]; simp [upd]
  · rw [am_upd_self]; simp only [upd, if_neg (show ¬ 18 = 21 by omega)]; exact e18
  · rw [am_upd_self]; simp only [upd, if_neg (show ¬ k = 21 by omega)]
theorem r_need {i o t : Nat} {st : List (Nat × Nat)} (hP : PS T n i st o h) (ht : t < 1000) (h1 : rT (TK T n i) = t → ∀ h' : am_H, PS T n (i + 1) st o h' → FRr h h' → Q (nI 1) (hs h' g)) (h0 : ¬ rT (TK T n i) = t → ∀ h' : am_H, ER T n 1 i h' → FRr h h' → Q (nI 0) (hs h' g)) : am_C tT E (d + 8) mX12_need [.inr 63, .inl (nI t)] (hs h g) Q := by
  have htk := hP.tk
  have hlt := rT_lt (TK_b (T := T) (n := n) i)
  refine am_C.of (by decide) (Nat.le_of_ble_eq_true rfl) ?_
  show am_R tT E _ mX12_need _ 0 [some (.inr 63), some (.inl (nI t))] [] (hs h g)
  refine am_goS gX12_need [] 400 ?_
  simp only [am_eqs, am_eqk, am_eqv, lX12_need_0, fx_ref, ↓reduceIte, List.mem_cons, List.not_mem_nil, or_false, or_self, false_or, true_and, and_true, Nat.reduceEqDiff, reduceCtorEq, List.length_cons, List.length_nil, Nat.reduceAdd, Nat.reduceLeDiff, Nat.reduceSub, Nat.reduceLT, Nat.zero_le, Nat.zero_add, forall_const, not_true_eq_false, not_false_eq_true, false_implies, true_implies, implies_true, Nat.zero_lt_succ, am_z0, am_z1]
  try simp (disch := omega) only [hs_at, hs_put, hs_63, NH_at, NH_put, NH_cpy, ni_add, ni_mul, ni_clamp, ni_in, ni_eq, ni_lt, ni_le, ni_sub, Nat.reduceAdd, Nat.reduceMul, Nat.reduceSub, eq_self, true_implies, not_true_eq_false, false_implies, and_true, true_and, not_false_eq_true, Nat.reduceEqDiff, Nat.reduceLeDiff, Nat.reduceLT, implies_true, ite_true, ite_false, hs_63, htk]
  refine ⟨fun z => ?_, fun z => ?_⟩
  · refine r_nextP hP (fun h' p' f' => ?_)
    exact h1 z h' p' f'
  · refine r_bad hP.1 (fun h' er fr => ?_)
    try simp (disch := omega) only [hs_at, hs_put, hs_63, NH_at, NH_put, NH_cpy, ni_add, ni_mul, ni_clamp, ni_in, ni_eq, ni_lt, ni_le, ni_sub, Nat.reduceAdd, Nat.reduceMul, Nat.reduceSub, eq_self, true_implies, not_true_eq_false, false_implies, and_true, true_and, not_false_eq_true, Nat.reduceEqDiff, Nat.reduceLeDiff, Nat.reduceLT, implies_true, ite_true, ite_false]
    exact ⟨Or.inl rfl, h0 z h' er fr⟩
/-- a comparison, where oneTest comes to it -/
theorem r_cmp {i o dd : Nat} {st : List (Nat × Nat)} {v1 : Option am_V} (hdd : dd = d + 11) (hA : TK T n cnt = tEND) (hc : cnt ≤ 400) (hP : PS T n i st o h) (hi : i ≤ cnt) (hst : st.length ≤ i)
    (h1 : ∀ k l, cpF (TK T n) i = .inr (k, l) → ∀ (h' : am_H) (st' : List (Nat × Nat)), tkL st' = l → TY 4 true st' → PS T n k (st ++ st') o h' → FRr h h' → Q (nI 1) (hs h' g))
    (h0 : ∀ e j, cpF (TK T n) i = .inl (e, j) → ∀ h' : am_H, ER T n e j h' → FRr h h' → Q (nI 0) (hs h' g)) : am_R tT E dd mX12_oneTest Q 92 [some (.inr 63), v1] [] (hs h g) := by
  subst hdd
  have hgd := sm_gd (A := TK T n) (cnt := cnt) hA
  have hsm := ct_sum (E := E) (d := d) (T := T) (n := n) (cnt := cnt) (g := g) (o := o) hA hc
  unfold cpF at h1 h0
  refine am_goS gX12_oneTest [101] 400 ?_
  simp only [am_eqs, am_eqk, am_eqv, lX12_oneTest_0, lX12_oneTest_1, lX12_oneTest_2, lX12_oneTest_3, fx_ref, ↓reduceIte, List.mem_cons, List.not_mem_nil, or_false, or_self, false_or, true_and, and_true, Nat.reduceEqDiff, reduceCtorEq, List.length_cons, List.length_nil, Nat.reduceAdd, Nat.reduceLeDiff, Nat.reduceSub, Nat.reduceLT, Nat.zero_le, Nat.zero_add, forall_const, not_true_eq_false, not_false_eq_true, false_implies, true_implies, implies_true, Nat.zero_lt_succ, am_z0, am_z1]
  refine hsm i st h _ hP hi hst (fun k1 l1 hpk h2 st2 t2 ty2 p2 f2 => ⟨fun z => absurd z (by decide), fun _ => ?_⟩) (fun e1 j1 hpk h2 er f2 => ⟨fun _ => ?_, fun z => absurd rfl z⟩)
  · obtain ⟨g1, g2, g3⟩ := hgd i hi _ _ hpk
    have hlen2 := tkL_len st2
    rw [t2] at hlen2
    rw [hpk, bnd_ok] at h1 h0
    have hb := TK_b (T := T) (n := n) k1
    have htk := p2.tk
    have hlt := rT_lt hb
    have s60 := rT_sg (s := 60) hb (by omega) (by omega)
    have s61 := rT_sg (s := 61) hb (by omega) (by omega)
    have s62 := rT_sg (s := 62) hb (by omega) (by omega)
    have go : ∀ w : Nat, w < 100 → tkS (w, 0) = [TK T n k1] → (∀ S : List Bool, ty1 (w, 0) (false :: false :: S) = some (true :: S)) → opC (TK T n k1) → am_R tT E (d + 11) mX12_oneTest Q 148 [some (.inr 63), some (.inl (nI w))] [] (hs h2 g) := by
      intro w hw hw1 hw2 hop
      rw [cif_pos hop] at h1 h0
      have hkc := lt_cnt (A := TK T n) (P := opC) hA (by unfold opC tEND; omega) g2 hop
      refine am_goS gX12_oneTest [] 400 ?_
      simp only [am_eqs, am_eqk, am_eqv, lX12_oneTest_0, lX12_oneTest_1, lX12_oneTest_2, lX12_oneTest_3, fx_ref, ↓reduceIte, List.mem_cons, List.not_mem_nil, or_false, or_self, false_or, true_and, and_true, Nat.reduceEqDiff, reduceCtorEq, List.length_cons, List.length_nil, Nat.reduceAdd, Nat.reduceLeDiff, Nat.reduceSub, Nat.reduceLT, Nat.zero_le, Nat.zero_add, forall_const, not_true_eq_false, not_false_eq_true, false_implies, true_implies, implies_true, Nat.zero_lt_succ, am_z0, am_z1]
      try simp (disch := omega) only [hs_at, hs_put, hs_63, NH_at, NH_put, NH_cpy, ni_add, ni_mul, ni_clamp, ni_in, ni_eq, ni_lt, ni_le, ni_sub, Nat.reduceAdd, Nat.reduceMul, Nat.reduceSub, eq_self, true_implies, not_true_eq_false, false_implies, and_true, true_and, not_false_eq_true, Nat.reduceEqDiff, Nat.reduceLeDiff, Nat.reduceLT, implies_true, ite_true, ite_false, ni_m1]
      refine ⟨fun z => absurd z (by omega), fun _ => ?_⟩
      refine r_nextP p2 (fun h3 p3 f3 => ?_)
      refine hsm (k1 + 1) (st ++ st2) h3 _ p3 (by omega) (by rw [List.length_append]; omega) (fun k2 l2 hpk2 h4 st3 t3 ty3 p4 f4 => ⟨fun z => absurd z (by decide), fun _ => ?_⟩) (fun e1 j1 hpk2 h4 er f4 => ⟨fun _ => ?_, fun z => absurd rfl z⟩)
      · obtain ⟨e1, e2, e3⟩ := hgd (k1 + 1) (by omega) _ _ hpk2
        have hlen3 := tkL_len st3
        rw [t3] at hlen3
        refine r_lay p4 (by rw [List.length_append, List.length_append]; omega) ⟨hw, by omega⟩ (fun h5 p5 f5 => ?_)
        rw [hpk2, bnd_ok] at h1
        have e1 : st ++ st2 ++ st3 ++ [(w, 0)] = st ++ (st2 ++ st3 ++ [(w, 0)]) := by simp
        rw [e1] at p5
        refine h1 _ _ rfl h5 (st2 ++ st3 ++ [(w, 0)]) ?_ (TY_bin (ty2.le (by omega)) ty3 (by omega) hw2) p5 (f2.trans (f3.trans (f4.trans f5)))
        rw [tkL_app, tkL_app]
        simp only [tkL, hw1, t2, t3, List.append_nil]
      · rw [hpk2] at h0
        exact h0 _ _ rfl h4 er (f2.trans (f3.trans f4))
    have nogo : ¬ opC (TK T n k1) → am_R tT E (d + 11) mX12_oneTest Q 148 [some (.inr 63), some (.inl (-1))] [] (hs h2 g) := by
      intro hop
      rw [cif_neg hop] at h0
      refine am_goS gX12_oneTest [] 400 ?_
      simp only [am_eqs, am_eqk, am_eqv, lX12_oneTest_0, lX12_oneTest_1, lX12_oneTest_2, lX12_oneTest_3, fx_ref, ↓reduceIte, List.mem_cons, List.not_mem_nil, or_false, or_self, false_or, true_and, and_true, Nat.reduceEqDiff, reduceCtorEq, List.length_cons, List.length_nil, Nat.reduceAdd, Nat.reduceLeDiff, Nat.reduceSub, Nat.reduceLT, Nat.zero_le, Nat.zero_add, forall_const, not_true_eq_false, not_false_eq_true, false_implies, true_implies, implies_true, Nat.zero_lt_succ, am_z0, am_z1]
      refine r_bad p2.1 (fun h' er fr => ?_)
      try simp (disch := omega) only [hs_at, hs_put, hs_63, NH_at, NH_put, NH_cpy, ni_add, ni_mul, ni_clamp, ni_in, ni_eq, ni_lt, ni_le, ni_sub, Nat.reduceAdd, Nat.reduceMul, Nat.reduceSub, eq_self, true_implies, not_true_eq_false, false_implies, and_true, true_and, not_false_eq_true, Nat.reduceEqDiff, Nat.reduceLeDiff, Nat.reduceLT, implies_true, ite_true, ite_false]
      exact ⟨Or.inl rfl, h0 _ _ rfl h' er (f2.trans fr)⟩
    unfold opC at go nogo
    refine am_goS gX12_oneTest [148] 400 ?_
    simp only [am_eqs, am_eqk, am_eqv, lX12_oneTest_0, lX12_oneTest_1, lX12_oneTest_2, lX12_oneTest_3, fx_ref, ↓reduceIte, List.mem_cons, List.not_mem_nil, or_false, or_self, false_or, true_and, and_true, Nat.reduceEqDiff, reduceCtorEq, List.length_cons, List.length_nil, Nat.reduceAdd, Nat.reduceLeDiff, Nat.reduceSub, Nat.reduceLT, Nat.zero_le, Nat.zero_add, forall_const, not_true_eq_false, not_false_eq_true, false_implies, true_implies, implies_true, Nat.zero_lt_succ, am_z0, am_z1]
    try simp (disch := omega) only [hs_at, hs_put, hs_63, NH_at, NH_put, NH_cpy, ni_add, ni_mul, ni_clamp, ni_in, ni_eq, ni_lt, ni_le, ni_sub, Nat.reduceAdd, Nat.reduceMul, Nat.reduceSub, eq_self, true_implies, not_true_eq_false, false_implies, and_true, true_and, not_false_eq_true, Nat.reduceEqDiff, Nat.reduceLeDiff, Nat.reduceLT, implies_true, ite_true, ite_false, hs_63, htk]
    refine ⟨fun z => ?_, fun z => ⟨fun y => ?_, fun y => ⟨fun x => ?_, fun x => nogo (by omega)⟩⟩⟩
    · have e := s60.mp (by omega)
      exact go 17 (by omega) (by rw [e]; rfl) (fun S => rfl) (by omega)
    · have e := s61.mp (by omega)
      exact go 18 (by omega) (by rw [e]; rfl) (fun S => rfl) (by omega)
    · have e := s62.mp (by omega)
      exact go 19 (by omega) (by rw [e]; rfl) (fun S => rfl) (by omega)
  · exact h0 _ _ (by rw [hpk]; rfl) h2 er f2
end RPARSE4
