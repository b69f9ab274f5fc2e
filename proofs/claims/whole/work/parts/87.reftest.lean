/-! ===== part 87: the reference reads sums, tests, lines ===== -/
section RPARSE3
variable {E : am_E} {d : Nat} {h : am_H} {Q : Int32 → am_H → Prop} {g : Nat → Nat} {T : Nat → Nat} {n cnt : Nat}
theorem ct_sum {o : Nat} (hA : TK T n cnt = tEND) (hc : cnt ≤ 400) : CT E T n cnt g mX12_sumUp (d + 10) (smF (TK T n)) 3 false o := by
  intro i st h Q hP hi hst h1 h0
  have hgd := pr_gd (A := TK T n) (cnt := cnt) hA
  have hend : ¬ opS tEND := by unfold opS tEND; omega
  have hpr := fun (hA : TK T n cnt = tEND) (hc : cnt ≤ 400) => ct_product (E := E) (d := d) (T := T) (n := n) (cnt := cnt) (g := g) (o := o) hA hc
  have hpr := hpr hA hc
  refine am_C.of (by decide) (Nat.le_of_ble_eq_true rfl) ?_
  show am_R tT E _ mX12_sumUp _ 0 [some (.inr 63), none] [] (hs h g)
  refine am_goS gX12_sumUp [9] 400 ?_
  simp only [am_eqs, am_eqk, am_eqv, lX12_sumUp_0, lX12_sumUp_1, fx_ref, ↓reduceIte, List.mem_cons, List.not_mem_nil, or_false, or_self, false_or, true_and, and_true, Nat.reduceEqDiff, reduceCtorEq, List.length_cons, List.length_nil, Nat.reduceAdd, Nat.reduceLeDiff, Nat.reduceSub, Nat.reduceLT, Nat.zero_le, Nat.zero_add, forall_const, not_true_eq_false, not_false_eq_true, false_implies, true_implies, implies_true, Nat.zero_lt_succ, am_z0, am_z1]
  have loop : ∀ m j (hh : am_H) (st' : List (Nat × Nat)) (v1 : Option am_V), cnt ≤ j + m → j ≤ cnt → (st ++ st').length ≤ j → TY 3 false st' → PS T n j (st ++ st') o hh → FRr h hh → smF (TK T n) i = pre (tkL st') (tailF (TK T n) opS (fun _ => prF (TK T n)) m j) → am_R tT E (d + 10) mX12_sumUp Q 9 [some (.inr 63), v1] [] (hs hh g) := by
    intro m
    induction m with
    | zero =>
      intro j hh st' v1 hm hj hsl hty hps hfr heq
      have e : j = cnt := by omega
      have hb := TK_b (T := T) (n := n) j
      have htk := hps.tk
      have hlt := rT_lt hb
      have s43 := rT_sg (s := 43) hb (by omega) (by omega)
      have s45 := rT_sg (s := 45) hb (by omega) (by omega)
      have hno : ¬ opS (TK T n j) := by rw [e, hA]; exact hend
      rw [tail_stop hno, pre_ok, List.append_nil] at heq
      unfold opS at hno
      refine am_goS gX12_sumUp [9] 400 ?_
      simp only [am_eqs, am_eqk, am_eqv, lX12_sumUp_0, lX12_sumUp_1, fx_ref, ↓reduceIte, List.mem_cons, List.not_mem_nil, or_false, or_self, false_or, true_and, and_true, Nat.reduceEqDiff, reduceCtorEq, List.length_cons, List.length_nil, Nat.reduceAdd, Nat.reduceLeDiff, Nat.reduceSub, Nat.reduceLT, Nat.zero_le, Nat.zero_add, forall_const, not_true_eq_false, not_false_eq_true, false_implies, true_implies, implies_true, Nat.zero_lt_succ, am_z0, am_z1]
      try simp (disch := omega) only [hs_at, hs_put, hs_63, NH_at, NH_put, NH_cpy, ni_add, ni_mul, ni_clamp, ni_in, ni_eq, ni_lt, ni_le, ni_sub, Nat.reduceAdd, Nat.reduceMul, Nat.reduceSub, eq_self, true_implies, not_true_eq_false, false_implies, and_true, true_and, not_false_eq_true, Nat.reduceEqDiff, Nat.reduceLeDiff, Nat.reduceLT, implies_true, ite_true, ite_false, hs_63, htk]
      refine ⟨fun z => absurd z (by omega), fun _ => ⟨fun z => absurd z (by omega), fun _ => ?_⟩⟩
      exact h1 _ _ heq hh st' rfl hty hps hfr
    | succ m ih =>
      intro j hh st' v1 hm hj hsl hty hps hfr heq
      have hb := TK_b (T := T) (n := n) j
      have htk := hps.tk
      have hlt := rT_lt hb
      have s43 := rT_sg (s := 43) hb (by omega) (by omega)
      have s45 := rT_sg (s := 45) hb (by omega) (by omega)
      by_cases hop : opS (TK T n j)
      · have hjc := lt_cnt (A := TK T n) (P := opS) hA hend hj hop
        rw [tailF, cif_pos hop] at heq
        have go : ∀ k : Nat, k < 100 → tkS (k, 0) = [TK T n j] → (∀ S : List Bool, ty1 (k, 0) (false :: false :: S) = some (false :: S)) → am_C tT E (d + 9) mX12_next0 [.inr 63] (hs hh g) (fun _ h' => am_C tT E (d + 9) mX12_product [.inr 63] h' (fun v h' => (v = nI 0 → Q (nI 0) h') ∧ (¬ v = nI 0 → am_C tT E (d + 9) mX12_lay [.inr 63, .inl (nI k), .inl (nI 0)] h' (fun _ h' => am_R tT E (d + 10) mX12_sumUp Q 9 [some (.inr 63), some (.inl (nI k))] [] h')))) := by
          intro k hkb hk1 hk2
          refine r_nextP hps (fun h2 p2 f2 => ?_)
          refine hpr (j + 1) (st ++ st') h2 _ p2 (by omega) (by omega) (fun k1 l1 hpk h3 st2 t2 ty2 p3 f3 => ⟨fun z => absurd z (by decide), fun _ => ?_⟩) (fun e1 j1 hpk h3 er f3 => ⟨fun _ => ?_, fun z => absurd rfl z⟩)
          · obtain ⟨g1, g2, g3⟩ := hgd (j + 1) (by omega) _ _ hpk
            have hlen2 := tkL_len st2
            rw [t2] at hlen2
            refine r_lay p3 (by rw [List.length_append]; omega) ⟨hkb, by omega⟩ (fun h4 p4 f4 => ?_)
            rw [hpk, bnd_ok, pre_pre] at heq
            have e1 : st ++ st' ++ st2 ++ [(k, 0)] = st ++ (st' ++ st2 ++ [(k, 0)]) := by simp
            rw [e1] at p4
            refine ih k1 h4 (st' ++ st2 ++ [(k, 0)]) _ (by omega) g2 (by rw [← e1]; simp only [List.length_append, List.length_cons, List.length_nil] at *; omega) (TY_bin hty ty2 (by omega) hk2) p4 (hfr.trans (f2.trans (f3.trans f4))) ?_
            rw [heq, tkL_app, tkL_app]
            simp only [tkL, hk1, t2, List.append_nil, List.append_assoc]
          · rw [hpk] at heq
            exact h0 _ _ heq h3 er (hfr.trans (f2.trans f3))
        by_cases h43 : TK T n j = 20043
        · have hg := go 13 (by omega) (by rw [h43]; rfl) (fun S => rfl)
          refine am_goS gX12_sumUp [9] 400 ?_
          simp only [am_eqs, am_eqk, am_eqv, lX12_sumUp_0, lX12_sumUp_1, fx_ref, ↓reduceIte, List.mem_cons, List.not_mem_nil, or_false, or_self, false_or, true_and, and_true, Nat.reduceEqDiff, reduceCtorEq, List.length_cons, List.length_nil, Nat.reduceAdd, Nat.reduceLeDiff, Nat.reduceSub, Nat.reduceLT, Nat.zero_le, Nat.zero_add, forall_const, not_true_eq_false, not_false_eq_true, false_implies, true_implies, implies_true, Nat.zero_lt_succ, am_z0, am_z1]
          try simp (disch := omega) only [hs_at, hs_put, hs_63, NH_at, NH_put, NH_cpy, ni_add, ni_mul, ni_clamp, ni_in, ni_eq, ni_lt, ni_le, ni_sub, Nat.reduceAdd, Nat.reduceMul, Nat.reduceSub, eq_self, true_implies, not_true_eq_false, false_implies, and_true, true_and, not_false_eq_true, Nat.reduceEqDiff, Nat.reduceLeDiff, Nat.reduceLT, implies_true, ite_true, ite_false, hs_63, htk]
          exact ⟨fun _ => ⟨fun _ => hg, fun z => absurd (s43.mpr h43) (by omega)⟩, fun z => absurd (s43.mpr h43) (by omega)⟩
        · have h45 : TK T n j = 20045 := hop.resolve_left h43
          have hg := go 14 (by omega) (by rw [h45]; rfl) (fun S => rfl)
          refine am_goS gX12_sumUp [9] 400 ?_
          simp only [am_eqs, am_eqk, am_eqv, lX12_sumUp_0, lX12_sumUp_1, fx_ref, ↓reduceIte, List.mem_cons, List.not_mem_nil, or_false, or_self, false_or, true_and, and_true, Nat.reduceEqDiff, reduceCtorEq, List.length_cons, List.length_nil, Nat.reduceAdd, Nat.reduceLeDiff, Nat.reduceSub, Nat.reduceLT, Nat.zero_le, Nat.zero_add, forall_const, not_true_eq_false, not_false_eq_true, false_implies, true_implies, implies_true, Nat.zero_lt_succ, am_z0, am_z1]
          try simp (disch := omega) only [hs_at, hs_put, hs_63, NH_at, NH_put, NH_cpy, ni_add, ni_mul, ni_clamp, ni_in, ni_eq, ni_lt, ni_le, ni_sub, Nat.reduceAdd, Nat.reduceMul, Nat.reduceSub, eq_self, true_implies, not_true_eq_false, false_implies, and_true, true_and, not_false_eq_true, Nat.reduceEqDiff, Nat.reduceLeDiff, Nat.reduceLT, implies_true, ite_true, ite_false, hs_63, htk]
          exact ⟨fun z => absurd (s43.mp (by omega)) h43, fun _ => ⟨fun _ => ⟨fun z => absurd (s43.mp (by omega)) h43, fun _ => hg⟩, fun z => absurd (s45.mpr h45) (by omega)⟩⟩
      · rw [tail_stop hop, pre_ok, List.append_nil] at heq
        unfold opS at hop
        refine am_goS gX12_sumUp [9] 400 ?_
        simp only [am_eqs, am_eqk, am_eqv, lX12_sumUp_0, lX12_sumUp_1, fx_ref, ↓reduceIte, List.mem_cons, List.not_mem_nil, or_false, or_self, false_or, true_and, and_true, Nat.reduceEqDiff, reduceCtorEq, List.length_cons, List.length_nil, Nat.reduceAdd, Nat.reduceLeDiff, Nat.reduceSub, Nat.reduceLT, Nat.zero_le, Nat.zero_add, forall_const, not_true_eq_false, not_false_eq_true, false_implies, true_implies, implies_true, Nat.zero_lt_succ, am_z0, am_z1]
        try simp (disch := omega) only [hs_at, hs_put, hs_63, NH_at, NH_put, NH_cpy, ni_add, ni_mul, ni_clamp, ni_in, ni_eq, ni_lt, ni_le, ni_sub, Nat.reduceAdd, Nat.reduceMul, Nat.reduceSub, eq_self, true_implies, not_true_eq_false, false_implies, and_true, true_and, not_false_eq_true, Nat.reduceEqDiff, Nat.reduceLeDiff, Nat.reduceLT, implies_true, ite_true, ite_false, hs_63, htk]
        refine ⟨fun z => absurd (s43.mp (by omega)) (by omega), fun _ => ⟨fun z => absurd (s45.mp (by omega)) (by omega), fun _ => ?_⟩⟩
        exact h1 _ _ heq hh st' rfl hty hps hfr
  have e0 : smF (TK T n) i = bnd (prF (TK T n) i) (fun j l => pre l (tailF (TK T n) opS (fun _ => prF (TK T n)) 401 j)) := rfl
  refine hpr i st h _ hP hi hst (fun k1 l1 hpk h2 st2 t2 ty2 p2 f2 => ⟨fun z => absurd z (by decide), fun _ => ?_⟩) (fun e1 j1 hpk h2 er f2 => ⟨fun _ => ?_, fun z => absurd rfl z⟩)
  · obtain ⟨g1, g2, g3⟩ := hgd i hi _ _ hpk
    have hlen2 := tkL_len st2
    rw [t2] at hlen2
    refine loop 401 k1 h2 st2 _ (by omega) g2 (by rw [List.length_append]; omega) (ty2.le (by omega)) p2 f2 ?_
    rw [e0, hpk, bnd_ok, t2]
  · exact h0 _ _ (by rw [e0, hpk]; rfl) h2 er f2
end RPARSE3
