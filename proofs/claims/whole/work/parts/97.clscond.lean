/-! ===== part 97: the class reads sums, comparisons ===== -/
section CCOND
variable {E : am_E} {d : Nat} {h : am_H} {Q : Int32 → am_H → Prop} {c : Nat → Nat → Nat} {T : Nat → Nat} {n cnt : Nat}
theorem pre_nil {r : PR} : pre [] r = r := by
  cases r with
  | inl e => rfl
  | inr x => rfl
theorem ctc_sum (hA : TK T n cnt = tEND) (hc : cnt ≤ 400) : CTc E T n cnt mX4_readSum [.inr 46] (d + 3) (smF (TK T n)) := by
  intro i cs c Q hP hi hcl h1 h0
  have hend : ¬ opS tEND := by unfold opS tEND; omega
  have hpr := ctc_product (E := E) (d := d) (T := T) (n := n) (cnt := cnt) hA hc
  have hgd := pr_gd (A := TK T n) (cnt := cnt) hA
  refine am_C.of (by decide) (Nat.le_of_ble_eq_true rfl) ?_
  show am_R tT E _ mX4_readSum _ 0 [some (.inr 46), none, none] [] (NH c)
  refine am_goS gX4_readSum [4] 400 ?_
  simp only [am_eqs, am_eqk, am_eqv, lX4_readSum_0, lX4_readSum_1, fx_class, NH_at, NH_put, ↓reduceIte, List.mem_cons, List.not_mem_nil, or_false, or_self, false_or, true_and, and_true, Nat.reduceEqDiff, reduceCtorEq, List.length_cons, List.length_nil, Nat.reduceAdd, Nat.reduceLeDiff, Nat.reduceSub, Nat.reduceLT, Nat.zero_le, Nat.zero_add, forall_const, not_true_eq_false, not_false_eq_true, false_implies, true_implies, implies_true, Nat.zero_lt_succ, am_z0, am_z1]
  have loop : ∀ m w p it (em l : List Nat) (c1 : Nat → Nat → Nat), cnt ≤ p + m → p ≤ cnt → 2 * it ≤ p → ((w = 4294967295 ∧ em = []) ∨ (opS w ∧ em = [w])) → (cs ++ l).length + em.length ≤ p → PSc T n cnt p (cs ++ l) c1 → FC c c1 → smF (TK T n) i = pre l (bnd (prF (TK T n) p) (fun k l => pre (l ++ em) (tailF (TK T n) opS (fun _ => prF (TK T n)) m k))) → am_R tT E (d + 3) mX4_readSum Q 4 [some (.inr 46), some (.inl (nI w)), some (.inl (nI it))] [] (NH c1) := by
    intro m
    induction m with
    | zero =>
      intro w p it em l c1 hm hp hit hw hlen hps hfc heq
      have e : p = cnt := by omega
      refine am_goS gX4_readSum [4, 20] 400 ?_
      simp only [am_eqs, am_eqk, am_eqv, lX4_readSum_0, lX4_readSum_1, fx_class, NH_at, NH_put, ↓reduceIte, List.mem_cons, List.not_mem_nil, or_false, or_self, false_or, true_and, and_true, Nat.reduceEqDiff, reduceCtorEq, List.length_cons, List.length_nil, Nat.reduceAdd, Nat.reduceLeDiff, Nat.reduceSub, Nat.reduceLT, Nat.zero_le, Nat.zero_add, forall_const, not_true_eq_false, not_false_eq_true, false_implies, true_implies, implies_true, Nat.zero_lt_succ, am_z0, am_z1]
      try simp (disch := omega) only [hs_at, hs_put, hs_63, NH_at, NH_put, NH_cpy, ni_add, ni_mul, ni_clamp, ni_in, ni_eq, ni_lt, ni_le, ni_sub, Nat.reduceAdd, Nat.reduceMul, Nat.reduceSub, eq_self, true_implies, not_true_eq_false, false_implies, and_true, true_and, not_false_eq_true, Nat.reduceEqDiff, Nat.reduceLeDiff, Nat.reduceLT, implies_true, ite_true, ite_false]
      refine ⟨fun z => absurd z (by omega), fun _ => ?_⟩
      refine hpr p (cs ++ l) c1 _ hps hp (by omega) (fun k l1 hk => ?_) (fun e1 j hk c2 er f2 => ⟨fun _ => ?_, fun z => absurd rfl z⟩)
      · obtain ⟨g1, g2, g3⟩ := hgd p hp _ _ hk
        omega
      · rw [hk, bnd_er, pre_inl] at heq
        exact h0 _ _ heq c2 er (hfc.trans f2)
    | succ m ih =>
      intro w p it em l c1 hm hp hit hw hlen hps hfc heq
      have hw32 : w < 4294967296 := by rcases hw with ⟨e, -⟩ | ⟨e, -⟩ <;> (try unfold opS at e) <;> omega
      refine am_goS gX4_readSum [4, 20] 400 ?_
      simp only [am_eqs, am_eqk, am_eqv, lX4_readSum_0, lX4_readSum_1, fx_class, NH_at, NH_put, ↓reduceIte, List.mem_cons, List.not_mem_nil, or_false, or_self, false_or, true_and, and_true, Nat.reduceEqDiff, reduceCtorEq, List.length_cons, List.length_nil, Nat.reduceAdd, Nat.reduceLeDiff, Nat.reduceSub, Nat.reduceLT, Nat.zero_le, Nat.zero_add, forall_const, not_true_eq_false, not_false_eq_true, false_implies, true_implies, implies_true, Nat.zero_lt_succ, am_z0, am_z1]
      try simp (disch := omega) only [hs_at, hs_put, hs_63, NH_at, NH_put, NH_cpy, ni_add, ni_mul, ni_clamp, ni_in, ni_eq, ni_lt, ni_le, ni_sub, Nat.reduceAdd, Nat.reduceMul, Nat.reduceSub, eq_self, true_implies, not_true_eq_false, false_implies, and_true, true_and, not_false_eq_true, Nat.reduceEqDiff, Nat.reduceLeDiff, Nat.reduceLT, implies_true, ite_true, ite_false]
      refine ⟨fun z => absurd z (by omega), fun _ => ?_⟩
      refine hpr p (cs ++ l) c1 _ hps hp (by omega) (fun k l1 hk c2 p2 f2 => ⟨fun z => absurd z (by decide), fun _ => ?_⟩) (fun e1 j hk c2 er f2 => ⟨fun _ => ?_, fun z => absurd rfl z⟩)
      · obtain ⟨g1, g2, g3⟩ := hgd p hp _ _ hk
        rw [hk, bnd_ok, pre_pre] at heq
        have tail : ∀ c3, PSc T n cnt k (cs ++ l ++ l1 ++ em) c3 → FC c1 c3 → am_R tT E (d + 3) mX4_readSum Q 33 [some (.inr 46), some (.inl (nI w)), some (.inl (nI it))] [] (NH c3) := by
          intro c3 p3 f3
          have htk := p3.tk
          have hb := TK_kind (T := T) (n := n) (i := k)
          have hlt := TKb_lt hb
          have eL : cs ++ l ++ l1 ++ em = cs ++ (l ++ (l1 ++ em)) := by simp
          rw [eL] at p3
          have hfc3 := hfc.trans f3
          have hop : opS (TK T n k) → am_C tT E (d + 2) mX4_next [.inr 46] (NH c3) (fun _ h' => am_R tT E (d + 3) mX4_readSum Q 4 [some (.inr 46), some (.inl (nI (TK T n k))), some (.inl (nI (it + 1)))] [] h') := by
            intro q
            have hpc2 := lt_cnt (A := TK T n) (P := opS) hA hend g2 q
            refine c_next p3 hpc2 (fun z => hend (by rw [← z]; exact q)) (fun c5 p5 f5 => ?_)
            rw [tailF, cif_pos q] at heq
            refine ih (TK T n k) (k + 1) (it + 1) [TK T n k] (l ++ (l1 ++ em)) c5 (by omega) (by omega) (by omega) (Or.inr ⟨q, rfl⟩) ?_ p5 (hfc3.trans f5) heq
            rw [← eL]
            simp only [List.length_append, List.length_cons, List.length_nil] at *
            omega
          have hstop : ¬ opS (TK T n k) → Q (nI 1) (NH c3) := by
            intro q
            rw [tail_stop q, pre_ok, List.append_nil] at heq
            exact h1 _ _ heq c3 p3 hfc3
          unfold opS at hop hstop
          refine am_goS gX4_readSum [4] 400 ?_
          simp only [am_eqs, am_eqk, am_eqv, lX4_readSum_0, lX4_readSum_1, fx_class, NH_at, NH_put, ↓reduceIte, List.mem_cons, List.not_mem_nil, or_false, or_self, false_or, true_and, and_true, Nat.reduceEqDiff, reduceCtorEq, List.length_cons, List.length_nil, Nat.reduceAdd, Nat.reduceLeDiff, Nat.reduceSub, Nat.reduceLT, Nat.zero_le, Nat.zero_add, forall_const, not_true_eq_false, not_false_eq_true, false_implies, true_implies, implies_true, Nat.zero_lt_succ, am_z0, am_z1]
          try simp (disch := omega) only [hs_at, hs_put, hs_63, NH_at, NH_put, NH_cpy, ni_add, ni_mul, ni_clamp, ni_in, ni_eq, ni_lt, ni_le, ni_sub, Nat.reduceAdd, Nat.reduceMul, Nat.reduceSub, eq_self, true_implies, not_true_eq_false, false_implies, and_true, true_and, not_false_eq_true, Nat.reduceEqDiff, Nat.reduceLeDiff, Nat.reduceLT, implies_true, ite_true, ite_false, htk]
          refine ⟨fun q => hop (Or.inl q), fun q => ⟨fun q2 => hop (Or.inr q2), fun q2 => hstop (fun z => z.elim q q2)⟩⟩
        refine am_goS gX4_readSum [33] 400 ?_
        simp only [am_eqs, am_eqk, am_eqv, lX4_readSum_0, lX4_readSum_1, fx_class, NH_at, NH_put, ↓reduceIte, List.mem_cons, List.not_mem_nil, or_false, or_self, false_or, true_and, and_true, Nat.reduceEqDiff, reduceCtorEq, List.length_cons, List.length_nil, Nat.reduceAdd, Nat.reduceLeDiff, Nat.reduceSub, Nat.reduceLT, Nat.zero_le, Nat.zero_add, forall_const, not_true_eq_false, not_false_eq_true, false_implies, true_implies, implies_true, Nat.zero_lt_succ, am_z0, am_z1]
        try simp (disch := omega) only [hs_at, hs_put, hs_63, NH_at, NH_put, NH_cpy, ni_add, ni_mul, ni_clamp, ni_in, ni_eq, ni_lt, ni_le, ni_sub, Nat.reduceAdd, Nat.reduceMul, Nat.reduceSub, eq_self, true_implies, not_true_eq_false, false_implies, and_true, true_and, not_false_eq_true, Nat.reduceEqDiff, Nat.reduceLeDiff, Nat.reduceLT, implies_true, ite_true, ite_false, ni_m1]
        rcases hw with ⟨ew, eem⟩ | ⟨ew, eem⟩
        · subst ew eem
          rw [List.append_nil] at tail
          exact ⟨fun _ => tail c2 p2 f2, fun z => absurd rfl z⟩
        · subst eem
          have hwn : w ≠ 4294967295 := by unfold opS at ew; omega
          refine ⟨fun z => absurd z hwn, fun _ => ?_⟩
          refine c_emitP p2 ?_ (fun c3 p3 f3 => tail c3 p3 (f2.trans f3))
          simp only [List.length_append, List.length_cons, List.length_nil] at *
          omega
      · rw [hk, bnd_er, pre_inl] at heq
        exact h0 _ _ heq c2 er (hfc.trans f2)
  have e0 : smF (TK T n) i = pre [] (bnd (prF (TK T n) i) (fun k l => pre (l ++ []) (tailF (TK T n) opS (fun _ => prF (TK T n)) 401 k))) := by
    rw [pre_nil]
    unfold smF chn
    simp only [List.append_nil]
  have hl := loop 401 4294967295 i 0 [] [] c (by omega) hi (by omega) (Or.inl ⟨rfl, rfl⟩) (by simp; exact hcl) (by rw [List.append_nil]; exact hP) (FC.refl c) e0
  rw [← ni_m1] at hl
  exact hl
theorem ctc_cmp (hA : TK T n cnt = tEND) (hc : cnt ≤ 400) : CTc E T n cnt mX4_readComparison [.inr 46] (d + 4) (cpF (TK T n)) := by
  intro i cs c Q hP hi hcl h1 h0
  have hsm := ctc_sum (E := E) (d := d) (T := T) (n := n) (cnt := cnt) hA hc
  have hgd := sm_gd (A := TK T n) (cnt := cnt) hA
  unfold cpF at h1 h0
  refine am_C.of (by decide) (Nat.le_of_ble_eq_true rfl) ?_
  show am_R tT E _ mX4_readComparison _ 0 [some (.inr 46), none] [] (NH c)
  refine am_goS gX4_readComparison [9] 400 ?_
  simp only [am_eqs, am_eqk, am_eqv, lX4_readComparison_0, lX4_readComparison_1, fx_class, NH_at, NH_put, ↓reduceIte, List.mem_cons, List.not_mem_nil, or_false, or_self, false_or, true_and, and_true, Nat.reduceEqDiff, reduceCtorEq, List.length_cons, List.length_nil, Nat.reduceAdd, Nat.reduceLeDiff, Nat.reduceSub, Nat.reduceLT, Nat.zero_le, Nat.zero_add, forall_const, not_true_eq_false, not_false_eq_true, false_implies, true_implies, implies_true, Nat.zero_lt_succ, am_z0, am_z1]
  refine hsm i cs c _ hP hi hcl (fun k l hk c2 p2 f2 => ⟨fun z => absurd z (by decide), fun _ => ?_⟩) (fun e1 j hk c2 er f2 => ⟨fun _ => ?_, fun z => absurd rfl z⟩)
  · obtain ⟨g1, g2, g3⟩ := hgd i hi _ _ hk
    rw [hk, bnd_ok] at h1 h0
    have htk := p2.tk
    have hb := TK_kind (T := T) (n := n) (i := k)
    have hlt := TKb_lt hb
    have hop : opC (TK T n k) → am_C tT E (d + 3) mX4_next [.inr 46] (NH c2) (fun _ h' => am_C tT E (d + 3) mX4_readSum [.inr 46] h' (fun v h' => (v = nI 0 → Q (nI 0) h') ∧ (¬ v = nI 0 → am_C tT E (d + 3) mX3_emit [.inr 47, .inl (nI (TK T n k))] h' (fun _ h' => Q (nI 1) h')))) := by
      intro q
      rw [cif_pos q] at h1 h0
      have hpc2 := lt_cnt (A := TK T n) (P := opC) hA (by unfold opC tEND; omega) g2 q
      refine c_next p2 hpc2 (fun z => by rw [z] at q; unfold opC tEND at q; omega) (fun c3 p3 f3 => ?_)
      refine hsm (k + 1) (cs ++ l) c3 _ p3 (by omega) (by simp only [List.length_append]; omega) (fun k2 l2 hk2 c4 p4 f4 => ⟨fun z => absurd z (by decide), fun _ => ?_⟩) (fun e1 j hk2 c4 er f4 => ⟨fun _ => ?_, fun z => absurd rfl z⟩)
      · obtain ⟨e1, e2, e3⟩ := hgd (k + 1) (by omega) _ _ hk2
        rw [hk2, bnd_ok] at h1
        refine c_emitP p4 (by simp only [List.length_append]; omega) (fun c5 p5 f5 => ?_)
        have eL : cs ++ l ++ l2 ++ [TK T n k] = cs ++ (l ++ l2 ++ [TK T n k]) := by simp
        rw [eL] at p5
        exact h1 _ _ rfl c5 p5 (f2.trans (f3.trans (f4.trans f5)))
      · rw [hk2, bnd_er] at h0
        exact h0 _ _ rfl c4 er (f2.trans (f3.trans f4))
    have hno : ¬ opC (TK T n k) → am_C tT E (d + 3) mX4_refuse [.inr 46, .inl (nI 1)] (NH c2) (fun v h' => (v = 0 ∨ v = 1) ∧ Q v h') := by
      intro q
      rw [cif_neg q] at h0
      refine c_refuse p2 g2 (by simp only [List.length_append]; omega) (fun c3 er f3 => ?_)
      exact ⟨Or.inl rfl, h0 _ _ rfl c3 er (f2.trans f3)⟩
    unfold opC at hop hno
    refine am_goS gX4_readComparison [] 400 ?_
    simp only [am_eqs, am_eqk, am_eqv, lX4_readComparison_0, lX4_readComparison_1, fx_class, NH_at, NH_put, ↓reduceIte, List.mem_cons, List.not_mem_nil, or_false, or_self, false_or, true_and, and_true, Nat.reduceEqDiff, reduceCtorEq, List.length_cons, List.length_nil, Nat.reduceAdd, Nat.reduceLeDiff, Nat.reduceSub, Nat.reduceLT, Nat.zero_le, Nat.zero_add, forall_const, not_true_eq_false, not_false_eq_true, false_implies, true_implies, implies_true, Nat.zero_lt_succ, am_z0, am_z1]
    try simp (disch := omega) only [hs_at, hs_put, hs_63, NH_at, NH_put, NH_cpy, ni_add, ni_mul, ni_clamp, ni_in, ni_eq, ni_lt, ni_le, ni_sub, Nat.reduceAdd, Nat.reduceMul, Nat.reduceSub, eq_self, true_implies, not_true_eq_false, false_implies, and_true, true_and, not_false_eq_true, Nat.reduceEqDiff, Nat.reduceLeDiff, Nat.reduceLT, implies_true, ite_true, ite_false, htk]
    refine ⟨fun q => hop (Or.inl q), fun q => ⟨fun q2 => hop (Or.inr (Or.inl q2)), fun q2 => ⟨fun q3 => hop (Or.inr (Or.inr q3)), fun q3 => hno (fun z => z.elim q (fun z => z.elim q2 q3))⟩⟩⟩
  · rw [hk, bnd_er] at h0
    exact h0 _ _ rfl c2 er f2
end CCOND
