/-! ===== part 96: the class reads products and sums ===== -/
def CTc (E : am_E) (T : Nat → Nat) (n cnt : Nat) (M : am_M) (av : List am_V) (dd : Nat) (F : Nat → PR) : Prop := ∀ (i : Nat) (cs : List Nat) (c : Nat → Nat → Nat) (Q : Int32 → am_H → Prop), PSc T n cnt i cs c → i ≤ cnt → cs.length ≤ i →
  (∀ k l, F i = .inr (k, l) → ∀ c', PSc T n cnt k (cs ++ l) c' → FC c c' → Q (nI 1) (NH c')) →
  (∀ e j, F i = .inl (e, j) → ∀ c', ERc T n e j c' → FC c c' → Q (nI 0) (NH c')) → am_C tT E dd M av (NH c) Q
section CSUM
variable {E : am_E} {d : Nat} {h : am_H} {Q : Int32 → am_H → Prop} {c : Nat → Nat → Nat} {T : Nat → Nat} {n cnt : Nat}
theorem PSc.tk {i : Nat} {cs : List Nat} (h' : PSc T n cnt i cs c) : c 46 8 = TK T n i := h'.2.2.1
theorem PSc.b {i : Nat} {cs : List Nat} (h' : PSc T n cnt i cs c) : TK T n cnt = tEND ∧ cnt ≤ 400 := ⟨h'.1.1, Nat.le_trans h'.1.2.1 h'.1.2.2.1⟩
theorem ctc_product (hA : TK T n cnt = tEND) (hc : cnt ≤ 400) : CTc E T n cnt mX4_readProduct [.inr 46] (d + 2) (prF (TK T n)) := by
  intro i cs c Q hP hi hcl h1 h0
  have hend : ¬ opP tEND := by unfold opP tEND; omega
  refine am_C.of (by decide) (Nat.le_of_ble_eq_true rfl) ?_
  show am_R tT E _ mX4_readProduct _ 0 [some (.inr 46), none, none, none] [] (NH c)
  refine am_goS gX4_readProduct [4] 400 ?_
  simp only [am_eqs, am_eqk, am_eqv, lX4_readProduct_0, lX4_readProduct_1, lX4_readProduct_2, fx_class, NH_at, NH_put, ↓reduceIte, List.mem_cons, List.not_mem_nil, or_false, or_self, false_or, true_and, and_true, Nat.reduceEqDiff, reduceCtorEq, List.length_cons, List.length_nil, Nat.reduceAdd, Nat.reduceLeDiff, Nat.reduceSub, Nat.reduceLT, Nat.zero_le, Nat.zero_add, forall_const, not_true_eq_false, not_false_eq_true, false_implies, true_implies, implies_true, Nat.zero_lt_succ, am_z0, am_z1]
  have loop : ∀ m w p it (em l : List Nat) (c1 : Nat → Nat → Nat) (v3 : Option am_V), cnt ≤ p + m → p ≤ cnt → 2 * it ≤ p → ((w = 4294967295 ∧ em = []) ∨ (opP w ∧ em = [w])) → (cs ++ l).length + em.length ≤ p → PSc T n cnt p (cs ++ l) c1 → FC c c1 → prF (TK T n) i = pre l (bnd (prS (TK T n) w p) (fun k l => pre (l ++ em) (tailF (TK T n) opP (prS (TK T n)) m k))) → am_R tT E (d + 2) mX4_readProduct Q 4 [some (.inr 46), some (.inl (nI w)), some (.inl (nI it)), v3] [] (NH c1) := by
    intro m
    induction m with
    | zero =>
      intro w p it em l c1 v3 hm hp hit hw hlen hps hfc heq
      have e : p = cnt := by omega
      have htk := hps.tk
      have hb := TK_kind (T := T) (n := n) (i := p)
      have hlt := TKb_lt hb
      rw [e, hA] at htk
      have hpr : prS (TK T n) w p = .inl (1, p) := by
        unfold prS
        split
        · unfold nmD; rw [e, hA, if_neg (by unfold tEND; omega)]
        · unfold un1; rw [e, hA, cif_neg (by unfold isU tEND; omega)]
      rw [hpr, bnd_er, pre_inl] at heq
      refine am_goS gX4_readProduct [4] 400 ?_
      simp only [am_eqs, am_eqk, am_eqv, lX4_readProduct_0, lX4_readProduct_1, lX4_readProduct_2, fx_class, NH_at, NH_put, ↓reduceIte, List.mem_cons, List.not_mem_nil, or_false, or_self, false_or, true_and, and_true, Nat.reduceEqDiff, reduceCtorEq, List.length_cons, List.length_nil, Nat.reduceAdd, Nat.reduceLeDiff, Nat.reduceSub, Nat.reduceLT, Nat.zero_le, Nat.zero_add, forall_const, not_true_eq_false, not_false_eq_true, false_implies, true_implies, implies_true, Nat.zero_lt_succ, am_z0, am_z1]
      try simp (disch := omega) only [hs_at, hs_put, hs_63, NH_at, NH_put, NH_cpy, ni_add, ni_mul, ni_clamp, ni_in, ni_eq, ni_lt, ni_le, ni_sub, Nat.reduceAdd, Nat.reduceMul, Nat.reduceSub, eq_self, true_implies, not_true_eq_false, false_implies, and_true, true_and, not_false_eq_true, Nat.reduceEqDiff, Nat.reduceLeDiff, Nat.reduceLT, implies_true, ite_true, ite_false, htk]
      refine ⟨fun z => absurd z (by omega), fun _ => ?_⟩
      refine c_within9 (Or.inr (Or.inr (Or.inr rfl))) (fun z => absurd z (by unfold tEND; omega)) (fun _ => ?_)
      try simp (disch := omega) only [hs_at, hs_put, hs_63, NH_at, NH_put, NH_cpy, ni_add, ni_mul, ni_clamp, ni_in, ni_eq, ni_lt, ni_le, ni_sub, Nat.reduceAdd, Nat.reduceMul, Nat.reduceSub, eq_self, true_implies, not_true_eq_false, false_implies, and_true, true_and, not_false_eq_true, Nat.reduceEqDiff, Nat.reduceLeDiff, Nat.reduceLT, implies_true, ite_true, ite_false, htk]
      refine c_isFactT (Or.inr (Or.inr (Or.inr rfl))) (fun z => absurd z (by unfold tEND; omega)) (fun _ => ?_)
      try simp (disch := omega) only [hs_at, hs_put, hs_63, NH_at, NH_put, NH_cpy, ni_add, ni_mul, ni_clamp, ni_in, ni_eq, ni_lt, ni_le, ni_sub, Nat.reduceAdd, Nat.reduceMul, Nat.reduceSub, eq_self, true_implies, not_true_eq_false, false_implies, and_true, true_and, not_false_eq_true, Nat.reduceEqDiff, Nat.reduceLeDiff, Nat.reduceLT, implies_true, ite_true, ite_false]
      refine c_refuse hps (by omega) (by omega) (fun c2 er f2 => ?_)
      exact ⟨Or.inl rfl, h0 _ _ heq c2 er (hfc.trans f2)⟩
    | succ m ih =>
      intro w p it em l c1 v3 hm hp hit hw hlen hps hfc heq
      have htk := hps.tk
      have hb := TK_kind (T := T) (n := n) (i := p)
      have hlt := TKb_lt hb
      have hw32 : w < 4294967296 := by rcases hw with ⟨e, -⟩ | ⟨e, -⟩ <;> (try unfold opP at e) <;> omega
      have hdraft := hps
      -- it was refused
      have bad : ∀ e : Nat, prS (TK T n) w p = .inl (e, p) → am_C tT E (d + 1) mX4_refuse [.inr 46, .inl (nI e)] (NH c1) (fun v h' => (v = 0 ∨ v = 1) ∧ Q v h') := by
        intro e hpr
        rw [hpr, bnd_er, pre_inl] at heq
        refine c_refuse hps hp (by omega) (fun c2 er f2 => ?_)
        exact ⟨Or.inl rfl, h0 _ _ heq c2 er (hfc.trans f2)⟩
      -- it is taken
      have good : prS (TK T n) w p = .inr (p + 1, [TK T n p]) → TK T n p < 20000 → am_R tT E (d + 2) mX4_readProduct Q 70 [some (.inr 46), some (.inl (nI w)), some (.inl (nI it)), some (.inl (nI (if TK T n p < 10000 then 1 else 0)))] [] (NH c1) := by
        intro hpr hsm
        rw [hpr, bnd_ok, pre_pre] at heq
        have hpc : p < cnt := lt_cnt (A := TK T n) (P := (· < 20000)) hA (by unfold tEND; omega) hp hsm
        have tail : ∀ c3, PSc T n cnt p (cs ++ l ++ [TK T n p] ++ em) c3 → FC c1 c3 → am_R tT E (d + 2) mX4_readProduct Q 94 [some (.inr 46), some (.inl (nI w)), some (.inl (nI it)), some (.inl (nI (if TK T n p < 10000 then 1 else 0)))] [] (NH c3) := by
          intro c3 p3 f3
          refine am_goS gX4_readProduct [4] 400 ?_
          simp only [am_eqs, am_eqk, am_eqv, lX4_readProduct_0, lX4_readProduct_1, lX4_readProduct_2, fx_class, NH_at, NH_put, ↓reduceIte, List.mem_cons, List.not_mem_nil, or_false, or_self, false_or, true_and, and_true, Nat.reduceEqDiff, reduceCtorEq, List.length_cons, List.length_nil, Nat.reduceAdd, Nat.reduceLeDiff, Nat.reduceSub, Nat.reduceLT, Nat.zero_le, Nat.zero_add, forall_const, not_true_eq_false, not_false_eq_true, false_implies, true_implies, implies_true, Nat.zero_lt_succ, am_z0, am_z1]
          refine c_next p3 hpc (by unfold tEND; omega) (fun c4 p4 f4 => ?_)
          have htk4 := p4.tk
          have hb4 := TK_kind (T := T) (n := n) (i := p + 1)
          have hlt4 := TKb_lt hb4
          have eL : cs ++ l ++ [TK T n p] ++ em = cs ++ (l ++ ([TK T n p] ++ em)) := by simp
          rw [eL] at p4
          have hfc4 := hfc.trans (f3.trans f4)
          have hop : opP (TK T n (p + 1)) → am_C tT E (d + 1) mX4_next [.inr 46] (NH c4) (fun _ h' => am_R tT E (d + 2) mX4_readProduct Q 4 [some (.inr 46), some (.inl (nI (TK T n (p + 1)))), some (.inl (nI (it + 1))), some (.inl (nI (if TK T n p < 10000 then 1 else 0)))] [] h') := by
            intro q
            have hpc2 := lt_cnt (A := TK T n) (P := opP) hA hend (show p + 1 ≤ cnt by omega) q
            refine c_next p4 hpc2 (fun z => hend (by rw [← z]; exact q)) (fun c5 p5 f5 => ?_)
            rw [tailF, cif_pos q] at heq
            refine ih (TK T n (p + 1)) (p + 1 + 1) (it + 1) [TK T n (p + 1)] (l ++ ([TK T n p] ++ em)) c5 _ (by omega) (by omega) (by omega) (Or.inr ⟨q, rfl⟩) ?_ p5 (hfc4.trans f5) heq
            rw [← eL]
            simp only [List.length_append, List.length_cons, List.length_nil] at *
            omega
          have hstop : ¬ opP (TK T n (p + 1)) → Q (nI 1) (NH c4) := by
            intro q
            rw [tail_stop q, pre_ok, List.append_nil] at heq
            exact h1 _ _ heq c4 p4 hfc4
          unfold opP at hop hstop
          try simp (disch := omega) only [hs_at, hs_put, hs_63, NH_at, NH_put, NH_cpy, ni_add, ni_mul, ni_clamp, ni_in, ni_eq, ni_lt, ni_le, ni_sub, Nat.reduceAdd, Nat.reduceMul, Nat.reduceSub, eq_self, true_implies, not_true_eq_false, false_implies, and_true, true_and, not_false_eq_true, Nat.reduceEqDiff, Nat.reduceLeDiff, Nat.reduceLT, implies_true, ite_true, ite_false, htk4]
          refine ⟨fun q => hop (Or.inl q), fun q => ⟨fun q2 => hop (Or.inr q2), fun q2 => hstop (fun z => z.elim q q2)⟩⟩
        refine am_goS gX4_readProduct [94] 400 ?_
        simp only [am_eqs, am_eqk, am_eqv, lX4_readProduct_0, lX4_readProduct_1, lX4_readProduct_2, fx_class, NH_at, NH_put, ↓reduceIte, List.mem_cons, List.not_mem_nil, or_false, or_self, false_or, true_and, and_true, Nat.reduceEqDiff, reduceCtorEq, List.length_cons, List.length_nil, Nat.reduceAdd, Nat.reduceLeDiff, Nat.reduceSub, Nat.reduceLT, Nat.zero_le, Nat.zero_add, forall_const, not_true_eq_false, not_false_eq_true, false_implies, true_implies, implies_true, Nat.zero_lt_succ, am_z0, am_z1]
        try simp (disch := omega) only [hs_at, hs_put, hs_63, NH_at, NH_put, NH_cpy, ni_add, ni_mul, ni_clamp, ni_in, ni_eq, ni_lt, ni_le, ni_sub, Nat.reduceAdd, Nat.reduceMul, Nat.reduceSub, eq_self, true_implies, not_true_eq_false, false_implies, and_true, true_and, not_false_eq_true, Nat.reduceEqDiff, Nat.reduceLeDiff, Nat.reduceLT, implies_true, ite_true, ite_false, htk]
        refine c_emitP hps (by omega) (fun c2 p2 f2 => ?_)
        try simp (disch := omega) only [hs_at, hs_put, hs_63, NH_at, NH_put, NH_cpy, ni_add, ni_mul, ni_clamp, ni_in, ni_eq, ni_lt, ni_le, ni_sub, Nat.reduceAdd, Nat.reduceMul, Nat.reduceSub, eq_self, true_implies, not_true_eq_false, false_implies, and_true, true_and, not_false_eq_true, Nat.reduceEqDiff, Nat.reduceLeDiff, Nat.reduceLT, implies_true, ite_true, ite_false, ni_m1]
        rcases hw with ⟨ew, eem⟩ | ⟨ew, eem⟩
        · subst ew eem
          rw [List.append_nil] at tail
          exact ⟨fun _ => tail c2 p2 f2, fun z => absurd rfl z⟩
        · subst eem
          have hwn : w ≠ 4294967295 := by unfold opP at ew; omega
          refine ⟨fun z => absurd z hwn, fun _ => ?_⟩
          refine c_emitP p2 ?_ (fun c3 p3 f3 => tail c3 p3 (f2.trans f3))
          simp only [List.length_append, List.length_cons, List.length_nil] at *
          omega
      refine am_goS gX4_readProduct [70] 400 ?_
      simp only [am_eqs, am_eqk, am_eqv, lX4_readProduct_0, lX4_readProduct_1, lX4_readProduct_2, fx_class, NH_at, NH_put, ↓reduceIte, List.mem_cons, List.not_mem_nil, or_false, or_self, false_or, true_and, and_true, Nat.reduceEqDiff, reduceCtorEq, List.length_cons, List.length_nil, Nat.reduceAdd, Nat.reduceLeDiff, Nat.reduceSub, Nat.reduceLT, Nat.zero_le, Nat.zero_add, forall_const, not_true_eq_false, not_false_eq_true, false_implies, true_implies, implies_true, Nat.zero_lt_succ, am_z0, am_z1]
      try simp (disch := omega) only [hs_at, hs_put, hs_63, NH_at, NH_put, NH_cpy, ni_add, ni_mul, ni_clamp, ni_in, ni_eq, ni_lt, ni_le, ni_sub, Nat.reduceAdd, Nat.reduceMul, Nat.reduceSub, eq_self, true_implies, not_true_eq_false, false_implies, and_true, true_and, not_false_eq_true, Nat.reduceEqDiff, Nat.reduceLeDiff, Nat.reduceLT, implies_true, ite_true, ite_false, htk]
      refine ⟨fun z => absurd z (by omega), fun _ => ?_⟩
      refine c_within9 hb (fun hnum => ?_) (fun hnum => ?_)
      · rw [if_pos hnum] at good
        try simp (disch := omega) only [hs_at, hs_put, hs_63, NH_at, NH_put, NH_cpy, ni_add, ni_mul, ni_clamp, ni_in, ni_eq, ni_lt, ni_le, ni_sub, Nat.reduceAdd, Nat.reduceMul, Nat.reduceSub, eq_self, true_implies, not_true_eq_false, false_implies, and_true, true_and, not_false_eq_true, Nat.reduceEqDiff, Nat.reduceLeDiff, Nat.reduceLT, implies_true, ite_true, ite_false, htk]
        refine ⟨fun z => ⟨fun z2 => ?_, fun z2 => ?_⟩, fun z => ?_⟩
        · exact bad 2 (by unfold prS; rw [if_pos z2]; unfold nmD; rw [if_pos hnum, if_pos z])
        · exact good (by unfold prS; rw [if_neg z2]; unfold un1; rw [cif_pos (show isU _ from Or.inl hnum)]) (by omega)
        · refine good ?_ (by omega)
          unfold prS
          split
          · unfold nmD; rw [if_pos hnum, if_neg z]
          · unfold un1; rw [cif_pos (show isU _ from Or.inl hnum)]
      · rw [if_neg hnum] at good
        try simp (disch := omega) only [hs_at, hs_put, hs_63, NH_at, NH_put, NH_cpy, ni_add, ni_mul, ni_clamp, ni_in, ni_eq, ni_lt, ni_le, ni_sub, Nat.reduceAdd, Nat.reduceMul, Nat.reduceSub, eq_self, true_implies, not_true_eq_false, false_implies, and_true, true_and, not_false_eq_true, Nat.reduceEqDiff, Nat.reduceLeDiff, Nat.reduceLT, implies_true, ite_true, ite_false, htk]
        refine c_isFactT hb (fun hfac => ?_) (fun hfac => ?_)
        · try simp (disch := omega) only [hs_at, hs_put, hs_63, NH_at, NH_put, NH_cpy, ni_add, ni_mul, ni_clamp, ni_in, ni_eq, ni_lt, ni_le, ni_sub, Nat.reduceAdd, Nat.reduceMul, Nat.reduceSub, eq_self, true_implies, not_true_eq_false, false_implies, and_true, true_and, not_false_eq_true, Nat.reduceEqDiff, Nat.reduceLeDiff, Nat.reduceLT, implies_true, ite_true, ite_false, htk]
          refine ⟨fun z2 => ?_, fun z2 => ?_⟩
          · exact bad 1 (by unfold prS; rw [if_pos z2]; unfold nmD; rw [if_neg hnum])
          · refine ⟨fun z => absurd z (by omega), fun _ => ?_⟩
            exact good (by unfold prS; rw [if_neg z2]; unfold un1; rw [cif_pos (show isU _ from Or.inr hfac)]) (by omega)
        · try simp (disch := omega) only [hs_at, hs_put, hs_63, NH_at, NH_put, NH_cpy, ni_add, ni_mul, ni_clamp, ni_in, ni_eq, ni_lt, ni_le, ni_sub, Nat.reduceAdd, Nat.reduceMul, Nat.reduceSub, eq_self, true_implies, not_true_eq_false, false_implies, and_true, true_and, not_false_eq_true, Nat.reduceEqDiff, Nat.reduceLeDiff, Nat.reduceLT, implies_true, ite_true, ite_false]
          refine bad 1 ?_
          unfold prS
          split
          · unfold nmD; rw [if_neg hnum]
          · unfold un1; rw [cif_neg (fun q => q.elim hnum hfac)]
  have e0 : prF (TK T n) i = pre [] (bnd (prS (TK T n) 4294967295 i) (fun k l => pre (l ++ []) (tailF (TK T n) opP (prS (TK T n)) 401 k))) := by
    have : prS (TK T n) 4294967295 i = prS (TK T n) 0 i := by unfold prS; rw [if_neg (by omega), if_neg (by omega)]
    rw [this]
    unfold prF chn
    simp only [List.append_nil]
    cases bnd (prS (TK T n) 0 i) (fun j l => pre l (tailF (TK T n) opP (prS (TK T n)) 401 j)) with
    | inl e => rfl
    | inr x => rfl
  have hl := loop 401 4294967295 i 0 [] [] c none (by omega) hi (by omega) (Or.inl ⟨rfl, rfl⟩) (by simp; exact hcl) (by rw [List.append_nil]; exact hP) (FC.refl c) e0
  rw [← ni_m1] at hl
  exact hl
end CSUM
