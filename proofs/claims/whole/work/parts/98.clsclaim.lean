/-! ===== part 98: the class reads conditions and claims ===== -/
section CCLAIM
variable {E : am_E} {d : Nat} {h : am_H} {Q : Int32 → am_H → Prop} {c : Nat → Nat → Nat} {T : Nat → Nat} {n cnt : Nat}
theorem evF_eq {cl : Nat → PR} {p : Nat} : evF (TK T n) cl p = bnd (cl p) (fun j l => pre l (tailF (TK T n) (· = 10004) (fun _ => cl) 401 j)) := rfl
theorem ctc_condition {o : Nat} {cl : Nat → PR} (hA : TK T n cnt = tEND) (hc : cnt ≤ 400) (hgd : gd cnt cl) (hcl : CTc E T n cnt mX4_readClaim [.inr 46, .inl (nI o)] (d + 1) cl) : CTc E T n cnt mX4_readCondition [.inr 46, .inl (nI o)] (d + 2) (anF (TK T n) cl) := by
  intro i cs c Q hP hi hcl2 h1 h0
  have hend4 : ¬ tEND = 10004 := by unfold tEND; omega
  have hend3 : ¬ tEND = 10003 := by unfold tEND; omega
  have hge := ev_gd (A := TK T n) (cnt := cnt) hA hgd
  refine am_C.of (by decide) (Nat.le_of_ble_eq_true rfl) ?_
  show am_R tT E _ mX4_readCondition _ 0 [some (.inr 46), some (.inl (nI o)), none, none] [] (NH c)
  refine am_goS gX4_readCondition [2] 400 ?_
  simp only [am_eqs, am_eqk, am_eqv, lX4_readCondition_0, lX4_readCondition_1, lX4_readCondition_2, fx_class, NH_at, NH_put, ↓reduceIte, List.mem_cons, List.not_mem_nil, or_false, or_self, false_or, true_and, and_true, Nat.reduceEqDiff, reduceCtorEq, List.length_cons, List.length_nil, Nat.reduceAdd, Nat.reduceLeDiff, Nat.reduceSub, Nat.reduceLT, Nat.zero_le, Nat.zero_add, forall_const, not_true_eq_false, not_false_eq_true, false_implies, true_implies, implies_true, Nat.zero_lt_succ, am_z0, am_z1]
  have loop : ∀ m p it (em l : List Nat) (c1 : Nat → Nat → Nat) (v3 : Option am_V), cnt ≤ p + m → p ≤ cnt → 2 * it ≤ p → ((it = 0 ∧ em = []) ∨ (0 < it ∧ em = [10003])) → (cs ++ l).length + em.length ≤ p → PSc T n cnt p (cs ++ l) c1 → FC c c1 → anF (TK T n) cl i = pre l (bnd (evF (TK T n) cl p) (fun k l => pre (l ++ em) (tailF (TK T n) (· = 10003) (fun _ => evF (TK T n) cl) m k))) → am_R tT E (d + 2) mX4_readCondition Q 2 [some (.inr 46), some (.inl (nI o)), some (.inl (nI it)), v3] [] (NH c1) := by
    intro m
    induction m with
    | zero =>
      intro p it em l c1 v3 hm hp hit hw hlen hps hfc heq
      refine am_goS gX4_readCondition [2, 19] 400 ?_
      simp only [am_eqs, am_eqk, am_eqv, lX4_readCondition_0, lX4_readCondition_1, lX4_readCondition_2, fx_class, NH_at, NH_put, ↓reduceIte, List.mem_cons, List.not_mem_nil, or_false, or_self, false_or, true_and, and_true, Nat.reduceEqDiff, reduceCtorEq, List.length_cons, List.length_nil, Nat.reduceAdd, Nat.reduceLeDiff, Nat.reduceSub, Nat.reduceLT, Nat.zero_le, Nat.zero_add, forall_const, not_true_eq_false, not_false_eq_true, false_implies, true_implies, implies_true, Nat.zero_lt_succ, am_z0, am_z1]
      try simp (disch := omega) only [hs_at, hs_put, hs_63, NH_at, NH_put, NH_cpy, ni_add, ni_mul, ni_clamp, ni_in, ni_eq, ni_lt, ni_le, ni_sub, Nat.reduceAdd, Nat.reduceMul, Nat.reduceSub, eq_self, true_implies, not_true_eq_false, false_implies, and_true, true_and, not_false_eq_true, Nat.reduceEqDiff, Nat.reduceLeDiff, Nat.reduceLT, implies_true, ite_true, ite_false]
      refine ⟨fun z => absurd z (by omega), fun _ => ?_⟩
      refine hcl p (cs ++ l) c1 _ hps hp (by omega) (fun k l1 hk => ?_) (fun e1 j hk c2 er f2 => ⟨fun _ => ?_, fun z => absurd rfl z⟩)
      · obtain ⟨g1, g2, g3⟩ := hgd p hp _ _ hk
        omega
      · have : evF (TK T n) cl p = .inl (e1, j) := by rw [evF_eq, hk]; rfl
        rw [this, bnd_er, pre_inl] at heq
        exact h0 _ _ heq c2 er (hfc.trans f2)
    | succ m ih =>
      intro p it em l c1 v3 hm hp hit hw hlen hps hfc heq
      -- behind the ands
      have exit : ∀ (q : Nat) (le : List Nat) (c2 : Nat → Nat → Nat) (v3 : Option am_V), p < q → q ≤ cnt → le.length ≤ q - p → evF (TK T n) cl p = .inr (q, le) → PSc T n cnt q (cs ++ l ++ le) c2 → FC c1 c2 → am_R tT E (d + 2) mX4_readCondition Q 68 [some (.inr 46), some (.inl (nI o)), some (.inl (nI it)), v3] [] (NH c2) := by
        intro q le c2 v3 hpq hqc hle hev p2 f2
        rw [hev, bnd_ok, pre_pre] at heq
        have tail : ∀ c3, PSc T n cnt q (cs ++ l ++ le ++ em) c3 → FC c1 c3 → am_R tT E (d + 2) mX4_readCondition Q 82 [some (.inr 46), some (.inl (nI o)), some (.inl (nI it)), v3] [] (NH c3) := by
          intro c3 p3 f3
          have htk := p3.tk
          have hb := TK_kind (T := T) (n := n) (i := q)
          have hlt := TKb_lt hb
          have eL : cs ++ l ++ le ++ em = cs ++ (l ++ (le ++ em)) := by simp
          rw [eL] at p3
          have hfc3 := hfc.trans f3
          refine am_goS gX4_readCondition [2] 400 ?_
          simp only [am_eqs, am_eqk, am_eqv, lX4_readCondition_0, lX4_readCondition_1, lX4_readCondition_2, fx_class, NH_at, NH_put, ↓reduceIte, List.mem_cons, List.not_mem_nil, or_false, or_self, false_or, true_and, and_true, Nat.reduceEqDiff, reduceCtorEq, List.length_cons, List.length_nil, Nat.reduceAdd, Nat.reduceLeDiff, Nat.reduceSub, Nat.reduceLT, Nat.zero_le, Nat.zero_add, forall_const, not_true_eq_false, not_false_eq_true, false_implies, true_implies, implies_true, Nat.zero_lt_succ, am_z0, am_z1]
          try simp (disch := omega) only [hs_at, hs_put, hs_63, NH_at, NH_put, NH_cpy, ni_add, ni_mul, ni_clamp, ni_in, ni_eq, ni_lt, ni_le, ni_sub, Nat.reduceAdd, Nat.reduceMul, Nat.reduceSub, eq_self, true_implies, not_true_eq_false, false_implies, and_true, true_and, not_false_eq_true, Nat.reduceEqDiff, Nat.reduceLeDiff, Nat.reduceLT, implies_true, ite_true, ite_false, htk]
          refine ⟨fun y => ?_, fun y => ?_⟩
          · have hqc2 := lt_cnt (A := TK T n) (P := (· = 10003)) hA hend3 hqc y
            refine c_next p3 hqc2 (fun z => by rw [y] at z; exact hend3 z.symm) (fun c5 p5 f5 => ?_)
            rw [tailF, cif_pos y, y] at heq
            refine ih (q + 1) (it + 1) [10003] (l ++ (le ++ em)) c5 _ (by omega) (by omega) (by omega) (Or.inr ⟨by omega, rfl⟩) ?_ p5 (hfc3.trans f5) heq
            rw [← eL]
            simp only [List.length_append, List.length_cons, List.length_nil] at *
            omega
          · rw [tail_stop y, pre_ok, List.append_nil] at heq
            exact h1 _ _ heq c3 p3 hfc3
        refine am_goS gX4_readCondition [82] 400 ?_
        simp only [am_eqs, am_eqk, am_eqv, lX4_readCondition_0, lX4_readCondition_1, lX4_readCondition_2, fx_class, NH_at, NH_put, ↓reduceIte, List.mem_cons, List.not_mem_nil, or_false, or_self, false_or, true_and, and_true, Nat.reduceEqDiff, reduceCtorEq, List.length_cons, List.length_nil, Nat.reduceAdd, Nat.reduceLeDiff, Nat.reduceSub, Nat.reduceLT, Nat.zero_le, Nat.zero_add, forall_const, not_true_eq_false, not_false_eq_true, false_implies, true_implies, implies_true, Nat.zero_lt_succ, am_z0, am_z1]
        try simp (disch := omega) only [hs_at, hs_put, hs_63, NH_at, NH_put, NH_cpy, ni_add, ni_mul, ni_clamp, ni_in, ni_eq, ni_lt, ni_le, ni_sub, Nat.reduceAdd, Nat.reduceMul, Nat.reduceSub, eq_self, true_implies, not_true_eq_false, false_implies, and_true, true_and, not_false_eq_true, Nat.reduceEqDiff, Nat.reduceLeDiff, Nat.reduceLT, implies_true, ite_true, ite_false]
        rcases hw with ⟨e1, e2⟩ | ⟨e1, e2⟩
        · subst e2
          rw [List.append_nil] at tail
          exact ⟨fun _ => tail c2 p2 f2, fun z => absurd (by omega) z⟩
        · subst e2
          refine ⟨fun z => absurd z (by omega), fun _ => ?_⟩
          refine c_emitP p2 ?_ (fun c3 p3 f3 => tail c3 p3 (f2.trans f3))
          simp only [List.length_append, List.length_cons, List.length_nil] at *
          omega
      have inner : ∀ m2 q jt (le : List Nat) (c2 : Nat → Nat → Nat), cnt ≤ q + m2 → q ≤ cnt → 2 * jt ≤ q → p < q → le.length ≤ q - p → evF (TK T n) cl p = pre le (tailF (TK T n) (· = 10004) (fun _ => cl) m2 q) → PSc T n cnt q (cs ++ l ++ le) c2 → FC c1 c2 → am_R tT E (d + 2) mX4_readCondition Q 21 [some (.inr 46), some (.inl (nI o)), some (.inl (nI it)), some (.inl (nI jt))] [] (NH c2) := by
        intro m2
        induction m2 with
        | zero =>
          intro q jt le c2 hm2 hq hjt hpq hle hev p2 f2
          have e : q = cnt := by omega
          have htk := p2.tk
          have hb := TK_kind (T := T) (n := n) (i := q)
          have hlt := TKb_lt hb
          have hno : ¬ TK T n q = 10004 := by rw [e, hA]; exact hend4
          rw [tail_stop hno, pre_ok, List.append_nil] at hev
          have hex := exit q le c2 (some (.inl (nI jt))) hpq hq hle hev p2 f2
          refine am_goS gX4_readCondition [2, 21, 38, 68] 400 ?_
          simp only [am_eqs, am_eqk, am_eqv, lX4_readCondition_0, lX4_readCondition_1, lX4_readCondition_2, fx_class, NH_at, NH_put, ↓reduceIte, List.mem_cons, List.not_mem_nil, or_false, or_self, false_or, true_and, and_true, Nat.reduceEqDiff, reduceCtorEq, List.length_cons, List.length_nil, Nat.reduceAdd, Nat.reduceLeDiff, Nat.reduceSub, Nat.reduceLT, Nat.zero_le, Nat.zero_add, forall_const, not_true_eq_false, not_false_eq_true, false_implies, true_implies, implies_true, Nat.zero_lt_succ, am_z0, am_z1]
          try simp (disch := omega) only [hs_at, hs_put, hs_63, NH_at, NH_put, NH_cpy, ni_add, ni_mul, ni_clamp, ni_in, ni_eq, ni_lt, ni_le, ni_sub, Nat.reduceAdd, Nat.reduceMul, Nat.reduceSub, eq_self, true_implies, not_true_eq_false, false_implies, and_true, true_and, not_false_eq_true, Nat.reduceEqDiff, Nat.reduceLeDiff, Nat.reduceLT, implies_true, ite_true, ite_false, htk]
          exact ⟨fun _ => hex, fun _ => ⟨fun z => absurd z hno, fun _ => hex⟩⟩
        | succ m2 ih2 =>
          intro q jt le c2 hm2 hq hjt hpq hle hev p2 f2
          have htk := p2.tk
          have hb := TK_kind (T := T) (n := n) (i := q)
          have hlt := TKb_lt hb
          by_cases hop : TK T n q = 10004
          · have hqc2 := lt_cnt (A := TK T n) (P := (· = 10004)) hA hend4 hq hop
            rw [tailF, cif_pos hop, hop] at hev
            refine am_goS gX4_readCondition [2, 21, 68] 400 ?_
            simp only [am_eqs, am_eqk, am_eqv, lX4_readCondition_0, lX4_readCondition_1, lX4_readCondition_2, fx_class, NH_at, NH_put, ↓reduceIte, List.mem_cons, List.not_mem_nil, or_false, or_self, false_or, true_and, and_true, Nat.reduceEqDiff, reduceCtorEq, List.length_cons, List.length_nil, Nat.reduceAdd, Nat.reduceLeDiff, Nat.reduceSub, Nat.reduceLT, Nat.zero_le, Nat.zero_add, forall_const, not_true_eq_false, not_false_eq_true, false_implies, true_implies, implies_true, Nat.zero_lt_succ, am_z0, am_z1]
            try simp (disch := omega) only [hs_at, hs_put, hs_63, NH_at, NH_put, NH_cpy, ni_add, ni_mul, ni_clamp, ni_in, ni_eq, ni_lt, ni_le, ni_sub, Nat.reduceAdd, Nat.reduceMul, Nat.reduceSub, eq_self, true_implies, not_true_eq_false, false_implies, and_true, true_and, not_false_eq_true, Nat.reduceEqDiff, Nat.reduceLeDiff, Nat.reduceLT, implies_true, ite_true, ite_false, htk]
            refine ⟨fun z => absurd z (by omega), fun _ => ⟨fun _ => ?_, fun z => absurd hop z⟩⟩
            refine c_next p2 hqc2 (fun z => by rw [hop] at z; exact hend4 z.symm) (fun c3 p3 f3 => ?_)
            refine hcl (q + 1) (cs ++ l ++ le) c3 _ p3 (by omega) (by simp only [List.length_append] at *; omega) (fun k2 l2 hk c4 p4 f4 => ⟨fun z => absurd z (by decide), fun _ => ?_⟩) (fun e1 j hk c4 er f4 => ⟨fun _ => ?_, fun z => absurd rfl z⟩)
            · obtain ⟨g1, g2, g3⟩ := hgd (q + 1) (by omega) _ _ hk
              rw [hk, bnd_ok, pre_pre] at hev
              refine c_emitP p4 (by simp only [List.length_append] at *; omega) (fun c5 p5 f5 => ?_)
              have eL : cs ++ l ++ le ++ l2 ++ [10004] = cs ++ l ++ (le ++ (l2 ++ [10004])) := by simp
              rw [eL] at p5
              exact ih2 k2 (jt + 1) (le ++ (l2 ++ [10004])) c5 (by omega) g2 (by omega) (by omega) (by simp only [List.length_append, List.length_cons, List.length_nil] at *; omega) hev p5 (f2.trans (f3.trans (f4.trans f5)))
            · rw [hk, bnd_er, pre_inl] at hev
              rw [hev, bnd_er, pre_inl] at heq
              exact h0 _ _ heq c4 er (hfc.trans (f2.trans (f3.trans f4)))
          · rw [tail_stop hop, pre_ok, List.append_nil] at hev
            have hex := exit q le c2 (some (.inl (nI jt))) hpq hq hle hev p2 f2
            refine am_goS gX4_readCondition [2, 21, 38, 68] 400 ?_
            simp only [am_eqs, am_eqk, am_eqv, lX4_readCondition_0, lX4_readCondition_1, lX4_readCondition_2, fx_class, NH_at, NH_put, ↓reduceIte, List.mem_cons, List.not_mem_nil, or_false, or_self, false_or, true_and, and_true, Nat.reduceEqDiff, reduceCtorEq, List.length_cons, List.length_nil, Nat.reduceAdd, Nat.reduceLeDiff, Nat.reduceSub, Nat.reduceLT, Nat.zero_le, Nat.zero_add, forall_const, not_true_eq_false, not_false_eq_true, false_implies, true_implies, implies_true, Nat.zero_lt_succ, am_z0, am_z1]
            try simp (disch := omega) only [hs_at, hs_put, hs_63, NH_at, NH_put, NH_cpy, ni_add, ni_mul, ni_clamp, ni_in, ni_eq, ni_lt, ni_le, ni_sub, Nat.reduceAdd, Nat.reduceMul, Nat.reduceSub, eq_self, true_implies, not_true_eq_false, false_implies, and_true, true_and, not_false_eq_true, Nat.reduceEqDiff, Nat.reduceLeDiff, Nat.reduceLT, implies_true, ite_true, ite_false, htk]
            exact ⟨fun _ => hex, fun _ => ⟨fun z => absurd z hop, fun _ => hex⟩⟩
      refine am_goS gX4_readCondition [2, 21] 400 ?_
      simp only [am_eqs, am_eqk, am_eqv, lX4_readCondition_0, lX4_readCondition_1, lX4_readCondition_2, fx_class, NH_at, NH_put, ↓reduceIte, List.mem_cons, List.not_mem_nil, or_false, or_self, false_or, true_and, and_true, Nat.reduceEqDiff, reduceCtorEq, List.length_cons, List.length_nil, Nat.reduceAdd, Nat.reduceLeDiff, Nat.reduceSub, Nat.reduceLT, Nat.zero_le, Nat.zero_add, forall_const, not_true_eq_false, not_false_eq_true, false_implies, true_implies, implies_true, Nat.zero_lt_succ, am_z0, am_z1]
      try simp (disch := omega) only [hs_at, hs_put, hs_63, NH_at, NH_put, NH_cpy, ni_add, ni_mul, ni_clamp, ni_in, ni_eq, ni_lt, ni_le, ni_sub, Nat.reduceAdd, Nat.reduceMul, Nat.reduceSub, eq_self, true_implies, not_true_eq_false, false_implies, and_true, true_and, not_false_eq_true, Nat.reduceEqDiff, Nat.reduceLeDiff, Nat.reduceLT, implies_true, ite_true, ite_false]
      refine ⟨fun z => absurd z (by omega), fun _ => ?_⟩
      refine hcl p (cs ++ l) c1 _ hps hp (by omega) (fun k l1 hk c2 p2 f2 => ⟨fun z => absurd z (by decide), fun _ => ?_⟩) (fun e1 j hk c2 er f2 => ⟨fun _ => ?_, fun z => absurd rfl z⟩)
      · obtain ⟨g1, g2, g3⟩ := hgd p hp _ _ hk
        refine inner 401 k 0 l1 c2 (by omega) g2 (by omega) g1 g3 ?_ p2 f2
        rw [evF_eq, hk, bnd_ok]
      · have : evF (TK T n) cl p = .inl (e1, j) := by rw [evF_eq, hk]; rfl
        rw [this, bnd_er, pre_inl] at heq
        exact h0 _ _ heq c2 er (hfc.trans f2)
  refine loop 401 i 0 [] [] c none (by omega) hi (by omega) (Or.inl ⟨rfl, rfl⟩) (by simp; exact hcl2) (by rw [List.append_nil]; exact hP) (FC.refl c) ?_
  rw [pre_nil]
  unfold anF chn
  simp only [List.append_nil]
theorem ctc_claim (hA : TK T n cnt = tEND) (hc : cnt ≤ 400) : ∀ (r o d : Nat), o + r = 8 → CTc E T n cnt mX4_readClaim [.inr 46, .inl (nI o)] (d + 5 + 2 * r) (clF (TK T n) r) := by
  intro r
  induction r with
  | zero =>
    intro o d ho i cs c Q hP hi hcl h1 h0
    have hcp := ctc_cmp (E := E) (d := d) (T := T) (n := n) (cnt := cnt) hA hc
    have htk := hP.tk
    have hb := TK_kind (T := T) (n := n) (i := i)
    have hlt := TKb_lt hb
    rw [clF] at h1 h0
    have hno : (TK T n i = 10005 ∨ TK T n i = 20040) → am_C tT E (d + 4) mX4_refuse [.inr 46, .inl (nI 3)] (NH c) (fun v h' => (v = 0 ∨ v = 1) ∧ Q v h') := by
      intro z
      rw [if_pos z] at h0
      exact c_refuse hP hi (by omega) (fun c2 er f2 => ⟨Or.inl rfl, h0 _ _ rfl c2 er f2⟩)
    refine am_C.of (by decide) (Nat.le_of_ble_eq_true rfl) ?_
    show am_R tT E _ mX4_readClaim _ 0 [some (.inr 46), some (.inl (nI o)), none, none] [] (NH c)
    refine am_goS gX4_readClaim [47] 400 ?_
    simp only [am_eqs, am_eqk, am_eqv, lX4_readClaim_0, lX4_readClaim_1, lX4_readClaim_2, fx_class, NH_at, NH_put, ↓reduceIte, List.mem_cons, List.not_mem_nil, or_false, or_self, false_or, true_and, and_true, Nat.reduceEqDiff, reduceCtorEq, List.length_cons, List.length_nil, Nat.reduceAdd, Nat.reduceLeDiff, Nat.reduceSub, Nat.reduceLT, Nat.zero_le, Nat.zero_add, forall_const, not_true_eq_false, not_false_eq_true, false_implies, true_implies, implies_true, Nat.zero_lt_succ, am_z0, am_z1]
    try simp (disch := omega) only [hs_at, hs_put, hs_63, NH_at, NH_put, NH_cpy, ni_add, ni_mul, ni_clamp, ni_in, ni_eq, ni_lt, ni_le, ni_sub, Nat.reduceAdd, Nat.reduceMul, Nat.reduceSub, eq_self, true_implies, not_true_eq_false, false_implies, and_true, true_and, not_false_eq_true, Nat.reduceEqDiff, Nat.reduceLeDiff, Nat.reduceLT, implies_true, ite_true, ite_false, htk]
    refine ⟨fun z => ⟨fun y => absurd y (by omega), fun _ => hno (Or.inr z)⟩, fun z => ⟨fun y => ⟨fun u => absurd u (by omega), fun _ => hno (Or.inl y)⟩, fun y => ?_⟩⟩
    rw [if_neg (fun q => q.elim y z)] at h1 h0
    exact hcp i cs c _ hP hi hcl (fun k l hk c2 p2 f2 => ⟨Or.inr rfl, h1 k l hk c2 p2 f2⟩) (fun e j hk c2 er f2 => ⟨Or.inl rfl, h0 e j hk c2 er f2⟩)
  | succ r ih =>
    intro o d ho i cs c Q hP hi hcl h1 h0
    have hcp := ctc_cmp (E := E) (d := d + 2 + 2 * r) (T := T) (n := n) (cnt := cnt) hA hc
    have htk := hP.tk
    have hb := TK_kind (T := T) (n := n) (i := i)
    have hlt := TKb_lt hb
    have hgc := cl_gd (A := TK T n) (cnt := cnt) hA r
    have eD : d + 5 + 2 * (r + 1) = (d + 2 + 2 * r) + 4 + 1 := by omega
    rw [eD]
    rw [clF] at h1 h0
    refine am_C.of (by decide) (Nat.le_of_ble_eq_true rfl) ?_
    show am_R tT E _ mX4_readClaim _ 0 [some (.inr 46), some (.inl (nI o)), none, none] [] (NH c)
    refine am_goS gX4_readClaim [47] 400 ?_
    simp only [am_eqs, am_eqk, am_eqv, lX4_readClaim_0, lX4_readClaim_1, lX4_readClaim_2, fx_class, NH_at, NH_put, ↓reduceIte, List.mem_cons, List.not_mem_nil, or_false, or_self, false_or, true_and, and_true, Nat.reduceEqDiff, reduceCtorEq, List.length_cons, List.length_nil, Nat.reduceAdd, Nat.reduceLeDiff, Nat.reduceSub, Nat.reduceLT, Nat.zero_le, Nat.zero_add, forall_const, not_true_eq_false, not_false_eq_true, false_implies, true_implies, implies_true, Nat.zero_lt_succ, am_z0, am_z1]
    try simp (disch := omega) only [hs_at, hs_put, hs_63, NH_at, NH_put, NH_cpy, ni_add, ni_mul, ni_clamp, ni_in, ni_eq, ni_lt, ni_le, ni_sub, Nat.reduceAdd, Nat.reduceMul, Nat.reduceSub, eq_self, true_implies, not_true_eq_false, false_implies, and_true, true_and, not_false_eq_true, Nat.reduceEqDiff, Nat.reduceLeDiff, Nat.reduceLT, implies_true, ite_true, ite_false, htk]
    refine ⟨fun z => ⟨fun y => ?_, fun y => absurd (by omega) y⟩, fun z => ⟨fun y => ⟨fun u => ?_, fun u => absurd (by omega) u⟩, fun y => ?_⟩⟩
    · -- a bracket
      rw [if_neg (by omega), if_pos z] at h1 h0
      have hic := lt_cnt (A := TK T n) (P := (· = 20040)) hA (by unfold tEND; omega) hi z
      have hone := ih (o + 1) d (by omega)
      rw [show d + 5 + 2 * r = (d + 4 + 2 * r) + 1 by omega] at hone
      have han := ctc_condition hA hc hgc hone
      rw [show d + 4 + 2 * r + 2 = d + 2 + 2 * r + 4 by omega] at han
      have hga := an_gd (A := TK T n) (cnt := cnt) hA hgc
      refine am_goS gX4_readClaim [] 400 ?_
      simp only [am_eqs, am_eqk, am_eqv, lX4_readClaim_0, lX4_readClaim_1, lX4_readClaim_2, fx_class, NH_at, NH_put, ↓reduceIte, List.mem_cons, List.not_mem_nil, or_false, or_self, false_or, true_and, and_true, Nat.reduceEqDiff, reduceCtorEq, List.length_cons, List.length_nil, Nat.reduceAdd, Nat.reduceLeDiff, Nat.reduceSub, Nat.reduceLT, Nat.zero_le, Nat.zero_add, forall_const, not_true_eq_false, not_false_eq_true, false_implies, true_implies, implies_true, Nat.zero_lt_succ, am_z0, am_z1]
      refine c_next hP hic (fun q => by rw [z] at q; unfold tEND at q; omega) (fun c2 p2 f2 => ?_)
      try simp (disch := omega) only [hs_at, hs_put, hs_63, NH_at, NH_put, NH_cpy, ni_add, ni_mul, ni_clamp, ni_in, ni_eq, ni_lt, ni_le, ni_sub, Nat.reduceAdd, Nat.reduceMul, Nat.reduceSub, eq_self, true_implies, not_true_eq_false, false_implies, and_true, true_and, not_false_eq_true, Nat.reduceEqDiff, Nat.reduceLeDiff, Nat.reduceLT, implies_true, ite_true, ite_false]
      refine han (i + 1) cs c2 _ p2 (by omega) (by omega) (fun k l hk c3 p3 f3 => ⟨fun z => absurd z (by decide), fun _ => ?_⟩) (fun e j hk c3 er f3 => ⟨fun _ => ?_, fun z => absurd rfl z⟩)
      · obtain ⟨g1, g2, g3⟩ := hga (i + 1) (by omega) _ _ hk
        rw [hk, bnd_ok] at h1 h0
        have htk3 := p3.tk
        have hlt3 := TKb_lt (TK_kind (T := T) (n := n) (i := k))
        try simp (disch := omega) only [hs_at, hs_put, hs_63, NH_at, NH_put, NH_cpy, ni_add, ni_mul, ni_clamp, ni_in, ni_eq, ni_lt, ni_le, ni_sub, Nat.reduceAdd, Nat.reduceMul, Nat.reduceSub, eq_self, true_implies, not_true_eq_false, false_implies, and_true, true_and, not_false_eq_true, Nat.reduceEqDiff, Nat.reduceLeDiff, Nat.reduceLT, implies_true, ite_true, ite_false, htk3]
        refine ⟨fun y => ?_, fun y => ?_⟩
        · rw [if_pos y] at h1
          have hkc := lt_cnt (A := TK T n) (P := (· = 20041)) hA (by unfold tEND; omega) g2 y
          refine c_next p3 hkc (fun q => by rw [y] at q; unfold tEND at q; omega) (fun c4 p4 f4 => ?_)
          exact h1 _ _ rfl c4 p4 (f2.trans (f3.trans f4))
        · rw [if_neg y] at h0
          refine c_refuse p3 g2 (by simp only [List.length_append]; omega) (fun c4 er f4 => ?_)
          exact ⟨Or.inl rfl, h0 _ _ rfl c4 er (f2.trans (f3.trans f4))⟩
      · rw [hk, bnd_er] at h0
        exact h0 _ _ rfl c3 er (f2.trans f3)
    · -- not
      rw [if_pos y] at h1 h0
      have hic := lt_cnt (A := TK T n) (P := (· = 10005)) hA (by unfold tEND; omega) hi y
      have hone := ih (o + 1) (d + 1) (by omega)
      rw [show d + 1 + 5 + 2 * r = d + 2 + 2 * r + 4 by omega] at hone
      refine am_goS gX4_readClaim [] 400 ?_
      simp only [am_eqs, am_eqk, am_eqv, lX4_readClaim_0, lX4_readClaim_1, lX4_readClaim_2, fx_class, NH_at, NH_put, ↓reduceIte, List.mem_cons, List.not_mem_nil, or_false, or_self, false_or, true_and, and_true, Nat.reduceEqDiff, reduceCtorEq, List.length_cons, List.length_nil, Nat.reduceAdd, Nat.reduceLeDiff, Nat.reduceSub, Nat.reduceLT, Nat.zero_le, Nat.zero_add, forall_const, not_true_eq_false, not_false_eq_true, false_implies, true_implies, implies_true, Nat.zero_lt_succ, am_z0, am_z1]
      refine c_next hP hic (fun q => by rw [y] at q; unfold tEND at q; omega) (fun c2 p2 f2 => ?_)
      try simp (disch := omega) only [hs_at, hs_put, hs_63, NH_at, NH_put, NH_cpy, ni_add, ni_mul, ni_clamp, ni_in, ni_eq, ni_lt, ni_le, ni_sub, Nat.reduceAdd, Nat.reduceMul, Nat.reduceSub, eq_self, true_implies, not_true_eq_false, false_implies, and_true, true_and, not_false_eq_true, Nat.reduceEqDiff, Nat.reduceLeDiff, Nat.reduceLT, implies_true, ite_true, ite_false]
      refine hone (i + 1) cs c2 _ p2 (by omega) (by omega) (fun k l hk c3 p3 f3 => ?_) (fun e j hk c3 er f3 => ?_)
      · obtain ⟨g1, g2, g3⟩ := hgc (i + 1) (by omega) _ _ hk
        rw [hk, bnd_ok] at h1
        refine c_emitP p3 (by simp only [List.length_append]; omega) (fun c4 p4 f4 => ?_)
        rw [List.append_assoc] at p4
        exact ⟨Or.inr rfl, h1 _ _ rfl c4 p4 (f2.trans (f3.trans f4))⟩
      · rw [hk, bnd_er] at h0
        refine c_emitE er (fun c4 er4 f4 => ?_)
        exact ⟨Or.inl rfl, h0 _ _ rfl c4 er4 (f2.trans (f3.trans f4))⟩
    · rw [if_neg y, if_neg z] at h1 h0
      exact hcp i cs c _ hP hi hcl (fun k l hk c2 p2 f2 => ⟨Or.inr rfl, h1 k l hk c2 p2 f2⟩) (fun e j hk c2 er f2 => ⟨Or.inl rfl, h0 e j hk c2 er f2⟩)
theorem ctc_cond0 (hA : TK T n cnt = tEND) (hc : cnt ≤ 400) : CTc E T n cnt mX4_readCondition [.inr 46, .inl (nI 0)] (d + 22) (anF (TK T n) (clF (TK T n) 8)) := by
  have hone := ctc_claim (E := E) (T := T) (n := n) (cnt := cnt) hA hc 8 0 d rfl
  rw [show d + 5 + 2 * 8 = (d + 20) + 1 by omega] at hone
  exact ctc_condition hA hc (cl_gd hA 8) hone
end CCLAIM
