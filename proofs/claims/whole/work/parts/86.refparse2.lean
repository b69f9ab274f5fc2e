/-! ===== part 86: the reference reads products, sums, tests ===== -/
theorem pre_inl {l : List Nat} {e : Nat × Nat} : pre l (.inl e) = .inl e := rfl
theorem pre_ok {l : List Nat} {k : Nat} {m : List Nat} : pre l (.inr (k, m)) = .inr (k, l ++ m) := rfl
theorem pre_pre {l m : List Nat} {r : PR} : pre l (pre m r) = pre (l ++ m) r := by
  cases r with
  | inl e => rfl
  | inr x => obtain ⟨k, y⟩ := x; simp [pre, bnd]
theorem tail_stop {A : Nat → Nat} {op : Nat → Prop} {sub : Nat → Nat → PR} {j : Nat} (h : ¬ op (A j)) : ∀ m, tailF A op sub m j = .inr (j, [])
  | 0 => rfl
  | m + 1 => by rw [tailF, cif_neg h]
theorem bnd_ok {k : Nat} {l : List Nat} {f : Nat → List Nat → PR} : bnd (.inr (k, l)) f = f k l := rfl
theorem bnd_er {e : Nat × Nat} {f : Nat → List Nat → PR} : bnd (.inl e) f = .inl e := rfl
theorem ty1_p {v : Nat} {S : List Bool} (h1 : 1 ≤ v) (h2 : v ≤ 9999) (hS : S.length < 21) : ty1 (16, v) (false :: S) = some (false :: S) := by simp [ty1, h1, h2, hS]
def CT (E : am_E) (T : Nat → Nat) (n cnt : Nat) (g : Nat → Nat) (M : am_M) (dd : Nat) (F : Nat → PR) (nd : Nat) (b : Bool) (o : Nat) : Prop := ∀ (i : Nat) (st : List (Nat × Nat)) (h : am_H) (Q : Int32 → am_H → Prop), PS T n i st o h → i ≤ cnt → st.length ≤ i →
  (∀ k l, F i = .inr (k, l) → ∀ (h' : am_H) (st' : List (Nat × Nat)), tkL st' = l → TY nd b st' → PS T n k (st ++ st') o h' → FRr h h' → Q (nI 1) (hs h' g)) →
  (∀ e j, F i = .inl (e, j) → ∀ h' : am_H, ER T n e j h' → FRr h h' → Q (nI 0) (hs h' g)) → am_C tT E dd M [.inr 63] (hs h g) Q
section RPARSE2
variable {E : am_E} {d : Nat} {h : am_H} {Q : Int32 → am_H → Prop} {g : Nat → Nat} {T : Nat → Nat} {n cnt : Nat}
theorem TY_bin {nd : Nat} {b b' : Bool} {k : Nat} {a c : List (Nat × Nat)} (ha : TY nd b a) (hc : TY (nd - 1) b c) (hnd : 1 ≤ nd) (hk : ∀ S : List Bool, ty1 (k, 0) (b :: b :: S) = some (b' :: S)) : TY nd b' (a ++ c ++ [(k, 0)]) := by
  intro S hS
  rw [tyL_app, tyL_app, ha S hS]
  show (Option.bind (tyL c (b :: S)) (tyL [(k, 0)])) = _
  rw [hc (b :: S) (by simp only [List.length_cons]; omega)]
  show tyL [(k, 0)] (b :: b :: S) = _
  rw [tyL, hk S]
  rfl
theorem TY.le {nd nd' : Nat} {b : Bool} {st : List (Nat × Nat)} (h : TY nd b st) (hl : nd ≤ nd') : TY nd' b st := fun S hS => h S (by omega)
theorem PS.tk {i o : Nat} {st : List (Nat × Nat)} (h' : PS T n i st o h) : h 63 15 = nI (rT (TK T n i)) := h'.1.2.2.1
theorem ct_product {o : Nat} (hA : TK T n cnt = tEND) (hc : cnt ≤ 400) : CT E T n cnt g mX12_product (d + 9) (prF (TK T n)) 2 false o := by
  intro i st h Q hP hi hst h1 h0
  have hgd := fun x => prS_gd (A := TK T n) (cnt := cnt) hA x
  have hend : ¬ opP tEND := by unfold opP tEND; omega
  refine am_C.of (by decide) (Nat.le_of_ble_eq_true rfl) ?_
  show am_R tT E _ mX12_product _ 0 [some (.inr 63), none, none] [] (hs h g)
  refine am_goS gX12_product [9] 400 ?_
  simp only [am_eqs, am_eqk, am_eqv, lX12_product_0, lX12_product_1, lX12_product_2, fx_ref, ↓reduceIte, List.mem_cons, List.not_mem_nil, or_false, or_self, false_or, true_and, and_true, Nat.reduceEqDiff, reduceCtorEq, List.length_cons, List.length_nil, Nat.reduceAdd, Nat.reduceLeDiff, Nat.reduceSub, Nat.reduceLT, Nat.zero_le, Nat.zero_add, forall_const, not_true_eq_false, not_false_eq_true, false_implies, true_implies, implies_true, Nat.zero_lt_succ, am_z0, am_z1]
  have loop : ∀ m j (hh : am_H) (st' : List (Nat × Nat)) (v1 v2 : Option am_V), cnt ≤ j + m → j ≤ cnt → (st ++ st').length ≤ j → TY 2 false st' → PS T n j (st ++ st') o hh → FRr h hh → prF (TK T n) i = pre (tkL st') (tailF (TK T n) opP (prS (TK T n)) m j) → am_R tT E (d + 9) mX12_product Q 9 [some (.inr 63), v1, v2] [] (hs hh g) := by
    intro m
    induction m with
    | zero =>
      intro j hh st' v1 v2 hm hj hsl hty hps hfr heq
      have e : j = cnt := by omega
      have hb := TK_b (T := T) (n := n) j
      have htk := hps.tk
      have hlt := rT_lt hb
      have s42 := rT_sg (s := 42) hb (by omega) (by omega)
      have s47 := rT_sg (s := 47) hb (by omega) (by omega)
      have hno : ¬ opP (TK T n j) := by rw [e, hA]; exact hend
      rw [tail_stop hno, pre_ok, List.append_nil] at heq
      unfold opP at hno
      refine am_goS gX12_product [9] 400 ?_
      simp only [am_eqs, am_eqk, am_eqv, lX12_product_0, lX12_product_1, lX12_product_2, fx_ref, ↓reduceIte, List.mem_cons, List.not_mem_nil, or_false, or_self, false_or, true_and, and_true, Nat.reduceEqDiff, reduceCtorEq, List.length_cons, List.length_nil, Nat.reduceAdd, Nat.reduceLeDiff, Nat.reduceSub, Nat.reduceLT, Nat.zero_le, Nat.zero_add, forall_const, not_true_eq_false, not_false_eq_true, false_implies, true_implies, implies_true, Nat.zero_lt_succ, am_z0, am_z1]
      try simp (disch := omega) only [hs_at, hs_put, hs_63, NH_at, NH_put, NH_cpy, ni_add, ni_mul, ni_clamp, ni_in, ni_eq, ni_lt, ni_le, ni_sub, Nat.reduceAdd, Nat.reduceMul, Nat.reduceSub, eq_self, true_implies, not_true_eq_false, false_implies, and_true, true_and, not_false_eq_true, Nat.reduceEqDiff, Nat.reduceLeDiff, Nat.reduceLT, implies_true, ite_true, ite_false, hs_63, htk]
      refine ⟨fun z => absurd z (by omega), fun _ => ⟨fun z => absurd z (by omega), fun _ => ?_⟩⟩
      exact h1 _ _ heq hh st' rfl hty hps hfr
    | succ m ih =>
      intro j hh st' v1 v2 hm hj hsl hty hps hfr heq
      have hb := TK_b (T := T) (n := n) j
      have htk := hps.tk
      have hlt := rT_lt hb
      have s42 := rT_sg (s := 42) hb (by omega) (by omega)
      have s47 := rT_sg (s := 47) hb (by omega) (by omega)
      by_cases hop : opP (TK T n j)
      · have hjc := lt_cnt (A := TK T n) (P := opP) hA hend hj hop
        rw [tailF, cif_pos hop] at heq
        have hb1 := TK_b (T := T) (n := n) (j + 1)
        have hlt1 := rT_lt hb1
        have hnum1 := rT_num hb1
        by_cases h42 : TK T n j = 20042
        · rw [h42] at heq
          have ep : prS (TK T n) 20042 (j + 1) = un1 (TK T n) (j + 1) := by unfold prS; rw [if_neg (by omega)]
          rw [ep] at heq
          refine am_goS gX12_product [9] 400 ?_
          simp only [am_eqs, am_eqk, am_eqv, lX12_product_0, lX12_product_1, lX12_product_2, fx_ref, ↓reduceIte, List.mem_cons, List.not_mem_nil, or_false, or_self, false_or, true_and, and_true, Nat.reduceEqDiff, reduceCtorEq, List.length_cons, List.length_nil, Nat.reduceAdd, Nat.reduceLeDiff, Nat.reduceSub, Nat.reduceLT, Nat.zero_le, Nat.zero_add, forall_const, not_true_eq_false, not_false_eq_true, false_implies, true_implies, implies_true, Nat.zero_lt_succ, am_z0, am_z1]
          try simp (disch := omega) only [hs_at, hs_put, hs_63, NH_at, NH_put, NH_cpy, ni_add, ni_mul, ni_clamp, ni_in, ni_eq, ni_lt, ni_le, ni_sub, Nat.reduceAdd, Nat.reduceMul, Nat.reduceSub, eq_self, true_implies, not_true_eq_false, false_implies, and_true, true_and, not_false_eq_true, Nat.reduceEqDiff, Nat.reduceLeDiff, Nat.reduceLT, implies_true, ite_true, ite_false, hs_63, htk]
          refine ⟨fun _ => ⟨fun z => absurd z (by omega), fun _ => ?_⟩, fun z => absurd (s42.mpr h42) (by omega)⟩
          refine r_nextP hps (fun h2 p2 f2 => ?_)
          refine r_unit p2 (by omega) (fun hu h3 q hq1 hq2 p3 f3 => ?_) (fun hu h3 er f3 => ?_)
          · try simp (disch := omega) only [hs_at, hs_put, hs_63, NH_at, NH_put, NH_cpy, ni_add, ni_mul, ni_clamp, ni_in, ni_eq, ni_lt, ni_le, ni_sub, Nat.reduceAdd, Nat.reduceMul, Nat.reduceSub, eq_self, true_implies, not_true_eq_false, false_implies, and_true, true_and, not_false_eq_true, Nat.reduceEqDiff, Nat.reduceLeDiff, Nat.reduceLT, implies_true, ite_true, ite_false]
            have hlq : (st ++ st' ++ [q]).length = (st ++ st').length + 1 := by simp; omega
            refine r_lay p3 (by omega) ⟨by omega, by omega⟩ (fun h4 p4 f4 => ?_)
            have hun : un1 (TK T n) (j + 1) = .inr (j + 1 + 1, [TK T n (j + 1)]) := by unfold un1; rw [cif_pos hu]
            have hjc2 := (un_gd (A := TK T n) (cnt := cnt) hA (j + 1) (by omega) _ _ hun).2.1
            rw [hun, bnd_ok, pre_pre] at heq
            have e1 : st ++ st' ++ [q] ++ [(15, 0)] = st ++ (st' ++ [q] ++ [(15, 0)]) := by simp
            rw [e1] at p4
            refine ih (j + 1 + 1) h4 (st' ++ [q] ++ [(15, 0)]) _ _ (by omega) hjc2 (by rw [← e1]; simp only [List.length_append, List.length_cons, List.length_nil] at *; omega) (TY_bin hty hq2 (by omega) (fun S => rfl)) p4 (hfr.trans (f2.trans (f3.trans f4))) ?_
            rw [heq, tkL_app, tkL_app]
            have e15 : tkS (15, 0) = [20042] := rfl
            simp only [tkL, hq1, e15, List.append_nil, List.append_assoc]
          · try simp (disch := omega) only [hs_at, hs_put, hs_63, NH_at, NH_put, NH_cpy, ni_add, ni_mul, ni_clamp, ni_in, ni_eq, ni_lt, ni_le, ni_sub, Nat.reduceAdd, Nat.reduceMul, Nat.reduceSub, eq_self, true_implies, not_true_eq_false, false_implies, and_true, true_and, not_false_eq_true, Nat.reduceEqDiff, Nat.reduceLeDiff, Nat.reduceLT, implies_true, ite_true, ite_false]
            have hun : un1 (TK T n) (j + 1) = .inl (1, j + 1) := by unfold un1; rw [cif_neg hu]
            rw [hun] at heq
            exact h0 _ _ heq h3 er (hfr.trans (f2.trans f3))
        · have h47 : TK T n j = 20047 := hop.resolve_left h42
          rw [h47] at heq
          have ep : prS (TK T n) 20047 (j + 1) = nmD (TK T n) (j + 1) := by unfold prS; rw [if_pos rfl]
          rw [ep] at heq
          refine am_goS gX12_product [9] 400 ?_
          simp only [am_eqs, am_eqk, am_eqv, lX12_product_0, lX12_product_1, lX12_product_2, fx_ref, ↓reduceIte, List.mem_cons, List.not_mem_nil, or_false, or_self, false_or, true_and, and_true, Nat.reduceEqDiff, reduceCtorEq, List.length_cons, List.length_nil, Nat.reduceAdd, Nat.reduceLeDiff, Nat.reduceSub, Nat.reduceLT, Nat.zero_le, Nat.zero_add, forall_const, not_true_eq_false, not_false_eq_true, false_implies, true_implies, implies_true, Nat.zero_lt_succ, am_z0, am_z1]
          try simp (disch := omega) only [hs_at, hs_put, hs_63, NH_at, NH_put, NH_cpy, ni_add, ni_mul, ni_clamp, ni_in, ni_eq, ni_lt, ni_le, ni_sub, Nat.reduceAdd, Nat.reduceMul, Nat.reduceSub, eq_self, true_implies, not_true_eq_false, false_implies, and_true, true_and, not_false_eq_true, Nat.reduceEqDiff, Nat.reduceLeDiff, Nat.reduceLT, implies_true, ite_true, ite_false, hs_63, htk]
          refine ⟨fun z => absurd (s42.mp (by omega)) h42, fun _ => ⟨fun _ => ⟨fun _ => ?_, fun z => absurd (s47.mpr h47) (by omega)⟩, fun z => absurd (s47.mpr h47) (by omega)⟩⟩
          refine r_nextP hps (fun h2 p2 f2 => ?_)
          have htk2 := p2.tk
          obtain ⟨v, hv, e17, hval⟩ := p2.1.2.2.2.2
          try simp (disch := omega) only [hs_at, hs_put, hs_63, NH_at, NH_put, NH_cpy, ni_add, ni_mul, ni_clamp, ni_in, ni_eq, ni_lt, ni_le, ni_sub, Nat.reduceAdd, Nat.reduceMul, Nat.reduceSub, eq_self, true_implies, not_true_eq_false, false_implies, and_true, true_and, not_false_eq_true, Nat.reduceEqDiff, Nat.reduceLeDiff, Nat.reduceLT, implies_true, ite_true, ite_false, hs_63, htk2, e17]
          refine ⟨fun z => ?_, fun z => ?_⟩
          · have hx := hnum1.mp z
            have hvx := hval hx
            refine ⟨fun z0 => ?_, fun z0 => ?_⟩
            · refine r_bad p2.1 (fun h3 er f3 => ?_)
              try simp (disch := omega) only [hs_at, hs_put, hs_63, NH_at, NH_put, NH_cpy, ni_add, ni_mul, ni_clamp, ni_in, ni_eq, ni_lt, ni_le, ni_sub, Nat.reduceAdd, Nat.reduceMul, Nat.reduceSub, eq_self, true_implies, not_true_eq_false, false_implies, and_true, true_and, not_false_eq_true, Nat.reduceEqDiff, Nat.reduceLeDiff, Nat.reduceLT, implies_true, ite_true, ite_false]
              have hnm : nmD (TK T n) (j + 1) = .inl (2, j + 1) := by unfold nmD; rw [if_pos hx, if_pos (by omega)]
              rw [hnm] at heq
              exact ⟨Or.inl rfl, h0 _ _ heq h3 er (hfr.trans (f2.trans f3))⟩
            · refine r_nextP p2 (fun h3 p3 f3 => ?_)
              refine r_lay p3 (by omega) ⟨by omega, hv⟩ (fun h4 p4 f4 => ?_)
              have hnm : nmD (TK T n) (j + 1) = .inr (j + 1 + 1, [TK T n (j + 1)]) := by unfold nmD; rw [if_pos hx, if_neg (by omega)]
              have hjc2 := (nm_gd (A := TK T n) (cnt := cnt) hA (j + 1) (by omega) _ _ hnm).2.1
              rw [hnm, bnd_ok, pre_pre] at heq
              have e1 : st ++ st' ++ [(16, v)] = st ++ (st' ++ [(16, v)]) := by simp
              rw [e1] at p4
              refine ih (j + 1 + 1) h4 (st' ++ [(16, v)]) _ _ (by omega) hjc2 (by rw [← e1]; simp only [List.length_append, List.length_cons, List.length_nil] at *; omega) (fun S hS => ?_) p4 (hfr.trans (f2.trans (f3.trans f4))) ?_
              · rw [tyL_app, hty S hS]
                show tyL [(16, v)] (false :: S) = _
                rw [tyL, ty1_p (by omega) hv (by omega)]
                rfl
              · rw [heq, tkL_app]
                simp only [tkL, tkS, List.append_nil]
                rw [hvx]
                simp
          · refine r_bad p2.1 (fun h3 er f3 => ?_)
            try simp (disch := omega) only [hs_at, hs_put, hs_63, NH_at, NH_put, NH_cpy, ni_add, ni_mul, ni_clamp, ni_in, ni_eq, ni_lt, ni_le, ni_sub, Nat.reduceAdd, Nat.reduceMul, Nat.reduceSub, eq_self, true_implies, not_true_eq_false, false_implies, and_true, true_and, not_false_eq_true, Nat.reduceEqDiff, Nat.reduceLeDiff, Nat.reduceLT, implies_true, ite_true, ite_false]
            have hnm : nmD (TK T n) (j + 1) = .inl (1, j + 1) := by unfold nmD; rw [if_neg (fun q => z (hnum1.mpr q))]
            rw [hnm] at heq
            exact ⟨Or.inl rfl, h0 _ _ heq h3 er (hfr.trans (f2.trans f3))⟩
      · rw [tail_stop hop, pre_ok, List.append_nil] at heq
        unfold opP at hop
        refine am_goS gX12_product [9] 400 ?_
        simp only [am_eqs, am_eqk, am_eqv, lX12_product_0, lX12_product_1, lX12_product_2, fx_ref, ↓reduceIte, List.mem_cons, List.not_mem_nil, or_false, or_self, false_or, true_and, and_true, Nat.reduceEqDiff, reduceCtorEq, List.length_cons, List.length_nil, Nat.reduceAdd, Nat.reduceLeDiff, Nat.reduceSub, Nat.reduceLT, Nat.zero_le, Nat.zero_add, forall_const, not_true_eq_false, not_false_eq_true, false_implies, true_implies, implies_true, Nat.zero_lt_succ, am_z0, am_z1]
        try simp (disch := omega) only [hs_at, hs_put, hs_63, NH_at, NH_put, NH_cpy, ni_add, ni_mul, ni_clamp, ni_in, ni_eq, ni_lt, ni_le, ni_sub, Nat.reduceAdd, Nat.reduceMul, Nat.reduceSub, eq_self, true_implies, not_true_eq_false, false_implies, and_true, true_and, not_false_eq_true, Nat.reduceEqDiff, Nat.reduceLeDiff, Nat.reduceLT, implies_true, ite_true, ite_false, hs_63, htk]
        refine ⟨fun z => absurd (s42.mp (by omega)) (by omega), fun _ => ⟨fun z => absurd (s47.mp (by omega)) (by omega), fun _ => ?_⟩⟩
        exact h1 _ _ heq hh st' rfl hty hps hfr
  have e0 : prF (TK T n) i = bnd (un1 (TK T n) i) (fun j l => pre l (tailF (TK T n) opP (prS (TK T n)) 401 j)) := by
    unfold prF chn prS
    rw [if_neg (by omega)]
  refine r_unit hP (by omega) (fun hu h2 q hq1 hq2 p2 f2 => ?_) (fun hu h2 er f2 => ?_)
  · try simp (disch := omega) only [hs_at, hs_put, hs_63, NH_at, NH_put, NH_cpy, ni_add, ni_mul, ni_clamp, ni_in, ni_eq, ni_lt, ni_le, ni_sub, Nat.reduceAdd, Nat.reduceMul, Nat.reduceSub, eq_self, true_implies, not_true_eq_false, false_implies, and_true, true_and, not_false_eq_true, Nat.reduceEqDiff, Nat.reduceLeDiff, Nat.reduceLT, implies_true, ite_true, ite_false]
    have hun : un1 (TK T n) i = .inr (i + 1, [TK T n i]) := by unfold un1; rw [cif_pos hu]
    have hjc2 := (un_gd (A := TK T n) (cnt := cnt) hA i hi _ _ hun).2.1
    refine loop 401 (i + 1) h2 [q] _ _ (by omega) hjc2 (by simp; omega) (hq2.le (by omega)) p2 f2 ?_
    rw [e0, hun, bnd_ok]
    simp only [tkL, hq1, List.append_nil]
  · try simp (disch := omega) only [hs_at, hs_put, hs_63, NH_at, NH_put, NH_cpy, ni_add, ni_mul, ni_clamp, ni_in, ni_eq, ni_lt, ni_le, ni_sub, Nat.reduceAdd, Nat.reduceMul, Nat.reduceSub, eq_self, true_implies, not_true_eq_false, false_implies, and_true, true_and, not_false_eq_true, Nat.reduceEqDiff, Nat.reduceLeDiff, Nat.reduceLT, implies_true, ite_true, ite_false]
    have hun : un1 (TK T n) i = .inl (1, i) := by unfold un1; rw [cif_neg hu]
    exact h0 1 i (by rw [e0, hun]; rfl) h2 er f2
end RPARSE2
