/-! ===== part 90: the reference's line ===== -/
noncomputable def lnF (A : Nat → Nat) (i k : Nat) : (Nat × Nat) ⊕ (Nat × Nat × List Nat) := if A i = 10000 ∨ A i = 10001 then (if k = 16 then .inl (3, i) else match (if A (i + 1) = 10002 then anF A (clF A 8) (i + 2) else .inr (i + 1, [])) with
  | .inl e => .inl e
  | .inr x => if A x.1 = 20059 then .inr (x.1 + 1, A i - 10000, x.2) else .inl (1, x.1)) else .inl (1, i)
def FRl (h h' : am_H) : Prop := (∀ o, o ≠ 63 → o ≠ 68 → o ≠ 69 → h' o = h o) ∧ ∀ k, k < 12 ∨ k = 13 ∨ k = 20 ∨ 21 < k → h' 63 k = h 63 k
theorem FRl.refl (h : am_H) : FRl h h := ⟨fun _ _ _ _ => rfl, fun _ _ => rfl⟩
theorem FRl.trans {h h1 h2 : am_H} (a : FRl h h1) (b : FRl h1 h2) : FRl h h2 := ⟨fun o x y z => (b.1 o x y z).trans (a.1 o x y z), fun k hk => (b.2 k hk).trans (a.2 k hk)⟩
theorem FRl.fr {h h1 : am_H} (a : FRr h h1) : FRl h h1 := ⟨fun o x _ z => a.1 o x z, a.2⟩
section RALINE
variable {E : am_E} {d : Nat} {h : am_H} {Q : Int32 → am_H → Prop} {g : Nat → Nat} {T : Nat → Nat} {n cnt : Nat}
theorem PS.u68 {i o j : Nat} {v : Int32} {st : List (Nat × Nat)} (hP : PS T n i st o h) : PS T n i st o (am_upd h 68 j v) ∧ FRl h (am_upd h 68 j v) := by
  obtain ⟨hR, e12, hsf, e21, e18⟩ := hP
  have e63 : am_upd h 68 j v 63 = h 63 := am_upd_ne _ _ _ (by omega)
  exact ⟨⟨hR.cg (am_upd_ne _ _ _ (by omega)) (fun k _ _ => by rw [e63]), by rw [e63]; exact e12, by rw [am_upd_ne _ _ _ (by omega)]; exact hsf, by rw [e63]; exact e21, by rw [e63]; exact e18⟩, fun o _ y _ => am_upd_ne _ _ _ y, fun k _ => by rw [e63]⟩
theorem PS.u21 {i o o' : Nat} {st : List (Nat × Nat)} (hP : PS T n i st o h) : PS T n i st o' (am_upd h 63 21 (nI o')) ∧ FRr h (am_upd h 63 21 (nI o')) := by
  obtain ⟨hR, e12, hsf, -, e18⟩ := hP
  refine ⟨⟨hR.cg (am_upd_ne _ _ _ (by omega)) (fun k x y => ?_), ?_, ?_, ?_, ?_⟩, fun o x y => am_upd_ne _ _ _ x, fun k hk => ?_⟩
  · rw [am_upd_self]; simp only [upd, if_neg (show ¬ k = 21 by omega)]
  · rw [am_upd_self]; simp only [upd, if_neg (show ¬ 12 = 21 by omega)]; exact e12
  · rw [am_upd_ne _ _ _ (by omega)]; exact hsf
  · rw [am_upd_self]; simp [upd]
  · rw [am_upd_self]; simp only [upd, if_neg (show ¬ 18 = 21 by omega)]; exact e18
  · rw [am_upd_self]; simp only [upd, if_neg (show ¬ k = 21 by omega)]
theorem r_aLine {i o k : Nat} {st : List (Nat × Nat)} (hA : TK T n cnt = tEND) (hc : cnt ≤ 400) (hP : PS T n i st o h) (hi : i ≤ cnt) (hst : st.length ≤ i) (hk : k ≤ 16) (h11 : h 63 11 = nI k)
    (h1 : ∀ i' w l, lnF (TK T n) i k = .inr (i', w, l) → ∀ (h' : am_H) (st' : List (Nat × Nat)), w ≤ 1 → i < i' → i' ≤ cnt → k < 16 → tkL st' = l → (st' = [] ∨ TY 22 true st') → (st ++ st').length ≤ i' → PS T n i' (st ++ st') 0 h' → h' 68 (3 * k) = nI w → h' 68 (3 * k + 1) = nI st.length → h' 68 (3 * k + 2) = nI (st.length + st'.length) → (∀ j, j < 3 * k → h' 68 j = h 68 j) → FRl h h' → Q (nI 1) (hs h' g))
    (h0 : ∀ e j, lnF (TK T n) i k = .inl (e, j) → ∀ h' : am_H, ER T n e j h' → FRl h h' → Q (nI 0) (hs h' g)) : am_C tT E (d + 38) mX12_aLine [.inr 63] (hs h g) Q := by
  have hb := TK_b (T := T) (n := n) i
  have htk := hP.tk
  have hlt := rT_lt hb
  have sln := rT_ln hb
  unfold lnF at h1 h0
  refine am_C.of (by decide) (Nat.le_of_ble_eq_true rfl) ?_
  show am_R tT E _ mX12_aLine _ 0 [some (.inr 63)] [] (hs h g)
  refine am_goS gX12_aLine [35] 400 ?_
  simp only [am_eqs, am_eqk, am_eqv, lX12_aLine_0, lX12_aLine_1, lX12_aLine_2, fx_ref, ↓reduceIte, List.mem_cons, List.not_mem_nil, or_false, or_self, false_or, true_and, and_true, Nat.reduceEqDiff, reduceCtorEq, List.length_cons, List.length_nil, Nat.reduceAdd, Nat.reduceLeDiff, Nat.reduceSub, Nat.reduceLT, Nat.zero_le, Nat.zero_add, forall_const, not_true_eq_false, not_false_eq_true, false_implies, true_implies, implies_true, Nat.zero_lt_succ, am_z0, am_z1]
  try simp (disch := omega) only [hs_at, hs_put, hs_63, NH_at, NH_put, NH_cpy, ni_add, ni_mul, ni_clamp, ni_in, ni_eq, ni_lt, ni_le, ni_sub, Nat.reduceAdd, Nat.reduceMul, Nat.reduceSub, eq_self, true_implies, not_true_eq_false, false_implies, and_true, true_and, not_false_eq_true, Nat.reduceEqDiff, Nat.reduceLeDiff, Nat.reduceLT, implies_true, ite_true, ite_false, hs_63, htk]
  refine r_isIn (fun y => ?_) (fun y => ?_)
  · rw [ni_le (by omega) (by omega), ni_le (by omega) (by omega), sln.1] at y
    have hic := lt_cnt (A := TK T n) (P := fun x => x = 10000 ∨ x = 10001) hA (by unfold tEND; omega) hi y
    have e20 := sln.2 y
    have r20 := sln.1.mpr y
    rw [if_pos y] at h1 h0
    try simp (disch := omega) only [hs_at, hs_put, hs_63, NH_at, NH_put, NH_cpy, ni_add, ni_mul, ni_clamp, ni_in, ni_eq, ni_lt, ni_le, ni_sub, Nat.reduceAdd, Nat.reduceMul, Nat.reduceSub, eq_self, true_implies, not_true_eq_false, false_implies, and_true, true_and, not_false_eq_true, Nat.reduceEqDiff, Nat.reduceLeDiff, Nat.reduceLT, implies_true, ite_true, ite_false, hs_63, h11]
    refine ⟨fun z => ?_, fun z => ?_⟩
    · rw [if_pos z] at h0
      refine r_bad hP.1 (fun h' er fr => ?_)
      try simp (disch := omega) only [hs_at, hs_put, hs_63, NH_at, NH_put, NH_cpy, ni_add, ni_mul, ni_clamp, ni_in, ni_eq, ni_lt, ni_le, ni_sub, Nat.reduceAdd, Nat.reduceMul, Nat.reduceSub, eq_self, true_implies, not_true_eq_false, false_implies, and_true, true_and, not_false_eq_true, Nat.reduceEqDiff, Nat.reduceLeDiff, Nat.reduceLT, implies_true, ite_true, ite_false]
      exact ⟨Or.inl rfl, h0 _ _ rfl h' er (FRl.fr fr)⟩
    · rw [if_neg z] at h1 h0
      obtain ⟨a1, a2⟩ := PS.u68 (j := 3 * k) (v := nI (rT (TK T n i) - 20)) hP
      obtain ⟨b1, b2⟩ := PS.u21 (o' := 0) a1
      refine am_goS gX12_aLine [62] 400 ?_
      simp only [am_eqs, am_eqk, am_eqv, lX12_aLine_0, lX12_aLine_1, lX12_aLine_2, fx_ref, ↓reduceIte, List.mem_cons, List.not_mem_nil, or_false, or_self, false_or, true_and, and_true, Nat.reduceEqDiff, reduceCtorEq, List.length_cons, List.length_nil, Nat.reduceAdd, Nat.reduceLeDiff, Nat.reduceSub, Nat.reduceLT, Nat.zero_le, Nat.zero_add, forall_const, not_true_eq_false, not_false_eq_true, false_implies, true_implies, implies_true, Nat.zero_lt_succ, am_z0, am_z1]
      try simp (disch := omega) only [hs_at, hs_put, hs_63, NH_at, NH_put, NH_cpy, ni_add, ni_mul, ni_clamp, ni_in, ni_eq, ni_lt, ni_le, ni_sub, Nat.reduceAdd, Nat.reduceMul, Nat.reduceSub, eq_self, true_implies, not_true_eq_false, false_implies, and_true, true_and, not_false_eq_true, Nat.reduceEqDiff, Nat.reduceLeDiff, Nat.reduceLT, implies_true, ite_true, ite_false, hs_63, h11, htk, hs_upo, hs_up63]
      refine ⟨by omega, ?_⟩
      refine r_nextP b1 (fun h2 p2 f2 => ?_)
      have l2 := a2.trans ((FRl.fr b2).trans (FRl.fr f2))
      have k11 : h2 63 11 = nI k := by rw [l2.2 11 (by omega)]; exact h11
      have e12 := p2.2.1
      have k68 : h2 68 (3 * k) = nI (TK T n i - 10000) ∧ ∀ j, j < 3 * k → h2 68 j = h 68 j := by
        have : h2 68 = am_upd h 68 (3 * k) (nI (rT (TK T n i) - 20)) 68 := by rw [f2.1 68 (by omega) (by omega), am_upd_ne _ _ _ (by omega)]
        rw [this, am_upd_self]
        refine ⟨by simp only [upd, if_pos]; rw [e20], fun j hj => by simp only [upd, if_neg (show ¬ j = 3 * k by omega)]⟩
      obtain ⟨c1, c2⟩ := PS.u68 (j := 3 * k + 1) (v := nI st.length) p2
      have l3 := l2.trans c2
      have fin : ∀ (x : Nat × List Nat) (h4 : am_H) (st' : List (Nat × Nat)), (if TK T n (i + 1) = 10002 then anF (TK T n) (clF (TK T n) 8) (i + 2) else .inr (i + 1, [])) = (.inr x : PR) → i < x.1 → x.1 ≤ cnt → tkL st' = x.2 → (st' = [] ∨ TY 22 true st') → (st ++ st').length ≤ x.1 → PS T n x.1 (st ++ st') 0 h4 → FRr (am_upd h2 68 (3 * k + 1) (nI st.length)) h4 → am_R tT E (d + 38) mX12_aLine Q 100 [some (.inr 63)] [] (hs h4 g) := by
        intro x h4 st' hx hix hxc htl hty hl4 p4 f4
        rw [hx] at h1 h0
        simp only at h1 h0
        have l4 := l3.trans (FRl.fr f4)
        have k114 : h4 63 11 = nI k := by rw [l4.2 11 (by omega)]; exact h11
        have e124 := p4.2.1
        obtain ⟨d1, d2⟩ := PS.u68 (j := 3 * k + 2) (v := nI (st ++ st').length) p4
        have s59 := rT_sg (s := 59) (TK_b (T := T) (n := n) x.1) (by omega) (by omega)
        refine am_goS gX12_aLine [] 400 ?_
        simp only [am_eqs, am_eqk, am_eqv, lX12_aLine_0, lX12_aLine_1, lX12_aLine_2, fx_ref, ↓reduceIte, List.mem_cons, List.not_mem_nil, or_false, or_self, false_or, true_and, and_true, Nat.reduceEqDiff, reduceCtorEq, List.length_cons, List.length_nil, Nat.reduceAdd, Nat.reduceLeDiff, Nat.reduceSub, Nat.reduceLT, Nat.zero_le, Nat.zero_add, forall_const, not_true_eq_false, not_false_eq_true, false_implies, true_implies, implies_true, Nat.zero_lt_succ, am_z0, am_z1]
        try simp (disch := omega) only [hs_at, hs_put, hs_63, NH_at, NH_put, NH_cpy, ni_add, ni_mul, ni_clamp, ni_in, ni_eq, ni_lt, ni_le, ni_sub, Nat.reduceAdd, Nat.reduceMul, Nat.reduceSub, eq_self, true_implies, not_true_eq_false, false_implies, and_true, true_and, not_false_eq_true, Nat.reduceEqDiff, Nat.reduceLeDiff, Nat.reduceLT, implies_true, ite_true, ite_false, hs_63, k114, e124, hs_upo]
        refine ⟨by omega, ?_⟩
        refine r_need d1 (by omega) (fun q h5 p5 f5 => ?_) (fun q h5 er f5 => ?_)
        · have hq59 := s59.mp q
          have hxc2 := lt_cnt (A := TK T n) (P := (· = 20059)) hA (by unfold tEND; omega) hxc hq59
          rw [if_pos hq59] at h1
          have e68 : h5 68 = am_upd h4 68 (3 * k + 2) (nI (st ++ st').length) 68 := f5.1 68 (by omega) (by omega)
          have e684 : h4 68 = am_upd h2 68 (3 * k + 1) (nI st.length) 68 := f4.1 68 (by omega) (by omega)
          rw [am_upd_self] at e68 e684
          refine ⟨Or.inr rfl, h1 _ _ _ rfl h5 st' (by omega) (by omega) (by omega) (by omega) htl hty (by omega) p5 ?_ ?_ ?_ (fun j hj => ?_) (l4.trans (d2.trans (FRl.fr f5)))⟩
          · rw [e68]
            simp only [upd, if_neg (show ¬ 3 * k = 3 * k + 2 by omega)]
            rw [e684]
            simp only [upd, if_neg (show ¬ 3 * k = 3 * k + 1 by omega)]
            exact k68.1
          · rw [e68]
            simp only [upd, if_neg (show ¬ 3 * k + 1 = 3 * k + 2 by omega)]
            rw [e684]
            simp [upd]
          · rw [e68]
            simp [upd]
          · rw [e68]
            simp only [upd, if_neg (show ¬ j = 3 * k + 2 by omega)]
            rw [e684]
            simp only [upd, if_neg (show ¬ j = 3 * k + 1 by omega)]
            exact k68.2 j hj
        · rw [if_neg (fun z => q (s59.mpr z))] at h0
          exact ⟨Or.inl rfl, h0 _ _ rfl h5 er (l4.trans (d2.trans (FRl.fr f5)))⟩
      have hb2 := TK_b (T := T) (n := n) (i + 1)
      have htk3 := c1.tk
      have hlt2 := rT_lt hb2
      have s3 := (rT_w hb2).1
      refine am_goS gX12_aLine [100] 400 ?_
      simp only [am_eqs, am_eqk, am_eqv, lX12_aLine_0, lX12_aLine_1, lX12_aLine_2, fx_ref, ↓reduceIte, List.mem_cons, List.not_mem_nil, or_false, or_self, false_or, true_and, and_true, Nat.reduceEqDiff, reduceCtorEq, List.length_cons, List.length_nil, Nat.reduceAdd, Nat.reduceLeDiff, Nat.reduceSub, Nat.reduceLT, Nat.zero_le, Nat.zero_add, forall_const, not_true_eq_false, not_false_eq_true, false_implies, true_implies, implies_true, Nat.zero_lt_succ, am_z0, am_z1]
      try simp (disch := omega) only [hs_at, hs_put, hs_63, NH_at, NH_put, NH_cpy, ni_add, ni_mul, ni_clamp, ni_in, ni_eq, ni_lt, ni_le, ni_sub, Nat.reduceAdd, Nat.reduceMul, Nat.reduceSub, eq_self, true_implies, not_true_eq_false, false_implies, and_true, true_and, not_false_eq_true, Nat.reduceEqDiff, Nat.reduceLeDiff, Nat.reduceLT, implies_true, ite_true, ite_false, hs_63, k11, e12, hs_upo, htk3]
      refine ⟨by omega, fun z => ?_, fun z => ?_⟩
      · have e3 := s3.mp z
        have hic2 := lt_cnt (A := TK T n) (P := (· = 10002)) hA (by unfold tEND; omega) (show i + 1 ≤ cnt by omega) e3
        have han := ct_cond (E := E) (d := d) (g := g) (T := T) (n := n) (cnt := cnt) hA hc
        have hga := an_gd (A := TK T n) (cnt := cnt) hA (cl_gd hA 8)
        refine r_nextP c1 (fun h3 p3 f3 => ?_)
        refine han (i + 1 + 1) st h3 _ p3 (by omega) (by omega) (fun k1 l1 hk1 h4 st' t' ty' p4 f4 => ⟨fun z => absurd z (by decide), fun _ => ?_⟩) (fun e1 j hk1 h4 er f4 => ⟨fun _ => ?_, fun z => absurd rfl z⟩)
        · obtain ⟨g1, g2, g3⟩ := hga (i + 1 + 1) (by omega) _ _ hk1
          have hlen := tkL_len st'
          rw [t'] at hlen
          exact fin (k1, l1) h4 st' (by rw [if_pos e3]; exact hk1) (show i < k1 by omega) g2 t' (Or.inr ty') (by rw [List.length_append]; show st.length + st'.length ≤ k1; omega) p4 (f3.trans f4)
        · rw [if_pos e3, hk1] at h0
          exact h0 _ _ rfl h4 er (l3.trans (FRl.fr (f3.trans f4)))
      · have e3 : ¬ TK T n (i + 1) = 10002 := fun q => z (s3.mpr q)
        have := fin (i + 1, []) (am_upd h2 68 (3 * k + 1) (nI st.length)) [] (by rw [if_neg e3]) (show i < i + 1 by omega) (show i + 1 ≤ cnt by omega) rfl (Or.inl rfl) (by rw [List.append_nil]; show st.length ≤ i + 1; omega) (by rw [List.append_nil]; exact c1) (FRr.refl _)
        exact this
  · rw [ni_le (by omega) (by omega), ni_le (by omega) (by omega), sln.1] at y
    rw [if_neg y] at h0
    try simp (disch := omega) only [hs_at, hs_put, hs_63, NH_at, NH_put, NH_cpy, ni_add, ni_mul, ni_clamp, ni_in, ni_eq, ni_lt, ni_le, ni_sub, Nat.reduceAdd, Nat.reduceMul, Nat.reduceSub, eq_self, true_implies, not_true_eq_false, false_implies, and_true, true_and, not_false_eq_true, Nat.reduceEqDiff, Nat.reduceLeDiff, Nat.reduceLT, implies_true, ite_true, ite_false]
    refine r_bad hP.1 (fun h' er fr => ?_)
    try simp (disch := omega) only [hs_at, hs_put, hs_63, NH_at, NH_put, NH_cpy, ni_add, ni_mul, ni_clamp, ni_in, ni_eq, ni_lt, ni_le, ni_sub, Nat.reduceAdd, Nat.reduceMul, Nat.reduceSub, eq_self, true_implies, not_true_eq_false, false_implies, and_true, true_and, not_false_eq_true, Nat.reduceEqDiff, Nat.reduceLeDiff, Nat.reduceLT, implies_true, ite_true, ite_false]
    exact ⟨Or.inl rfl, h0 _ _ rfl h' er (FRl.fr fr)⟩
end RALINE
