/-! ===== part 85: the reference reads sums ===== -/
def SF (f : Nat → Int32) : List (Nat × Nat) → Nat → Prop
  | [], _ => True
  | q :: r, k => f (2 * k) = nI q.1 ∧ f (2 * k + 1) = nI q.2 ∧ SF f r (k + 1) ∧ q.1 < 100 ∧ q.2 ≤ 9999
def PS (T : Nat → Nat) (n i : Nat) (st : List (Nat × Nat)) (o : Nat) (h : am_H) : Prop := RS T n i h ∧ h 63 12 = nI st.length ∧ SF (h 69) st 0 ∧ h 63 21 = nI o ∧ h 63 18 = nI 0
def FRr (h h' : am_H) : Prop := (∀ o, o ≠ 63 → o ≠ 69 → h' o = h o) ∧ ∀ k, k < 12 ∨ k = 13 ∨ k = 20 ∨ 21 < k → h' 63 k = h 63 k
def ER (T : Nat → Nat) (n e j : Nat) (h : am_H) : Prop := h 63 18 = nI e ∧ h 63 19 = nI (POS T n j) ∧ ∃ v, v ≤ 9999 ∧ h 63 17 = nI v
def TY (nd : Nat) (b : Bool) (st : List (Nat × Nat)) : Prop := ∀ S : List Bool, S.length + nd ≤ 22 → tyL st S = some (b :: S)
theorem FRr.refl (h : am_H) : FRr h h := ⟨fun _ _ _ => rfl, fun _ _ => rfl⟩
theorem FRr.trans {h h1 h2 : am_H} (a : FRr h h1) (b : FRr h1 h2) : FRr h h2 := ⟨fun o x y => (b.1 o x y).trans (a.1 o x y), fun k hk => (b.2 k hk).trans (a.2 k hk)⟩
theorem tyL_app : ∀ (a b : List (Nat × Nat)) (S : List Bool), tyL (a ++ b) S = (tyL a S).bind (tyL b)
  | [], b, S => rfl
  | q :: a, b, S => by
    rw [List.cons_append, tyL, tyL]
    cases ty1 q S with
    | none => rfl
    | some S' => exact tyL_app a b S'
theorem tkL_app : ∀ (a b : List (Nat × Nat)), tkL (a ++ b) = tkL a ++ tkL b
  | [], b => rfl
  | q :: a, b => by rw [List.cons_append, tkL, tkL, tkL_app a b, List.append_assoc]
theorem tkS_len (q : Nat × Nat) : 1 ≤ (tkS q).length := by
  unfold tkS
  split
  · simp
  · split
    · simp
    · split
      · simp
      · split
        · simp
        · split
          · simp
          · split
            · simp
            · split
              · simp
              · split
                · simp
                · split
                  · simp
                  · split
                    · simp
                    · split <;> simp
theorem tkL_len : ∀ (a : List (Nat × Nat)), a.length ≤ (tkL a).length
  | [] => Nat.le_refl _
  | q :: a => by
    have h1 := tkS_len q
    have h2 := tkL_len a
    rw [tkL]
    simp only [List.length_cons, List.length_append]
    omega
theorem SF_snoc {f : Nat → Int32} {q : Nat × Nat} (hb : q.1 < 100 ∧ q.2 ≤ 9999) : ∀ (st : List (Nat × Nat)) (k : Nat), SF f st k → f (2 * (k + st.length)) = nI q.1 → f (2 * (k + st.length) + 1) = nI q.2 → SF f (st ++ [q]) k
  | [], k, _, h1, h2 => ⟨h1, h2, trivial, hb⟩
  | x :: r, k, h, h1, h2 => by
    simp only [List.length_cons] at h1 h2
    refine ⟨h.1, h.2.1, SF_snoc hb r (k + 1) h.2.2.1 ?_ ?_, h.2.2.2⟩
    · rw [show k + 1 + r.length = k + (r.length + 1) by omega]; exact h1
    · rw [show k + 1 + r.length = k + (r.length + 1) by omega]; exact h2
theorem SF_cg {f f' : Nat → Int32} : ∀ (st : List (Nat × Nat)) (k : Nat), (∀ j, j < 2 * (k + st.length) → f' j = f j) → SF f st k → SF f' st k
  | [], _, _, _ => trivial
  | x :: r, k, hf, h => by
    simp only [List.length_cons] at hf
    refine ⟨by rw [hf _ (by omega)]; exact h.1, by rw [hf _ (by omega)]; exact h.2.1, SF_cg r (k + 1) (fun j hj => hf j (by omega)) h.2.2.1, h.2.2.2⟩
theorem tkS_f {k v : Nat} (h1 : 1 ≤ k) (h2 : k ≤ 8) : tkS (k, v) = [10005 + k] := by
  unfold tkS
  simp only
  rw [if_neg (by omega), if_pos (by omega)]
theorem ty1_f {k v : Nat} {S : List Bool} (h : k ≤ 8) (hv : v ≤ 9999) (hS : S.length < 22) : ty1 (k, v) S = some (false :: S) := by
  unfold ty1
  simp only
  rw [if_pos (by omega), if_pos ⟨h, hv, hS⟩]
def TKb (x : Nat) : Prop := x < 10014 ∨ (20000 ≤ x ∧ isS (x - 20000)) ∨ x = tBAD ∨ x = tEND
theorem rT_lt {x : Nat} (hx : TKb x) : rT x < 200 := by
  unfold TKb isS tBAD tEND at hx
  unfold rT tBAD tEND
  repeat' split
  all_goals omega
theorem rT_sg {x s : Nat} (hx : TKb x) (hs : 40 ≤ s) (hs2 : s ≤ 62) : rT x = 100 + s ↔ x = 20000 + s := by
  unfold TKb isS tBAD tEND at hx
  unfold rT tBAD tEND
  repeat' split
  all_goals omega
theorem rT_num {x : Nat} (hx : TKb x) : rT x = 2 ↔ x < 10000 := by
  unfold TKb isS tBAD tEND at hx
  unfold rT tBAD tEND
  repeat' split
  all_goals omega
theorem rT_nm {x : Nat} (hx : TKb x) : (41 ≤ rT x ∧ rT x ≤ 48) ↔ (10006 ≤ x ∧ x < 10014) := by
  unfold TKb isS tBAD tEND at hx
  unfold rT tBAD tEND
  repeat' split
  all_goals omega
theorem rT_fc {x : Nat} (h1 : 10006 ≤ x) (h2 : x < 10014) : rT x = x - 9965 := by
  unfold rT tBAD tEND
  repeat' split
  all_goals omega
theorem rT_w {x : Nat} (hx : TKb x) : (rT x = 3 ↔ x = 10002) ∧ (rT x = 4 ↔ x = 10003) ∧ (rT x = 5 ↔ x = 10004) ∧ (rT x = 6 ↔ x = 10005) ∧ (rT x = 0 ↔ x = tEND) := by
  unfold TKb isS tBAD tEND at hx
  unfold rT tBAD tEND
  repeat' split
  all_goals omega
theorem rT_ln {x : Nat} (hx : TKb x) : ((20 ≤ rT x ∧ rT x ≤ 21) ↔ (x = 10000 ∨ x = 10001)) ∧ ((x = 10000 ∨ x = 10001) → rT x - 20 = x - 10000) := by
  unfold TKb isS tBAD tEND at hx
  unfold rT tBAD tEND
  repeat' split
  all_goals omega
section RPARSE
variable {E : am_E} {d : Nat} {h : am_H} {Q : Int32 → am_H → Prop} {g : Nat → Nat} {T : Nat → Nat} {n cnt : Nat}
theorem TK_b (i : Nat) : TKb (TK T n i) := TK_kind
theorem RS.cg {i : Nat} {h' : am_H} (hR : RS T n i h) (f70 : h' 70 = h 70) (f63 : ∀ k, 13 ≤ k → k ≤ 17 → h' 63 k = h 63 k) : RS T n i h' := by
  obtain ⟨⟨a1, a2, a3, a4⟩, b1, b2, b3, v, b4, b5, b6⟩ := hR
  refine ⟨⟨by rw [f63 13 (by omega) (by omega)]; exact a1, a2, by rw [f70]; exact a3, a4⟩, by rw [f63 14 (by omega) (by omega)]; exact b1, by rw [f63 15 (by omega) (by omega)]; exact b2, by rw [f63 16 (by omega) (by omega)]; exact b3, v, b4, by rw [f63 17 (by omega) (by omega)]; exact b5, b6⟩
theorem r_bad {e i : Nat} (hR : RS T n i h) (hq : ∀ h' : am_H, ER T n e i h' → FRr h h' → Q (nI 0) (hs h' g)) : am_C tT E d mX12_bad [.inr 63, .inl (nI e)] (hs h g) Q := by
  obtain ⟨-, -, -, e16, v, hv, e17, -⟩ := hR
  refine am_C.of (by decide) (Nat.le_of_ble_eq_true rfl) ?_
  show am_R tT E _ mX12_bad _ 0 [some (.inr 63), some (.inl (nI e))] [] (hs h g)
  refine am_goS gX12_bad [] 400 ?_
  simp only [am_eqs, am_eqk, am_eqv, lX12_bad_0, fx_ref, ↓reduceIte, List.mem_cons, List.not_mem_nil, or_false, or_self, false_or, true_and, and_true, Nat.reduceEqDiff, reduceCtorEq, List.length_cons, List.length_nil, Nat.reduceAdd, Nat.reduceLeDiff, Nat.reduceSub, Nat.reduceLT, Nat.zero_le, Nat.zero_add, forall_const, not_true_eq_false, not_false_eq_true, false_implies, true_implies, implies_true, Nat.zero_lt_succ, am_z0, am_z1]
  have k16 : am_upd h 63 18 (nI e) 63 16 = nI (POS T n i) := by rw [am_upd_self]; simp only [upd]; exact e16
  try simp (disch := omega) only [hs_at, hs_put, hs_63, NH_at, NH_put, NH_cpy, ni_add, ni_mul, ni_clamp, ni_in, ni_eq, ni_lt, ni_le, ni_sub, Nat.reduceAdd, Nat.reduceMul, Nat.reduceSub, eq_self, true_implies, not_true_eq_false, false_implies, and_true, true_and, not_false_eq_true, Nat.reduceEqDiff, Nat.reduceLeDiff, Nat.reduceLT, implies_true, ite_true, ite_false, hs_up63, hs_63, k16]
  refine hq _ ⟨?_, ?_, v, hv, ?_⟩ ⟨fun o x y => ?_, fun k hk => ?_⟩
  · rw [am_upd_self, am_upd_self]; simp [upd]
  · rw [am_upd_self]; simp [upd]
  · rw [am_upd_self, am_upd_self]; simp only [upd, if_neg (show ¬ 17 = 19 by omega), if_neg (show ¬ 17 = 18 by omega)]; exact e17
  · rw [am_upd_ne _ _ _ x, am_upd_ne _ _ _ x]
  · rw [am_upd_self, am_upd_self]
    simp only [upd, if_neg (show ¬ k = 19 by omega), if_neg (show ¬ k = 18 by omega)]
theorem r_lay {i k v o : Nat} {st : List (Nat × Nat)} (hP : PS T n i st o h) (hl : st.length < 410) (hkv : k < 100 ∧ v ≤ 9999) (hq : ∀ h' : am_H, PS T n i (st ++ [(k, v)]) o h' → FRr h h' → Q 0 (hs h' g)) : am_C tT E d mX12_lay [.inr 63, .inl (nI k), .inl (nI v)] (hs h g) Q := by
  obtain ⟨hR, e12, hsf, e21, e18⟩ := hP
  refine am_C.of (by decide) (Nat.le_of_ble_eq_true rfl) ?_
  show am_R tT E _ mX12_lay _ 0 [some (.inr 63), some (.inl (nI k)), some (.inl (nI v))] [] (hs h g)
  refine am_goS gX12_lay [] 400 ?_
  simp only [am_eqs, am_eqk, am_eqv, lX12_lay_0, lX12_lay_1, fx_ref, ↓reduceIte, List.mem_cons, List.not_mem_nil, or_false, or_self, false_or, true_and, and_true, Nat.reduceEqDiff, reduceCtorEq, List.length_cons, List.length_nil, Nat.reduceAdd, Nat.reduceLeDiff, Nat.reduceSub, Nat.reduceLT, Nat.zero_le, Nat.zero_add, forall_const, not_true_eq_false, not_false_eq_true, false_implies, true_implies, implies_true, Nat.zero_lt_succ, am_z0, am_z1]
  try simp (disch := omega) only [hs_at, hs_put, hs_63, NH_at, NH_put, NH_cpy, ni_add, ni_mul, ni_clamp, ni_in, ni_eq, ni_lt, ni_le, ni_sub, Nat.reduceAdd, Nat.reduceMul, Nat.reduceSub, eq_self, true_implies, not_true_eq_false, false_implies, and_true, true_and, not_false_eq_true, Nat.reduceEqDiff, Nat.reduceLeDiff, Nat.reduceLT, implies_true, ite_true, ite_false, hs_63, e12, hs_upo, am_upd_ne, hs_up63]
  refine ⟨by omega, by omega, ?_⟩
  refine hq _ ⟨hR.cg ?_ (fun j x y => ?_), ?_, ?_, ?_, ?_⟩ ⟨fun o x y => ?_, fun j hj => ?_⟩
  · rw [am_upd_ne _ _ _ (by omega), am_upd_ne _ _ _ (by omega), am_upd_ne _ _ _ (by omega)]
  · rw [am_upd_self, am_upd_ne _ _ _ (by omega), am_upd_ne _ _ _ (by omega)]
    simp only [upd, if_neg (show ¬ j = 12 by omega)]
  · rw [am_upd_self]
    simp [upd]
  · rw [am_upd_ne _ _ _ (by omega), am_upd_self, am_upd_self]
    refine SF_snoc hkv st 0 (SF_cg st 0 (fun j hj => ?_) hsf) ?_ ?_
    · simp only [upd, if_neg (show ¬ j = 2 * st.length + 1 by omega), if_neg (show ¬ j = 2 * st.length by omega)]
    · rw [Nat.zero_add]
      simp [upd]
    · rw [Nat.zero_add]
      simp [upd]
  · rw [am_upd_self, am_upd_ne _ _ _ (by omega), am_upd_ne _ _ _ (by omega)]
    simp only [upd, if_neg (show ¬ 21 = 12 by omega)]
    exact e21
  · rw [am_upd_self, am_upd_ne _ _ _ (by omega), am_upd_ne _ _ _ (by omega)]
    simp only [upd, if_neg (show ¬ 18 = 12 by omega)]
    exact e18
  · rw [am_upd_ne _ _ _ x, am_upd_ne _ _ _ y, am_upd_ne _ _ _ y]
  · rw [am_upd_self, am_upd_ne _ _ _ (by omega), am_upd_ne _ _ _ (by omega)]
    simp only [upd, if_neg (show ¬ j = 12 by omega)]
theorem r_nextP {i o : Nat} {st : List (Nat × Nat)} (hP : PS T n i st o h) (hq : ∀ h' : am_H, PS T n (i + 1) st o h' → FRr h h' → Q 0 (hs h' g)) : am_C tT E (d + 7) mX12_next0 [.inr 63] (hs h g) Q := by
  obtain ⟨⟨hR, e14, e15, e16, v, hv, e17, -⟩, e12, hsf, e21, e18⟩ := hP
  have hb := POS_b (T := T) (n := n) i
  refine r_next0 (i := i + 1) hR e14 (enC_b hb.1).2 rfl e17 hv (fun h' r' f1 f2 => ?_)
  refine hq h' ⟨r', by rw [f2 12 (by omega)]; exact e12, by rw [f1 69 (by omega)]; exact hsf, by rw [f2 21 (by omega)]; exact e21, by rw [f2 18 (by omega)]; exact e18⟩ ⟨fun o x y => f1 o x, fun k hk => f2 k (by omega)⟩
theorem r_unit {i o : Nat} {st : List (Nat × Nat)} (hP : PS T n i st o h) (hl : st.length < 410)
    (h1 : isU (TK T n i) → ∀ (h' : am_H) (q : Nat × Nat), tkS q = [TK T n i] → TY 1 false [q] → PS T n (i + 1) (st ++ [q]) o h' → FRr h h' → Q (nI 1) (hs h' g)) (h0 : ¬ isU (TK T n i) → ∀ h' : am_H, ER T n 1 i h' → FRr h h' → Q (nI 0) (hs h' g)) :
    am_C tT E (d + 8) mX12_unit [.inr 63] (hs h g) Q := by
  have hP2 := hP
  obtain ⟨hRS, e12, hsf, e21⟩ := hP
  have hRS2 := hRS
  obtain ⟨hR, e14, e15, e16, v, hv, e17, hval⟩ := hRS
  have hb := TK_b (T := T) (n := n) i
  have hlt := rT_lt hb
  have hnum := rT_num hb
  have hnm := rT_nm hb
  generalize hx : TK T n i = x at *
  have go : ∀ q : Nat × Nat, (q.1 < 100 ∧ q.2 ≤ 9999) → tkS q = [x] → TY 1 false [q] → isU x → am_C tT E (d + 7) mX12_lay [.inr 63, .inl (nI q.1), .inl (nI q.2)] (hs h g) (fun _ h' => am_C tT E (d + 7) mX12_next0 [.inr 63] h' (fun _ h' => Q (nI 1) h')) := by
    intro q hqb hq1 hq2 hu
    refine r_lay hP2 hl hqb (fun h2 p2 f2 => ?_)
    refine r_nextP p2 (fun h3 p3 f3 => ?_)
    exact h1 hu h3 q hq1 hq2 p3 (f2.trans f3)
  refine am_C.of (by decide) (Nat.le_of_ble_eq_true rfl) ?_
  show am_R tT E _ mX12_unit _ 0 [some (.inr 63), none] [] (hs h g)
  refine am_goS gX12_unit [] 400 ?_
  simp only [am_eqs, am_eqk, am_eqv, lX12_unit_0, lX12_unit_1, fx_ref, ↓reduceIte, List.mem_cons, List.not_mem_nil, or_false, or_self, false_or, true_and, and_true, Nat.reduceEqDiff, reduceCtorEq, List.length_cons, List.length_nil, Nat.reduceAdd, Nat.reduceLeDiff, Nat.reduceSub, Nat.reduceLT, Nat.zero_le, Nat.zero_add, forall_const, not_true_eq_false, not_false_eq_true, false_implies, true_implies, implies_true, Nat.zero_lt_succ, am_z0, am_z1]
  try simp (disch := omega) only [hs_at, hs_put, hs_63, NH_at, NH_put, NH_cpy, ni_add, ni_mul, ni_clamp, ni_in, ni_eq, ni_lt, ni_le, ni_sub, Nat.reduceAdd, Nat.reduceMul, Nat.reduceSub, eq_self, true_implies, not_true_eq_false, false_implies, and_true, true_and, not_false_eq_true, Nat.reduceEqDiff, Nat.reduceLeDiff, Nat.reduceLT, implies_true, ite_true, ite_false, hs_63, e15]
  refine r_isIn (fun y => ?_) (fun y => ?_)
  · rw [ni_le (by omega) (by omega), ni_le (by omega) (by omega), hnm] at y
    have hfc := rT_fc y.1 y.2
    try simp (disch := omega) only [hs_at, hs_put, hs_63, NH_at, NH_put, NH_cpy, ni_add, ni_mul, ni_clamp, ni_in, ni_eq, ni_lt, ni_le, ni_sub, Nat.reduceAdd, Nat.reduceMul, Nat.reduceSub, eq_self, true_implies, not_true_eq_false, false_implies, and_true, true_and, not_false_eq_true, Nat.reduceEqDiff, Nat.reduceLeDiff, Nat.reduceLT, implies_true, ite_true, ite_false, hs_63, e15, e17]
    have hgo := go (x - 10005, v) ⟨show x - 10005 < 100 by omega, hv⟩ ((tkS_f (by omega) (by omega)).trans (congrArg (fun z => [z]) (by omega))) (fun S hS => by
      rw [tyL, ty1_f (by omega) hv (by omega)]
      rfl) (Or.inr y)
    refine ⟨fun z => absurd z (by omega), fun _ => ?_⟩
    rw [show rT x - 40 = x - 10005 by omega]
    exact hgo
  · rw [ni_le (by omega) (by omega), ni_le (by omega) (by omega), hnm] at y
    try simp (disch := omega) only [hs_at, hs_put, hs_63, NH_at, NH_put, NH_cpy, ni_add, ni_mul, ni_clamp, ni_in, ni_eq, ni_lt, ni_le, ni_sub, Nat.reduceAdd, Nat.reduceMul, Nat.reduceSub, eq_self, true_implies, not_true_eq_false, false_implies, and_true, true_and, not_false_eq_true, Nat.reduceEqDiff, Nat.reduceLeDiff, Nat.reduceLT, implies_true, ite_true, ite_false, hs_63, e15, e17]
    refine ⟨fun z => ?_, fun z => ?_⟩
    · have hxn := hnum.mp z
      have hv2 := hval hxn
      subst hv2
      exact go (0, v) ⟨show 0 < 100 by omega, hv⟩ rfl (fun S hS => by
        rw [tyL, ty1_f (by omega) hv (by omega)]
        rfl) (Or.inl hxn)
    · refine r_bad hRS2 (fun h' er fr => ?_)
      try simp (disch := omega) only [hs_at, hs_put, hs_63, NH_at, NH_put, NH_cpy, ni_add, ni_mul, ni_clamp, ni_in, ni_eq, ni_lt, ni_le, ni_sub, Nat.reduceAdd, Nat.reduceMul, Nat.reduceSub, eq_self, true_implies, not_true_eq_false, false_implies, and_true, true_and, not_false_eq_true, Nat.reduceEqDiff, Nat.reduceLeDiff, Nat.reduceLT, implies_true, ite_true, ite_false]
      refine ⟨Or.inl rfl, h0 (fun q => ?_) h' er fr⟩
      rcases q with q | q
      · exact z (hnum.mpr q)
      · exact y q
end RPARSE
