/-! ===== part 95: the class reads: steps of its parser ===== -/
def PSc (T : Nat → Nat) (n cnt i : Nat) (cs : List Nat) (c : Nat → Nat → Nat) : Prop := ARR T n cnt c ∧ c 46 7 = i ∧ c 46 8 = TK T n i ∧ c 47 1 = cs.length ∧ CS (c 48) cs 0 ∧ c 46 1 = 0 ∧ c 46 2 = 4294967295
def FC (c c' : Nat → Nat → Nat) : Prop := (∀ o, o ≠ 46 → o ≠ 47 → o ≠ 48 → c' o = c o) ∧ (∀ k, k ≠ 1 → k ≠ 2 → k ≠ 7 → k ≠ 8 → c' 46 k = c 46 k) ∧ ∀ k, k ≠ 1 → c' 47 k = c 47 k
def ERc (T : Nat → Nat) (n e j : Nat) (c : Nat → Nat → Nat) : Prop := c 46 1 = e ∧ c 46 2 = POS T n j ∧ c 47 1 ≤ 400
theorem FC.refl (c : Nat → Nat → Nat) : FC c c := ⟨fun _ _ _ _ => rfl, fun _ _ _ _ _ => rfl, fun _ _ => rfl⟩
theorem FC.trans {c c1 c2 : Nat → Nat → Nat} (a : FC c c1) (b : FC c1 c2) : FC c c2 := ⟨fun o x y z => (b.1 o x y z).trans (a.1 o x y z), fun k x y z w => (b.2.1 k x y z w).trans (a.2.1 k x y z w), fun k x => (b.2.2 k x).trans (a.2.2 k x)⟩
theorem TKb_lt {x : Nat} (hx : TKb x) : x < 4294967296 := by
  unfold TKb isS tBAD tEND at hx
  omega
theorem tk_ge {x a : Nat} (hx : TKb x) (ha : a < 100000) (ha0 : 0 < a) : (nI a ≤ nI x) ↔ (a ≤ x ∧ x < 100000) := by
  unfold TKb isS at hx
  by_cases z : x < 100000
  · rw [ni_le (by omega) (by omega)]; omega
  · have : x = tBAD ∨ x = tEND := by omega
    constructor
    · intro q
      have h0 : ¬ nI a ≤ nI x := by
        intro q
        rcases this with rfl | rfl
        · have h1 : nI tBAD < nI 0 := by decide
          exact absurd (Int32.lt_of_le_of_lt q h1) (nI_pos (show a < 2147483648 by omega))
        · have h1 : nI tEND < nI 0 := by decide
          exact absurd (Int32.lt_of_le_of_lt q h1) (nI_pos (show a < 2147483648 by omega))
      exact absurd q h0
    · intro q; omega
section CPARSE
variable {E : am_E} {d : Nat} {h : am_H} {Q : Int32 → am_H → Prop} {c : Nat → Nat → Nat} {T : Nat → Nat} {n cnt : Nat}
theorem ARR.cg {c' : Nat → Nat → Nat} (hR : ARR T n cnt c) (h51 : c' 51 = c 51) (h52 : c' 52 = c 52) : ARR T n cnt c' := ⟨hR.1, hR.2.1, hR.2.2.1, by rw [h51, h52]; exact hR.2.2.2⟩
theorem c_within9 {x : Nat} (hx : TKb x) (h1 : x < 10000 → Q (nI 1) h) (h0 : ¬ x < 10000 → Q (nI 0) h) : am_C tT E d mX11_within [.inl (nI x), .inl (nI 0), .inl (nI 9999)] h Q := by
  refine c_within (fun y => h1 ?_) (fun y => h0 (fun z => y ?_))
  · obtain ⟨e, hl⟩ := ni_ofInt y.1
    have hlt := TKb_lt hx
    rw [e, ni_le (by omega) (by omega), ni_le (by omega) (by omega)] at y
    rw [ni_eq hlt (by omega)] at e
    omega
  · rw [ni_le (by omega) (by omega), ni_le (by omega) (by omega)]
    omega
theorem c_isFactT {x : Nat} (hx : TKb x) (h1 : 10006 ≤ x ∧ x < 10014 → Q (nI 1) h) (h0 : ¬ (10006 ≤ x ∧ x < 10014) → Q (nI 0) h) : am_C tT E (d + 1) mX11_isFact [.inl (nI x)] h Q := by
  by_cases z : x < 2147483648
  · exact c_isFact z h1 h0
  · have hx2 := hx
    unfold TKb isS at hx2
    have hneg : nI x < nI 10006 := by
      have : x = tBAD ∨ x = tEND := by omega
      rcases this with rfl | rfl <;> decide
    refine am_C.of (by decide) (Nat.le_of_ble_eq_true rfl) ?_
    show am_R tT E _ mX11_isFact _ 0 [some (.inl (nI x))] [] h
    refine am_goS gX11_isFact [] 400 ?_
    simp only [am_eqs, am_eqk, am_eqv, lX11_isFact_0, fx_class, NH_at, NH_put, ↓reduceIte, List.mem_cons, List.not_mem_nil, or_false, or_self, false_or, true_and, and_true, Nat.reduceEqDiff, reduceCtorEq, List.length_cons, List.length_nil, Nat.reduceAdd, Nat.reduceLeDiff, Nat.reduceSub, Nat.reduceLT, Nat.zero_le, Nat.zero_add, forall_const, not_true_eq_false, not_false_eq_true, false_implies, true_implies, implies_true, Nat.zero_lt_succ, am_z0, am_z1]
    exact ⟨fun _ => h0 (by omega), fun q => absurd hneg q⟩
theorem c_next {i : Nat} {cs : List Nat} (hP : PSc T n cnt i cs c) (hi : i < cnt) (hne : TK T n i ≠ tEND) (hq : ∀ c', PSc T n cnt (i + 1) cs c' → FC c c' → Q 0 (NH c')) : am_C tT E d mX4_next [.inr 46] (NH c) Q := by
  obtain ⟨hA, e7, e8, e1, hcs, g1, g2⟩ := hP
  have hb := TKb_lt (TK_kind (T := T) (n := n) (i := i))
  have hcn := hA.2.1
  have hn := hA.2.2.1
  have h51 := (hA.2.2.2 (i + 1) (by omega)).1
  refine am_C.of (by decide) (Nat.le_of_ble_eq_true rfl) ?_
  show am_R tT E _ mX4_next _ 0 [some (.inr 46)] [] (NH c)
  refine am_goS gX4_next [] 400 ?_
  simp only [am_eqs, am_eqk, am_eqv, lX4_next_0, fx_class, NH_at, NH_put, ↓reduceIte, List.mem_cons, List.not_mem_nil, or_false, or_self, false_or, true_and, and_true, Nat.reduceEqDiff, reduceCtorEq, List.length_cons, List.length_nil, Nat.reduceAdd, Nat.reduceLeDiff, Nat.reduceSub, Nat.reduceLT, Nat.zero_le, Nat.zero_add, forall_const, not_true_eq_false, not_false_eq_true, false_implies, true_implies, implies_true, Nat.zero_lt_succ, am_z0, am_z1]
  have k7 : cup c 46 7 (i + 1) 46 7 = i + 1 := by rw [cup_self, nup_self]
  have k51 : cup c 46 7 (i + 1) 51 (i + 1) = TK T n (i + 1) := by rw [cup_ne _ _ _ (by omega)]; exact h51
  unfold tEND at hne
  try simp (disch := omega) only [hs_at, hs_put, hs_63, NH_at, NH_put, NH_cpy, ni_add, ni_mul, ni_clamp, ni_in, ni_eq, ni_lt, ni_le, ni_sub, Nat.reduceAdd, Nat.reduceMul, Nat.reduceSub, eq_self, true_implies, not_true_eq_false, false_implies, and_true, true_and, not_false_eq_true, Nat.reduceEqDiff, Nat.reduceLeDiff, Nat.reduceLT, implies_true, ite_true, ite_false, e7, e8, ni_m1, k7, k51]
  refine ⟨fun z => absurd z hne, fun _ => ⟨fun z => absurd z (by omega), fun _ => ⟨by omega, ?_⟩⟩⟩
  refine hq _ ⟨hA.cg ?_ ?_, ?_, ?_, ?_, ?_, ?_, ?_⟩ ⟨fun o x y z => ?_, fun k x y z w => ?_, fun k x => ?_⟩
  · rw [cup_ne _ _ _ (by omega), cup_ne _ _ _ (by omega)]
  · rw [cup_ne _ _ _ (by omega), cup_ne _ _ _ (by omega)]
  · simp [cup_app]
  · simp [cup_app]
  · rw [cup_ne _ _ _ (by omega), cup_ne _ _ _ (by omega)]; exact e1
  · rw [cup_ne _ _ _ (by omega), cup_ne _ _ _ (by omega)]; exact hcs
  · simp [cup_app]; exact g1
  · simp [cup_app]; exact g2
  · rw [cup_ne _ _ _ x, cup_ne _ _ _ x]
  · rw [cup_app, if_pos rfl, if_neg w, cup_app, if_pos rfl, if_neg z]
  · rw [cup_ne _ _ _ (by omega), cup_ne _ _ _ (by omega)]
theorem c_emit {x : Nat} {cs : List Nat} (h1 : c 47 1 = cs.length) (hl : cs.length < 400) (hcs : CS (c 48) cs 0) (hq : ∀ c', c' 47 1 = cs.length + 1 → CS (c' 48) (cs ++ [x]) 0 → (∀ o, o ≠ 47 → o ≠ 48 → c' o = c o) → (∀ k, k ≠ 1 → c' 47 k = c 47 k) → Q 0 (NH c')) : am_C tT E d mX3_emit [.inr 47, .inl (nI x)] (NH c) Q := by
  refine am_C.of (by decide) (Nat.le_of_ble_eq_true rfl) ?_
  show am_R tT E _ mX3_emit _ 0 [some (.inr 47), some (.inl (nI x))] [] (NH c)
  refine am_goS gX3_emit [] 400 ?_
  simp only [am_eqs, am_eqk, am_eqv, lX3_emit_0, fx_class, NH_at, NH_put, ↓reduceIte, List.mem_cons, List.not_mem_nil, or_false, or_self, false_or, true_and, and_true, Nat.reduceEqDiff, reduceCtorEq, List.length_cons, List.length_nil, Nat.reduceAdd, Nat.reduceLeDiff, Nat.reduceSub, Nat.reduceLT, Nat.zero_le, Nat.zero_add, forall_const, not_true_eq_false, not_false_eq_true, false_implies, true_implies, implies_true, Nat.zero_lt_succ, am_z0, am_z1]
  have k1 : cup c 48 cs.length x 47 1 = cs.length := by rw [cup_ne _ _ _ (by omega)]; exact h1
  try simp (disch := omega) only [hs_at, hs_put, hs_63, NH_at, NH_put, NH_cpy, ni_add, ni_mul, ni_clamp, ni_in, ni_eq, ni_lt, ni_le, ni_sub, Nat.reduceAdd, Nat.reduceMul, Nat.reduceSub, eq_self, true_implies, not_true_eq_false, false_implies, and_true, true_and, not_false_eq_true, Nat.reduceEqDiff, Nat.reduceLeDiff, Nat.reduceLT, implies_true, ite_true, ite_false, h1, k1]
  refine ⟨fun z => absurd z (by omega), fun _ => ⟨by omega, ?_⟩⟩
  refine hq _ ?_ ?_ (fun o x y => ?_) (fun k x => ?_)
  · simp [cup_app]
  · rw [cup_ne _ _ _ (by omega), cup_self]
    exact CS_snoc cs 0 (CS_upd cs 0 (by omega) hcs) (by rw [Nat.zero_add, nup_self])
  · rw [cup_ne _ _ _ x, cup_ne _ _ _ y]
  · rw [cup_self, nup_ne _ _ x, cup_ne _ _ _ (by omega)]
theorem c_emitP {i x : Nat} {cs : List Nat} (hP : PSc T n cnt i cs c) (hl : cs.length < 400) (hq : ∀ c', PSc T n cnt i (cs ++ [x]) c' → FC c c' → Q 0 (NH c')) : am_C tT E d mX3_emit [.inr 47, .inl (nI x)] (NH c) Q := by
  obtain ⟨hA, e7, e8, e1, hcs, g1, g2⟩ := hP
  refine c_emit e1 hl hcs (fun c' a1 a2 a3 a4 => ?_)
  have e46 : c' 46 = c 46 := a3 46 (by omega) (by omega)
  exact hq c' ⟨hA.cg (a3 51 (by omega) (by omega)) (a3 52 (by omega) (by omega)), by rw [e46]; exact e7, by rw [e46]; exact e8, by rw [a1]; simp, a2, by rw [e46]; exact g1, by rw [e46]; exact g2⟩ ⟨fun o _ y z => a3 o y z, fun k _ _ _ _ => by rw [e46], a4⟩
/-- where it was refused already -/
theorem c_emitE {x e j : Nat} (her : ERc T n e j c) (hq : ∀ c', ERc T n e j c' → FC c c' → Q 0 (NH c')) : am_C tT E d mX3_emit [.inr 47, .inl (nI x)] (NH c) Q := by
  obtain ⟨r1, r2, r3⟩ := her
  by_cases z : c 47 1 < 400
  · refine am_C.of (by decide) (Nat.le_of_ble_eq_true rfl) ?_
    show am_R tT E _ mX3_emit _ 0 [some (.inr 47), some (.inl (nI x))] [] (NH c)
    refine am_goS gX3_emit [] 400 ?_
    simp only [am_eqs, am_eqk, am_eqv, lX3_emit_0, fx_class, NH_at, NH_put, ↓reduceIte, List.mem_cons, List.not_mem_nil, or_false, or_self, false_or, true_and, and_true, Nat.reduceEqDiff, reduceCtorEq, List.length_cons, List.length_nil, Nat.reduceAdd, Nat.reduceLeDiff, Nat.reduceSub, Nat.reduceLT, Nat.zero_le, Nat.zero_add, forall_const, not_true_eq_false, not_false_eq_true, false_implies, true_implies, implies_true, Nat.zero_lt_succ, am_z0, am_z1]
    have k1 : ∀ m v, cup c 48 m v 47 1 = c 47 1 := fun m v => by rw [cup_ne _ _ _ (by omega)]
    try simp (disch := omega) only [hs_at, hs_put, hs_63, NH_at, NH_put, NH_cpy, ni_add, ni_mul, ni_clamp, ni_in, ni_eq, ni_lt, ni_le, ni_sub, Nat.reduceAdd, Nat.reduceMul, Nat.reduceSub, eq_self, true_implies, not_true_eq_false, false_implies, and_true, true_and, not_false_eq_true, Nat.reduceEqDiff, Nat.reduceLeDiff, Nat.reduceLT, implies_true, ite_true, ite_false, k1]
    refine ⟨fun y => absurd y (by omega), fun _ => ⟨by omega, ?_⟩⟩
    refine hq _ ⟨?_, ?_, ?_⟩ ⟨fun o x y w => ?_, fun k _ _ _ _ => ?_, fun k x => ?_⟩
    · rw [cup_ne _ _ _ (by omega), cup_ne _ _ _ (by omega)]; exact r1
    · rw [cup_ne _ _ _ (by omega), cup_ne _ _ _ (by omega)]; exact r2
    · rw [cup_self, nup_self]; omega
    · rw [cup_ne _ _ _ y, cup_ne _ _ _ w]
    · rw [cup_ne _ _ _ (by omega), cup_ne _ _ _ (by omega)]
    · rw [cup_self, nup_ne _ _ x, cup_ne _ _ _ (by omega)]
  · refine am_C.of (by decide) (Nat.le_of_ble_eq_true rfl) ?_
    show am_R tT E _ mX3_emit _ 0 [some (.inr 47), some (.inl (nI x))] [] (NH c)
    refine am_goS gX3_emit [] 400 ?_
    simp only [am_eqs, am_eqk, am_eqv, lX3_emit_0, fx_class, NH_at, NH_put, ↓reduceIte, List.mem_cons, List.not_mem_nil, or_false, or_self, false_or, true_and, and_true, Nat.reduceEqDiff, reduceCtorEq, List.length_cons, List.length_nil, Nat.reduceAdd, Nat.reduceLeDiff, Nat.reduceSub, Nat.reduceLT, Nat.zero_le, Nat.zero_add, forall_const, not_true_eq_false, not_false_eq_true, false_implies, true_implies, implies_true, Nat.zero_lt_succ, am_z0, am_z1]
    try simp (disch := omega) only [hs_at, hs_put, hs_63, NH_at, NH_put, NH_cpy, ni_add, ni_mul, ni_clamp, ni_in, ni_eq, ni_lt, ni_le, ni_sub, Nat.reduceAdd, Nat.reduceMul, Nat.reduceSub, eq_self, true_implies, not_true_eq_false, false_implies, and_true, true_and, not_false_eq_true, Nat.reduceEqDiff, Nat.reduceLeDiff, Nat.reduceLT, implies_true, ite_true, ite_false]
    exact ⟨fun _ => hq c ⟨r1, r2, r3⟩ (FC.refl c), fun y => absurd (by omega) y⟩
theorem c_refuse {e i : Nat} {cs : List Nat} (hP : PSc T n cnt i cs c) (hi : i ≤ cnt) (hl : cs.length ≤ 400) (hq : ∀ c', ERc T n e i c' → FC c c' → Q (nI 0) (NH c')) : am_C tT E d mX4_refuse [.inr 46, .inl (nI e)] (NH c) Q := by
  obtain ⟨hA, e7, e8, e1, hcs, g1, g2⟩ := hP
  have hcn := hA.2.1
  have hn := hA.2.2.1
  have h52 := (hA.2.2.2 i hi).2
  refine am_C.of (by decide) (Nat.le_of_ble_eq_true rfl) ?_
  show am_R tT E _ mX4_refuse _ 0 [some (.inr 46), some (.inl (nI e))] [] (NH c)
  refine am_goS gX4_refuse [] 400 ?_
  simp only [am_eqs, am_eqk, am_eqv, lX4_refuse_0, fx_class, NH_at, NH_put, ↓reduceIte, List.mem_cons, List.not_mem_nil, or_false, or_self, false_or, true_and, and_true, Nat.reduceEqDiff, reduceCtorEq, List.length_cons, List.length_nil, Nat.reduceAdd, Nat.reduceLeDiff, Nat.reduceSub, Nat.reduceLT, Nat.zero_le, Nat.zero_add, forall_const, not_true_eq_false, not_false_eq_true, false_implies, true_implies, implies_true, Nat.zero_lt_succ, am_z0, am_z1]
  have k7 : cup c 46 1 e 46 7 = i := by rw [cup_self, nup_ne _ _ (by omega)]; exact e7
  have k52 : cup c 46 1 e 52 i = POS T n i := by rw [cup_ne _ _ _ (by omega)]; exact h52
  try simp (disch := omega) only [hs_at, hs_put, hs_63, NH_at, NH_put, NH_cpy, ni_add, ni_mul, ni_clamp, ni_in, ni_eq, ni_lt, ni_le, ni_sub, Nat.reduceAdd, Nat.reduceMul, Nat.reduceSub, eq_self, true_implies, not_true_eq_false, false_implies, and_true, true_and, not_false_eq_true, Nat.reduceEqDiff, Nat.reduceLeDiff, Nat.reduceLT, implies_true, ite_true, ite_false, k7, k52]
  refine ⟨by omega, hq _ ⟨?_, ?_, ?_⟩ ⟨fun o x y z => ?_, fun k x y z w => ?_, fun k x => ?_⟩⟩
  · simp [cup_app]
  · simp [cup_app]
  · rw [cup_ne _ _ _ (by omega), cup_ne _ _ _ (by omega), e1]; exact hl
  · rw [cup_ne _ _ _ x, cup_ne _ _ _ x]
  · rw [cup_app, if_pos rfl, if_neg y, cup_app, if_pos rfl, if_neg x]
  · rw [cup_ne _ _ _ (by omega), cup_ne _ _ _ (by omega)]
end CPARSE
