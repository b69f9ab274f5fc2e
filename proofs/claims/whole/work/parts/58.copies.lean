/-! ===== part 58: copies of a world ===== -/
section CCPY
variable {E : am_E} {d : Nat} {h : am_H} {Q : Int32 → am_H → Prop} {g g0 : Nat → Nat} {c : Nat → Nat → Nat} {t : Nat}
theorem c_cpLawO (hq : ∀ c', (∀ o, o ≠ 43 → o ≠ 44 → c' o = c o) → (∀ j, j < 2 → c' 43 j = c 17 j) → (∀ j, j < 400 → c' 44 j = c 18 j) → Q 0 (NH c')) : am_C tT E (d + 1) mX3_copyFrom [.inr 43, .inr 17] (NH c) Q := by
  refine am_C.of (by decide) (Nat.le_of_ble_eq_true rfl) ?_
  show am_R tT E _ mX3_copyFrom _ 0 [some (.inr 43), some (.inr 17)] [] (NH c)
  refine am_goS gX3_copyFrom [] 400 ?_
  simp only [am_eqs, am_eqk, am_eqv, lX3_copyFrom_0, fx_class, NH_at, NH_put, ↓reduceIte, List.mem_cons, List.not_mem_nil, or_false, or_self, false_or, true_and, and_true, Nat.reduceEqDiff, reduceCtorEq, List.length_cons, List.length_nil, Nat.reduceAdd, Nat.reduceLeDiff, Nat.reduceSub, Nat.reduceLT, Nat.zero_le, Nat.zero_add, forall_const, not_true_eq_false, not_false_eq_true, false_implies, true_implies, implies_true, Nat.zero_lt_succ, am_z0, am_z1]
  simp (disch := omega) only [hs_at, hs_put, hs_63, NH_at, NH_put, NH_cpy, ni_add, ni_mul, ni_clamp, ni_in, ni_eq, ni_lt, ni_le, ni_sub, Nat.reduceAdd, Nat.reduceMul, Nat.reduceSub, eq_self, true_implies, not_true_eq_false, false_implies, and_true, true_and, not_false_eq_true, Nat.reduceEqDiff, Nat.reduceLeDiff, Nat.reduceLT, implies_true, ite_true, ite_false, nup_self, nup_ne, cup_self, cup_ne]
  refine ⟨by first | decide | omega, by first | decide | omega, by first | decide | omega, ?_⟩
  refine hq _ (fun o x y => ?_) (fun j hj => ?_) (fun j hj => ?_)
  · funext j; grind [cup_app, ccp_app]
  · have : j = 0 ∨ j = 1 := by omega
    rcases this with rfl | rfl <;> grind [cup_app, ccp_app]
  · grind [cup_app, ccp_app]
theorem c_cpLawN (hq : ∀ c', (∀ o, o ≠ 17 → o ≠ 18 → c' o = c o) → (∀ j, j < 2 → c' 17 j = c 43 j) → (∀ j, j < 400 → c' 18 j = c 44 j) → Q 0 (NH c')) : am_C tT E (d + 1) mX3_copyFrom [.inr 17, .inr 43] (NH c) Q := by
  refine am_C.of (by decide) (Nat.le_of_ble_eq_true rfl) ?_
  show am_R tT E _ mX3_copyFrom _ 0 [some (.inr 17), some (.inr 43)] [] (NH c)
  refine am_goS gX3_copyFrom [] 400 ?_
  simp only [am_eqs, am_eqk, am_eqv, lX3_copyFrom_0, fx_class, NH_at, NH_put, ↓reduceIte, List.mem_cons, List.not_mem_nil, or_false, or_self, false_or, true_and, and_true, Nat.reduceEqDiff, reduceCtorEq, List.length_cons, List.length_nil, Nat.reduceAdd, Nat.reduceLeDiff, Nat.reduceSub, Nat.reduceLT, Nat.zero_le, Nat.zero_add, forall_const, not_true_eq_false, not_false_eq_true, false_implies, true_implies, implies_true, Nat.zero_lt_succ, am_z0, am_z1]
  simp (disch := omega) only [hs_at, hs_put, hs_63, NH_at, NH_put, NH_cpy, ni_add, ni_mul, ni_clamp, ni_in, ni_eq, ni_lt, ni_le, ni_sub, Nat.reduceAdd, Nat.reduceMul, Nat.reduceSub, eq_self, true_implies, not_true_eq_false, false_implies, and_true, true_and, not_false_eq_true, Nat.reduceEqDiff, Nat.reduceLeDiff, Nat.reduceLT, implies_true, ite_true, ite_false, nup_self, nup_ne, cup_self, cup_ne]
  refine ⟨by first | decide | omega, by first | decide | omega, by first | decide | omega, ?_⟩
  refine hq _ (fun o x y => ?_) (fun j hj => ?_) (fun j hj => ?_)
  · funext j; grind [cup_app, ccp_app]
  · have : j = 0 ∨ j = 1 := by omega
    rcases this with rfl | rfl <;> grind [cup_app, ccp_app]
  · grind [cup_app, ccp_app]
theorem c_cpLawT (hq : ∀ c', (∀ o, o ≠ 17 → o ≠ 18 → c' o = c o) → (∀ j, j < 2 → c' 17 j = c 47 j) → (∀ j, j < 400 → c' 18 j = c 48 j) → Q 0 (NH c')) : am_C tT E (d + 1) mX3_copyFrom [.inr 17, .inr 47] (NH c) Q := by
  refine am_C.of (by decide) (Nat.le_of_ble_eq_true rfl) ?_
  show am_R tT E _ mX3_copyFrom _ 0 [some (.inr 17), some (.inr 47)] [] (NH c)
  refine am_goS gX3_copyFrom [] 400 ?_
  simp only [am_eqs, am_eqk, am_eqv, lX3_copyFrom_0, fx_class, NH_at, NH_put, ↓reduceIte, List.mem_cons, List.not_mem_nil, or_false, or_self, false_or, true_and, and_true, Nat.reduceEqDiff, reduceCtorEq, List.length_cons, List.length_nil, Nat.reduceAdd, Nat.reduceLeDiff, Nat.reduceSub, Nat.reduceLT, Nat.zero_le, Nat.zero_add, forall_const, not_true_eq_false, not_false_eq_true, false_implies, true_implies, implies_true, Nat.zero_lt_succ, am_z0, am_z1]
  simp (disch := omega) only [hs_at, hs_put, hs_63, NH_at, NH_put, NH_cpy, ni_add, ni_mul, ni_clamp, ni_in, ni_eq, ni_lt, ni_le, ni_sub, Nat.reduceAdd, Nat.reduceMul, Nat.reduceSub, eq_self, true_implies, not_true_eq_false, false_implies, and_true, true_and, not_false_eq_true, Nat.reduceEqDiff, Nat.reduceLeDiff, Nat.reduceLT, implies_true, ite_true, ite_false, nup_self, nup_ne, cup_self, cup_ne]
  refine ⟨by first | decide | omega, by first | decide | omega, by first | decide | omega, ?_⟩
  refine hq _ (fun o x y => ?_) (fun j hj => ?_) (fun j hj => ?_)
  · funext j; grind [cup_app, ccp_app]
  · have : j = 0 ∨ j = 1 := by omega
    rcases this with rfl | rfl <;> grind [cup_app, ccp_app]
  · grind [cup_app, ccp_app]
theorem c_cpBriO (hq : ∀ c', (∀ o, o ≠ 40 → o ≠ 41 → o ≠ 42 → c' o = c o) → c' 40 0 = c 14 0 → (∀ j, j < 24 → c' 41 j = c 15 j) → (∀ j, j < 240 → c' 42 j = c 16 j) → Q 0 (NH c')) : am_C tT E (d + 1) mX2_copyFrom [.inr 40, .inr 14] (NH c) Q := by
  refine am_C.of (by decide) (Nat.le_of_ble_eq_true rfl) ?_
  show am_R tT E _ mX2_copyFrom _ 0 [some (.inr 40), some (.inr 14)] [] (NH c)
  refine am_goS gX2_copyFrom [] 400 ?_
  simp only [am_eqs, am_eqk, am_eqv, lX2_copyFrom_0, fx_class, NH_at, NH_put, ↓reduceIte, List.mem_cons, List.not_mem_nil, or_false, or_self, false_or, true_and, and_true, Nat.reduceEqDiff, reduceCtorEq, List.length_cons, List.length_nil, Nat.reduceAdd, Nat.reduceLeDiff, Nat.reduceSub, Nat.reduceLT, Nat.zero_le, Nat.zero_add, forall_const, not_true_eq_false, not_false_eq_true, false_implies, true_implies, implies_true, Nat.zero_lt_succ, am_z0, am_z1]
  simp (disch := omega) only [hs_at, hs_put, hs_63, NH_at, NH_put, NH_cpy, ni_add, ni_mul, ni_clamp, ni_in, ni_eq, ni_lt, ni_le, ni_sub, Nat.reduceAdd, Nat.reduceMul, Nat.reduceSub, eq_self, true_implies, not_true_eq_false, false_implies, and_true, true_and, not_false_eq_true, Nat.reduceEqDiff, Nat.reduceLeDiff, Nat.reduceLT, implies_true, ite_true, ite_false, nup_self, nup_ne, cup_self, cup_ne]
  refine ⟨by first | decide | omega, by first | decide | omega, by first | decide | omega, by first | decide | omega, by first | decide | omega, by first | decide | omega, ?_⟩
  refine hq _ (fun o x y z => ?_) ?_ (fun j hj => ?_) (fun j hj => ?_)
  · funext j; grind [cup_app, ccp_app]
  · grind [cup_app, ccp_app]
  · grind [cup_app, ccp_app]
  · grind [cup_app, ccp_app]
theorem c_cpBriN (hq : ∀ c', (∀ o, o ≠ 14 → o ≠ 15 → o ≠ 16 → c' o = c o) → c' 14 0 = c 40 0 → (∀ j, j < 24 → c' 15 j = c 41 j) → (∀ j, j < 240 → c' 16 j = c 42 j) → Q 0 (NH c')) : am_C tT E (d + 1) mX2_copyFrom [.inr 14, .inr 40] (NH c) Q := by
  refine am_C.of (by decide) (Nat.le_of_ble_eq_true rfl) ?_
  show am_R tT E _ mX2_copyFrom _ 0 [some (.inr 14), some (.inr 40)] [] (NH c)
  refine am_goS gX2_copyFrom [] 400 ?_
  simp only [am_eqs, am_eqk, am_eqv, lX2_copyFrom_0, fx_class, NH_at, NH_put, ↓reduceIte, List.mem_cons, List.not_mem_nil, or_false, or_self, false_or, true_and, and_true, Nat.reduceEqDiff, reduceCtorEq, List.length_cons, List.length_nil, Nat.reduceAdd, Nat.reduceLeDiff, Nat.reduceSub, Nat.reduceLT, Nat.zero_le, Nat.zero_add, forall_const, not_true_eq_false, not_false_eq_true, false_implies, true_implies, implies_true, Nat.zero_lt_succ, am_z0, am_z1]
  simp (disch := omega) only [hs_at, hs_put, hs_63, NH_at, NH_put, NH_cpy, ni_add, ni_mul, ni_clamp, ni_in, ni_eq, ni_lt, ni_le, ni_sub, Nat.reduceAdd, Nat.reduceMul, Nat.reduceSub, eq_self, true_implies, not_true_eq_false, false_implies, and_true, true_and, not_false_eq_true, Nat.reduceEqDiff, Nat.reduceLeDiff, Nat.reduceLT, implies_true, ite_true, ite_false, nup_self, nup_ne, cup_self, cup_ne]
  refine ⟨by first | decide | omega, by first | decide | omega, by first | decide | omega, by first | decide | omega, by first | decide | omega, by first | decide | omega, ?_⟩
  refine hq _ (fun o x y z => ?_) ?_ (fun j hj => ?_) (fun j hj => ?_)
  · funext j; grind [cup_app, ccp_app]
  · grind [cup_app, ccp_app]
  · grind [cup_app, ccp_app]
  · grind [cup_app, ccp_app]
theorem c_cpPeoO (hq : ∀ c', (∀ o, o < 32 ∨ 39 < o → c' o = c o) → c' 32 0 = c 6 0 → (∀ i j, 1 ≤ i → i ≤ 6 → j < 8 → c' (32 + i) j = c (6 + i) j) → (∀ j, j < 72 → c' 39 j = c 13 j) → Q 0 (NH c')) : am_C tT E (d + 1) mX5_copyFrom [.inr 32, .inr 6] (NH c) Q := by
  refine am_C.of (by decide) (Nat.le_of_ble_eq_true rfl) ?_
  show am_R tT E _ mX5_copyFrom _ 0 [some (.inr 32), some (.inr 6)] [] (NH c)
  refine am_goS gX5_copyFrom [] 400 ?_
  simp only [am_eqs, am_eqk, am_eqv, lX5_copyFrom_0, lX5_copyFrom_1, lX5_copyFrom_2, fx_class, NH_at, NH_put, ↓reduceIte, List.mem_cons, List.not_mem_nil, or_false, or_self, false_or, true_and, and_true, Nat.reduceEqDiff, reduceCtorEq, List.length_cons, List.length_nil, Nat.reduceAdd, Nat.reduceLeDiff, Nat.reduceSub, Nat.reduceLT, Nat.zero_le, Nat.zero_add, forall_const, not_true_eq_false, not_false_eq_true, false_implies, true_implies, implies_true, Nat.zero_lt_succ, am_z0, am_z1]
  simp (disch := omega) only [hs_at, hs_put, hs_63, NH_at, NH_put, NH_cpy, ni_add, ni_mul, ni_clamp, ni_in, ni_eq, ni_lt, ni_le, ni_sub, Nat.reduceAdd, Nat.reduceMul, Nat.reduceSub, eq_self, true_implies, not_true_eq_false, false_implies, and_true, true_and, not_false_eq_true, Nat.reduceEqDiff, Nat.reduceLeDiff, Nat.reduceLT, implies_true, ite_true, ite_false, nup_self, nup_ne, cup_self, cup_ne]
  refine ⟨by first | decide | omega, by first | decide | omega, by first | decide | omega, by first | decide | omega, by first | decide | omega, by first | decide | omega, by first | decide | omega, by first | decide | omega, by first | decide | omega, by first | decide | omega, by first | decide | omega, by first | decide | omega, by first | decide | omega, by first | decide | omega, by first | decide | omega, by first | decide | omega, by first | decide | omega, by first | decide | omega, by first | decide | omega, by first | decide | omega, by first | decide | omega, ?_⟩
  refine hq _ (fun o x => ?_) ?_ (fun i j x y hj => ?_) (fun j hj => ?_)
  · funext j; grind [cup_app, ccp_app]
  · grind [cup_app, ccp_app]
  · have : i = 1 ∨ i = 2 ∨ i = 3 ∨ i = 4 ∨ i = 5 ∨ i = 6 := by omega
    rcases this with rfl | rfl | rfl | rfl | rfl | rfl <;> grind [cup_app, ccp_app]
  · grind [cup_app, ccp_app]
theorem c_cpPeoN (hq : ∀ c', (∀ o, o < 6 ∨ 13 < o → c' o = c o) → c' 6 0 = c 32 0 → (∀ i j, 1 ≤ i → i ≤ 6 → j < 8 → c' (6 + i) j = c (32 + i) j) → (∀ j, j < 72 → c' 13 j = c 39 j) → Q 0 (NH c')) : am_C tT E (d + 1) mX5_copyFrom [.inr 6, .inr 32] (NH c) Q := by
  refine am_C.of (by decide) (Nat.le_of_ble_eq_true rfl) ?_
  show am_R tT E _ mX5_copyFrom _ 0 [some (.inr 6), some (.inr 32)] [] (NH c)
  refine am_goS gX5_copyFrom [] 400 ?_
  simp only [am_eqs, am_eqk, am_eqv, lX5_copyFrom_0, lX5_copyFrom_1, lX5_copyFrom_2, fx_class, NH_at, NH_put, ↓reduceIte, List.mem_cons, List.not_mem_nil, or_false, or_self, false_or, true_and, and_true, Nat.reduceEqDiff, reduceCtorEq, List.length_cons, List.length_nil, Nat.reduceAdd, Nat.reduceLeDiff, Nat.reduceSub, Nat.reduceLT, Nat.zero_le, Nat.zero_add, forall_const, not_true_eq_false, not_false_eq_true, false_implies, true_implies, implies_true, Nat.zero_lt_succ, am_z0, am_z1]
  simp (disch := omega) only [hs_at, hs_put, hs_63, NH_at, NH_put, NH_cpy, ni_add, ni_mul, ni_clamp, ni_in, ni_eq, ni_lt, ni_le, ni_sub, Nat.reduceAdd, Nat.reduceMul, Nat.reduceSub, eq_self, true_implies, not_true_eq_false, false_implies, and_true, true_and, not_false_eq_true, Nat.reduceEqDiff, Nat.reduceLeDiff, Nat.reduceLT, implies_true, ite_true, ite_false, nup_self, nup_ne, cup_self, cup_ne]
  refine ⟨by first | decide | omega, by first | decide | omega, by first | decide | omega, by first | decide | omega, by first | decide | omega, by first | decide | omega, by first | decide | omega, by first | decide | omega, by first | decide | omega, by first | decide | omega, by first | decide | omega, by first | decide | omega, by first | decide | omega, by first | decide | omega, by first | decide | omega, by first | decide | omega, by first | decide | omega, by first | decide | omega, by first | decide | omega, by first | decide | omega, by first | decide | omega, ?_⟩
  refine hq _ (fun o x => ?_) ?_ (fun i j x y hj => ?_) (fun j hj => ?_)
  · funext j; grind [cup_app, ccp_app]
  · grind [cup_app, ccp_app]
  · have : i = 1 ∨ i = 2 ∨ i = 3 ∨ i = 4 ∨ i = 5 ∨ i = 6 := by omega
    rcases this with rfl | rfl | rfl | rfl | rfl | rfl <;> grind [cup_app, ccp_app]
  · grind [cup_app, ccp_app]
end CCPY
