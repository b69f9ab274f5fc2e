/-! ===== part 59: image ===== -/
section CIMG
variable {E : am_E} {d : Nat} {h : am_H} {Q : Int32 → am_H → Prop} {g g0 : Nat → Nat} {c : Nat → Nat → Nat} {t : Nat}
def CPW (D S : Nat) (c c' : Nat → Nat → Nat) : Prop := (∀ o, o < D ∨ D + 17 < o → c' o = c o) ∧ (∀ k, k = 0 ∨ k = 1 ∨ k = 2 ∨ k = 3 ∨ k = 4 ∨ k = 7 ∨ k = 9 → c' D k = c S k) ∧ (∀ j, j < 20 → c' (D + 1) j = c (S + 1) j ∧ c' (D + 2) j = c (S + 2) j) ∧ (∀ j, j < 400 → c' (D + 3) j = c (S + 3) j) ∧ (∀ j, j < 12 → c' (D + 4) j = c (S + 4) j) ∧ c' (D + 5) 0 = c (S + 5) 0 ∧ (∀ i j, 1 ≤ i → i ≤ 6 → j < 8 → c' (D + 5 + i) j = c (S + 5 + i) j) ∧ (∀ j, j < 72 → c' (D + 12) j = c (S + 12) j) ∧ c' (D + 13) 0 = c (S + 13) 0 ∧ (∀ j, j < 24 → c' (D + 14) j = c (S + 14) j) ∧ (∀ j, j < 240 → c' (D + 15) j = c (S + 15) j) ∧ (∀ j, j < 2 → c' (D + 16) j = c (S + 16) j) ∧ ∀ j, j < 400 → c' (D + 17) j = c (S + 17) j
theorem c_cpWO (hq : ∀ c', CPW 27 1 c c' → Q 0 (NH c')) : am_C tT E (d + 2) mX10_copyFrom [.inr 27, .inr 1] (NH c) Q := by
  have hc1 : ∃ c1, c1 = c := ⟨c, rfl⟩
  refine am_C.of (by decide) (Nat.le_of_ble_eq_true rfl) ?_
  show am_R tT E _ mX10_copyFrom _ 0 [some (.inr 27), some (.inr 1)] [] (NH c)
  refine am_goS gX10_copyFrom [70] 400 ?_
  simp only [am_eqs, am_eqk, am_eqv, lX10_copyFrom_0, lX10_copyFrom_1, lX10_copyFrom_2, lX10_copyFrom_3, fx_class, NH_at, NH_put, ↓reduceIte, List.mem_cons, List.not_mem_nil, or_false, or_self, false_or, true_and, and_true, Nat.reduceEqDiff, reduceCtorEq, List.length_cons, List.length_nil, Nat.reduceAdd, Nat.reduceLeDiff, Nat.reduceSub, Nat.reduceLT, Nat.zero_le, Nat.zero_add, forall_const, not_true_eq_false, not_false_eq_true, false_implies, true_implies, implies_true, Nat.zero_lt_succ, am_z0, am_z1]
  simp (disch := omega) only [hs_at, hs_put, hs_63, NH_at, NH_put, NH_cpy, ni_add, ni_mul, ni_clamp, ni_in, ni_eq, ni_lt, ni_le, ni_sub, Nat.reduceAdd, Nat.reduceMul, Nat.reduceSub, eq_self, true_implies, not_true_eq_false, false_implies, and_true, true_and, not_false_eq_true, Nat.reduceEqDiff, Nat.reduceLeDiff, Nat.reduceLT, implies_true, ite_true, ite_false, nup_self, nup_ne, cup_self, cup_ne]
  refine ⟨by first | decide | omega, by first | decide | omega, by first | decide | omega, by first | decide | omega, by first | decide | omega, by first | decide | omega, ?_⟩
  refine am_goS gX10_copyFrom [117] 400 ?_
  simp only [am_eqs, am_eqk, am_eqv, lX10_copyFrom_0, lX10_copyFrom_1, lX10_copyFrom_2, lX10_copyFrom_3, fx_class, NH_at, NH_put, ↓reduceIte, List.mem_cons, List.not_mem_nil, or_false, or_self, false_or, true_and, and_true, Nat.reduceEqDiff, reduceCtorEq, List.length_cons, List.length_nil, Nat.reduceAdd, Nat.reduceLeDiff, Nat.reduceSub, Nat.reduceLT, Nat.zero_le, Nat.zero_add, forall_const, not_true_eq_false, not_false_eq_true, false_implies, true_implies, implies_true, Nat.zero_lt_succ, am_z0, am_z1]
  simp (disch := omega) only [hs_at, hs_put, hs_63, NH_at, NH_put, NH_cpy, ni_add, ni_mul, ni_clamp, ni_in, ni_eq, ni_lt, ni_le, ni_sub, Nat.reduceAdd, Nat.reduceMul, Nat.reduceSub, eq_self, true_implies, not_true_eq_false, false_implies, and_true, true_and, not_false_eq_true, Nat.reduceEqDiff, Nat.reduceLeDiff, Nat.reduceLT, implies_true, ite_true, ite_false, nup_self, nup_ne, cup_self, cup_ne]
  refine ⟨by first | decide | omega, by first | decide | omega, by first | decide | omega, by first | decide | omega, by first | decide | omega, by first | decide | omega, ?_⟩
  have key : ∀ c1 : Nat → Nat → Nat, (∀ o, o < 27 ∨ 31 < o → c1 o = c o) → (∀ k, k = 0 ∨ k = 1 ∨ k = 2 ∨ k = 3 ∨ k = 4 ∨ k = 7 ∨ k = 9 → c1 27 k = c 1 k) → (∀ j, j < 20 → c1 28 j = c 2 j ∧ c1 29 j = c 3 j) → (∀ j, j < 400 → c1 30 j = c 4 j) → (∀ j, j < 12 → c1 31 j = c 5 j) → am_R tT E (d + 2) mX10_copyFrom Q 117 [some (.inr 27), some (.inr 1)] [] (NH c1) := by
    intro c1 a0 a1 a2 a3 a4
    refine am_goS gX10_copyFrom [] 400 ?_
    simp only [am_eqs, am_eqk, am_eqv, lX10_copyFrom_0, lX10_copyFrom_1, lX10_copyFrom_2, lX10_copyFrom_3, fx_class, NH_at, NH_put, ↓reduceIte, List.mem_cons, List.not_mem_nil, or_false, or_self, false_or, true_and, and_true, Nat.reduceEqDiff, reduceCtorEq, List.length_cons, List.length_nil, Nat.reduceAdd, Nat.reduceLeDiff, Nat.reduceSub, Nat.reduceLT, Nat.zero_le, Nat.zero_add, forall_const, not_true_eq_false, not_false_eq_true, false_implies, true_implies, implies_true, Nat.zero_lt_succ, am_z0, am_z1]
    refine c_cpPeoO (fun c2 p0 p1 p2 p3 => ?_)
    refine c_cpBriO (fun c3 b0 b1 b2 b3 => ?_)
    refine c_cpLawO (fun c4 l0 l1 l2 => ?_)
    refine hq c4 ⟨fun o ho => ?_, fun k hk => ?_, fun j hj => ⟨?_, ?_⟩, fun j hj => ?_, fun j hj => ?_, ?_, fun i j hi1 hi2 hj => ?_, fun j hj => ?_, ?_, fun j hj => ?_, fun j hj => ?_, fun j hj => ?_, fun j hj => ?_⟩
    · rw [l0 o (by omega) (by omega), b0 o (by omega) (by omega) (by omega), p0 o (by omega), a0 o (by omega)]
    · rw [l0 _ (by omega) (by omega), b0 _ (by omega) (by omega) (by omega), p0 _ (by omega)]; exact a1 k hk
    · rw [l0 _ (by omega) (by omega), b0 _ (by omega) (by omega) (by omega), p0 _ (by omega)]; exact (a2 j hj).1
    · rw [l0 _ (by omega) (by omega), b0 _ (by omega) (by omega) (by omega), p0 _ (by omega)]; exact (a2 j hj).2
    · rw [l0 _ (by omega) (by omega), b0 _ (by omega) (by omega) (by omega), p0 _ (by omega)]; exact a3 j hj
    · rw [l0 _ (by omega) (by omega), b0 _ (by omega) (by omega) (by omega), p0 _ (by omega)]; exact a4 j hj
    · rw [l0 _ (by omega) (by omega), b0 _ (by omega) (by omega) (by omega), p1, a0 _ (by omega)]
    · rw [l0 _ (by omega) (by omega), b0 _ (by omega) (by omega) (by omega), p2 i j hi1 hi2 hj, a0 _ (by omega)]
    · rw [l0 _ (by omega) (by omega), b0 _ (by omega) (by omega) (by omega), p3 j hj, a0 _ (by omega)]
    · rw [l0 _ (by omega) (by omega), b1, p0 _ (by omega), a0 _ (by omega)]
    · rw [l0 _ (by omega) (by omega), b2 j hj, p0 _ (by omega), a0 _ (by omega)]
    · rw [l0 _ (by omega) (by omega), b3 j hj, p0 _ (by omega), a0 _ (by omega)]
    · rw [l1 j hj, b0 _ (by omega) (by omega) (by omega), p0 _ (by omega), a0 _ (by omega)]
    · rw [l2 j hj, b0 _ (by omega) (by omega) (by omega), p0 _ (by omega), a0 _ (by omega)]
  refine key _ (fun o ho => ?_) (fun k hk => ?_) (fun j hj => ⟨?_, ?_⟩) (fun j hj => ?_) (fun j hj => ?_)
  · funext j
    have h1 : o ≠ 27 := by omega
    have h2 : o ≠ 28 := by omega
    have h3 : o ≠ 29 := by omega
    have h4 : o ≠ 30 := by omega
    have h5 : o ≠ 31 := by omega
    simp only [cup_app, ccp_app, if_neg h1, if_neg h2, if_neg h3, if_neg h4, if_neg h5]
  · rcases hk with rfl | rfl | rfl | rfl | rfl | rfl | rfl <;> simp [cup_app, ccp_app]
  · simp [cup_app, ccp_app, hj]
  · simp [cup_app, ccp_app, hj]
  · simp [cup_app, ccp_app, hj]
  · simp [cup_app, ccp_app, hj]
theorem c_cpWN (hq : ∀ c', CPW 1 27 c c' → Q 0 (NH c')) : am_C tT E (d + 2) mX10_copyFrom [.inr 1, .inr 27] (NH c) Q := by
  have hc1 : ∃ c1, c1 = c := ⟨c, rfl⟩
  refine am_C.of (by decide) (Nat.le_of_ble_eq_true rfl) ?_
  show am_R tT E _ mX10_copyFrom _ 0 [some (.inr 1), some (.inr 27)] [] (NH c)
  refine am_goS gX10_copyFrom [70] 400 ?_
  simp only [am_eqs, am_eqk, am_eqv, lX10_copyFrom_0, lX10_copyFrom_1, lX10_copyFrom_2, lX10_copyFrom_3, fx_class, NH_at, NH_put, ↓reduceIte, List.mem_cons, List.not_mem_nil, or_false, or_self, false_or, true_and, and_true, Nat.reduceEqDiff, reduceCtorEq, List.length_cons, List.length_nil, Nat.reduceAdd, Nat.reduceLeDiff, Nat.reduceSub, Nat.reduceLT, Nat.zero_le, Nat.zero_add, forall_const, not_true_eq_false, not_false_eq_true, false_implies, true_implies, implies_true, Nat.zero_lt_succ, am_z0, am_z1]
  simp (disch := omega) only [hs_at, hs_put, hs_63, NH_at, NH_put, NH_cpy, ni_add, ni_mul, ni_clamp, ni_in, ni_eq, ni_lt, ni_le, ni_sub, Nat.reduceAdd, Nat.reduceMul, Nat.reduceSub, eq_self, true_implies, not_true_eq_false, false_implies, and_true, true_and, not_false_eq_true, Nat.reduceEqDiff, Nat.reduceLeDiff, Nat.reduceLT, implies_true, ite_true, ite_false, nup_self, nup_ne, cup_self, cup_ne]
  refine ⟨by first | decide | omega, by first | decide | omega, by first | decide | omega, by first | decide | omega, by first | decide | omega, by first | decide | omega, ?_⟩
  refine am_goS gX10_copyFrom [117] 400 ?_
  simp only [am_eqs, am_eqk, am_eqv, lX10_copyFrom_0, lX10_copyFrom_1, lX10_copyFrom_2, lX10_copyFrom_3, fx_class, NH_at, NH_put, ↓reduceIte, List.mem_cons, List.not_mem_nil, or_false, or_self, false_or, true_and, and_true, Nat.reduceEqDiff, reduceCtorEq, List.length_cons, List.length_nil, Nat.reduceAdd, Nat.reduceLeDiff, Nat.reduceSub, Nat.reduceLT, Nat.zero_le, Nat.zero_add, forall_const, not_true_eq_false, not_false_eq_true, false_implies, true_implies, implies_true, Nat.zero_lt_succ, am_z0, am_z1]
  simp (disch := omega) only [hs_at, hs_put, hs_63, NH_at, NH_put, NH_cpy, ni_add, ni_mul, ni_clamp, ni_in, ni_eq, ni_lt, ni_le, ni_sub, Nat.reduceAdd, Nat.reduceMul, Nat.reduceSub, eq_self, true_implies, not_true_eq_false, false_implies, and_true, true_and, not_false_eq_true, Nat.reduceEqDiff, Nat.reduceLeDiff, Nat.reduceLT, implies_true, ite_true, ite_false, nup_self, nup_ne, cup_self, cup_ne]
  refine ⟨by first | decide | omega, by first | decide | omega, by first | decide | omega, by first | decide | omega, by first | decide | omega, by first | decide | omega, ?_⟩
  have key : ∀ c1 : Nat → Nat → Nat, (∀ o, o < 1 ∨ 5 < o → c1 o = c o) → (∀ k, k = 0 ∨ k = 1 ∨ k = 2 ∨ k = 3 ∨ k = 4 ∨ k = 7 ∨ k = 9 → c1 1 k = c 27 k) → (∀ j, j < 20 → c1 2 j = c 28 j ∧ c1 3 j = c 29 j) → (∀ j, j < 400 → c1 4 j = c 30 j) → (∀ j, j < 12 → c1 5 j = c 31 j) → am_R tT E (d + 2) mX10_copyFrom Q 117 [some (.inr 1), some (.inr 27)] [] (NH c1) := by
    intro c1 a0 a1 a2 a3 a4
    refine am_goS gX10_copyFrom [] 400 ?_
    simp only [am_eqs, am_eqk, am_eqv, lX10_copyFrom_0, lX10_copyFrom_1, lX10_copyFrom_2, lX10_copyFrom_3, fx_class, NH_at, NH_put, ↓reduceIte, List.mem_cons, List.not_mem_nil, or_false, or_self, false_or, true_and, and_true, Nat.reduceEqDiff, reduceCtorEq, List.length_cons, List.length_nil, Nat.reduceAdd, Nat.reduceLeDiff, Nat.reduceSub, Nat.reduceLT, Nat.zero_le, Nat.zero_add, forall_const, not_true_eq_false, not_false_eq_true, false_implies, true_implies, implies_true, Nat.zero_lt_succ, am_z0, am_z1]
    refine c_cpPeoN (fun c2 p0 p1 p2 p3 => ?_)
    refine c_cpBriN (fun c3 b0 b1 b2 b3 => ?_)
    refine c_cpLawN (fun c4 l0 l1 l2 => ?_)
    refine hq c4 ⟨fun o ho => ?_, fun k hk => ?_, fun j hj => ⟨?_, ?_⟩, fun j hj => ?_, fun j hj => ?_, ?_, fun i j hi1 hi2 hj => ?_, fun j hj => ?_, ?_, fun j hj => ?_, fun j hj => ?_, fun j hj => ?_, fun j hj => ?_⟩
    · rw [l0 o (by omega) (by omega), b0 o (by omega) (by omega) (by omega), p0 o (by omega), a0 o (by omega)]
    · rw [l0 _ (by omega) (by omega), b0 _ (by omega) (by omega) (by omega), p0 _ (by omega)]; exact a1 k hk
    · rw [l0 _ (by omega) (by omega), b0 _ (by omega) (by omega) (by omega), p0 _ (by omega)]; exact (a2 j hj).1
    · rw [l0 _ (by omega) (by omega), b0 _ (by omega) (by omega) (by omega), p0 _ (by omega)]; exact (a2 j hj).2
    · rw [l0 _ (by omega) (by omega), b0 _ (by omega) (by omega) (by omega), p0 _ (by omega)]; exact a3 j hj
    · rw [l0 _ (by omega) (by omega), b0 _ (by omega) (by omega) (by omega), p0 _ (by omega)]; exact a4 j hj
    · rw [l0 _ (by omega) (by omega), b0 _ (by omega) (by omega) (by omega), p1, a0 _ (by omega)]
    · rw [l0 _ (by omega) (by omega), b0 _ (by omega) (by omega) (by omega), p2 i j hi1 hi2 hj, a0 _ (by omega)]
    · rw [l0 _ (by omega) (by omega), b0 _ (by omega) (by omega) (by omega), p3 j hj, a0 _ (by omega)]
    · rw [l0 _ (by omega) (by omega), b1, p0 _ (by omega), a0 _ (by omega)]
    · rw [l0 _ (by omega) (by omega), b2 j hj, p0 _ (by omega), a0 _ (by omega)]
    · rw [l0 _ (by omega) (by omega), b3 j hj, p0 _ (by omega), a0 _ (by omega)]
    · rw [l1 j hj, b0 _ (by omega) (by omega) (by omega), p0 _ (by omega), a0 _ (by omega)]
    · rw [l2 j hj, b0 _ (by omega) (by omega) (by omega), p0 _ (by omega), a0 _ (by omega)]
  refine key _ (fun o ho => ?_) (fun k hk => ?_) (fun j hj => ⟨?_, ?_⟩) (fun j hj => ?_) (fun j hj => ?_)
  · funext j
    have h1 : o ≠ 1 := by omega
    have h2 : o ≠ 2 := by omega
    have h3 : o ≠ 3 := by omega
    have h4 : o ≠ 4 := by omega
    have h5 : o ≠ 5 := by omega
    simp only [cup_app, ccp_app, if_neg h1, if_neg h2, if_neg h3, if_neg h4, if_neg h5]
  · rcases hk with rfl | rfl | rfl | rfl | rfl | rfl | rfl <;> simp [cup_app, ccp_app]
  · simp [cup_app, ccp_app, hj]
  · simp [cup_app, ccp_app, hj]
  · simp [cup_app, ccp_app, hj]
  · simp [cup_app, ccp_app, hj]
end CIMG
