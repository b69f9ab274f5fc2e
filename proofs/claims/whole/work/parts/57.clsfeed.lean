/-! ===== part 57: feed of the class ===== -/
section CFEED
variable {E : am_E} {d : Nat} {h : am_H} {Q : Int32 → am_H → Prop} {g g0 : Nat → Nat} {c : Nat → Nat → Nat} {t : Nat}
def shl8 (i : Nat) : Int32 := if i = 4 then -8 else nI (24 - 8 * i)
theorem c_put {n : Nat} {v : Int32} (hn : n + 4 ≤ 400) (h0 : c 46 0 = n) (hq : ∀ c', (∀ o, o ≠ 46 → o ≠ 50 → c' o = c o) → (∀ k, k ≠ 0 → c' 46 k = c 46 k) → c' 46 0 = n + 4 → (∀ j, c' 50 j = if n ≤ j ∧ j < n + 4 then byt v (j - n) else c 50 j) → Q 0 (NH c')) : am_C tT E d mX4_put [.inr 46, .inl v] (NH c) Q := by
  refine am_C.of (by decide) (Nat.le_of_ble_eq_true rfl) ?_
  show am_R tT E _ mX4_put _ 0 [some (.inr 46), some (.inl v), none] [] (NH c)
  refine am_goS gX4_put [3] 400 ?_
  simp only [am_eqs, am_eqk, am_eqv, lX4_put_0, lX4_put_1, fx_class, NH_at, NH_put, ↓reduceIte, List.mem_cons, List.not_mem_nil, or_false, or_self, false_or, true_and, and_true, Nat.reduceEqDiff, reduceCtorEq, List.length_cons, List.length_nil, Nat.reduceAdd, Nat.reduceLeDiff, Nat.reduceSub, Nat.reduceLT, Nat.zero_le, Nat.zero_add, forall_const, not_true_eq_false, not_false_eq_true, false_implies, true_implies, implies_true, Nat.zero_lt_succ, am_z0, am_z1]
  have loop : ∀ m i (c1 : Nat → Nat → Nat), i + m = 4 → (∀ o, o ≠ 46 → o ≠ 50 → c1 o = c o) → (∀ k, k ≠ 0 → c1 46 k = c 46 k) → c1 46 0 = n + i → (∀ j, c1 50 j = if n ≤ j ∧ j < n + i then byt v (j - n) else c 50 j) → am_R tT E d mX4_put Q 3 [some (.inr 46), some (.inl v), some (.inl (shl8 i))] [] (NH c1) := by
    intro m
    induction m with
    | zero =>
      intro i c1 hi f1 f2 f3 f4
      have e : i = 4 := by omega
      subst e
      refine am_goS gX4_put [3] 400 ?_
      simp only [am_eqs, am_eqk, am_eqv, lX4_put_0, lX4_put_1, fx_class, NH_at, NH_put, ↓reduceIte, List.mem_cons, List.not_mem_nil, or_false, or_self, false_or, true_and, and_true, Nat.reduceEqDiff, reduceCtorEq, List.length_cons, List.length_nil, Nat.reduceAdd, Nat.reduceLeDiff, Nat.reduceSub, Nat.reduceLT, Nat.zero_le, Nat.zero_add, forall_const, not_true_eq_false, not_false_eq_true, false_implies, true_implies, implies_true, Nat.zero_lt_succ, am_z0, am_z1]
      refine ⟨fun _ => hq c1 f1 f2 f3 f4, fun z => absurd (show shl8 4 < nI 0 by decide) z⟩
    | succ m ih =>
      intro i c1 hi f1 f2 f3 f4
      have hnx := ih (i + 1)
      have hs : shl8 i = nI (24 - 8 * i) := by unfold shl8; rw [if_neg (by omega)]
      have hs2 : nI (24 - 8 * i) + (-8) = shl8 (i + 1) := by
        have : i = 0 ∨ i = 1 ∨ i = 2 ∨ i = 3 := by omega
        rcases this with rfl | rfl | rfl | rfl <;> decide
      rw [hs]
      refine am_goS gX4_put [3] 400 ?_
      simp only [am_eqs, am_eqk, am_eqv, lX4_put_0, lX4_put_1, fx_class, NH_at, NH_put, ↓reduceIte, List.mem_cons, List.not_mem_nil, or_false, or_self, false_or, true_and, and_true, Nat.reduceEqDiff, reduceCtorEq, List.length_cons, List.length_nil, Nat.reduceAdd, Nat.reduceLeDiff, Nat.reduceSub, Nat.reduceLT, Nat.zero_le, Nat.zero_add, forall_const, not_true_eq_false, not_false_eq_true, false_implies, true_implies, implies_true, Nat.zero_lt_succ, am_z0, am_z1]
      rw [byt_u rfl, hs2]
      simp (disch := omega) only [hs_at, hs_put, hs_63, NH_at, NH_put, NH_cpy, ni_add, ni_mul, ni_clamp, ni_in, ni_eq, ni_lt, ni_le, ni_sub, Nat.reduceAdd, Nat.reduceMul, Nat.reduceSub, eq_self, true_implies, not_true_eq_false, false_implies, and_true, true_and, not_false_eq_true, Nat.reduceEqDiff, Nat.reduceLeDiff, Nat.reduceLT, implies_true, ite_true, ite_false, nup_self, nup_ne, cup_self, cup_ne, f3]
      refine ⟨fun z => absurd z (by omega), fun _ => ⟨fun z => absurd z (by omega), fun _ => ⟨by omega, ?_⟩⟩⟩
      refine hnx _ (by omega) (fun o x y => ?_) (fun j hj => ?_) ?_ (fun j => ?_)
      · rw [cup_ne _ _ _ x, cup_ne _ _ _ y]; exact f1 o x y
      · rw [cup_self, nup_ne _ _ hj, cup_ne _ _ _ (by omega)]; exact f2 j hj
      · rw [cup_self, nup_self]; omega
      · rw [cup_ne _ _ _ (by omega), cup_self, nup_app]
        by_cases e : j = n + i
        · subst e
          rw [if_pos rfl, if_pos (by omega), Nat.add_sub_cancel_left]
        · rw [if_neg e, f4 j]
          by_cases e2 : n ≤ j ∧ j < n + i
          · rw [if_pos e2, if_pos (by omega)]
          · rw [if_neg e2, if_neg (by omega)]
  exact loop 4 0 c rfl (fun _ _ _ => rfl) (fun _ _ => rfl) h0 (fun j => by rw [if_neg (by omega)])
theorem ci_feed {n : Nat} {a b c' d' e : Int32} (hn : n ≤ 400) (h0 : c 46 0 = n) (hN : 380 < n → Q (-1) (NH c))
    (hq : n ≤ 380 → ∀ c2, (∀ o, o ≠ 46 → o ≠ 50 → c2 o = c o) → (∀ k, k ≠ 0 → c2 46 k = c 46 k) → c2 46 0 = n + 20 → (∀ j, c2 50 j = if n ≤ j ∧ j < n + 20 then byt (A5 a b c' d' e ((j - n) / 4)) ((j - n) % 4) else c 50 j) → Q (nI (n + 20)) (NH c2)) :
    am_C tT E (d + 1) mX11_feed [.inr 0, .inl a, .inl b, .inl c', .inl d', .inl e] (NH c) Q := by
  have hroom : ∀ {Q' : Int32 → am_H → Prop}, (n ≤ 380 → Q' (nI 1) (NH c)) → (380 < n → Q' (nI 0) (NH c)) → am_C tT E d mX4_hasRoom [.inr 46] (NH c) Q' := by
    intro Q' q1 q0
    refine am_C.of (by decide) (Nat.le_of_ble_eq_true rfl) ?_
    show am_R tT E _ mX4_hasRoom _ 0 [some (.inr 46)] [] (NH c)
    refine am_goS gX4_hasRoom [] 400 ?_
    simp only [am_eqs, am_eqk, am_eqv, lX4_hasRoom_0, fx_class, NH_at, NH_put, ↓reduceIte, List.mem_cons, List.not_mem_nil, or_false, or_self, false_or, true_and, and_true, Nat.reduceEqDiff, reduceCtorEq, List.length_cons, List.length_nil, Nat.reduceAdd, Nat.reduceLeDiff, Nat.reduceSub, Nat.reduceLT, Nat.zero_le, Nat.zero_add, forall_const, not_true_eq_false, not_false_eq_true, false_implies, true_implies, implies_true, Nat.zero_lt_succ, am_z0, am_z1]
    simp (disch := omega) only [hs_at, hs_put, hs_63, NH_at, NH_put, NH_cpy, ni_add, ni_mul, ni_clamp, ni_in, ni_eq, ni_lt, ni_le, ni_sub, Nat.reduceAdd, Nat.reduceMul, Nat.reduceSub, eq_self, true_implies, not_true_eq_false, false_implies, and_true, true_and, not_false_eq_true, Nat.reduceEqDiff, Nat.reduceLeDiff, Nat.reduceLT, implies_true, ite_true, ite_false, h0]
    exact ⟨fun z => q0 (by omega), fun z => q1 (by omega)⟩
  refine am_C.of (by decide) (Nat.le_of_ble_eq_true rfl) ?_
  show am_R tT E _ mX11_feed _ 0 [some (.inr 0), some (.inl a), some (.inl b), some (.inl c'), some (.inl d'), some (.inl e)] [] (NH c)
  refine am_goS gX11_feed [] 400 ?_
  simp only [am_eqs, am_eqk, am_eqv, lX11_feed_0, lX11_feed_1, fx_class, NH_at, NH_put, ↓reduceIte, List.mem_cons, List.not_mem_nil, or_false, or_self, false_or, true_and, and_true, Nat.reduceEqDiff, reduceCtorEq, List.length_cons, List.length_nil, Nat.reduceAdd, Nat.reduceLeDiff, Nat.reduceSub, Nat.reduceLT, Nat.zero_le, Nat.zero_add, forall_const, not_true_eq_false, not_false_eq_true, false_implies, true_implies, implies_true, Nat.zero_lt_succ, am_z0, am_z1]
  refine hroom (fun z => ?_) (fun z => ?_)
  · simp (disch := omega) only [hs_at, hs_put, hs_63, NH_at, NH_put, NH_cpy, ni_add, ni_mul, ni_clamp, ni_in, ni_eq, ni_lt, ni_le, ni_sub, Nat.reduceAdd, Nat.reduceMul, Nat.reduceSub, eq_self, true_implies, not_true_eq_false, false_implies, and_true, true_and, not_false_eq_true, Nat.reduceEqDiff, Nat.reduceLeDiff, Nat.reduceLT, implies_true, ite_true, ite_false]
    refine c_put (n := n) (by omega) h0 (fun c1 p1 p2 p3 p4 => ?_)
    refine c_put (n := n + 4) (by omega) p3 (fun c2 q1 q2 q3 q4 => ?_)
    refine c_put (n := n + 4 + 4) (by omega) q3 (fun c3 r1 r2 r3 r4 => ?_)
    refine c_put (n := n + 4 + 4 + 4) (by omega) r3 (fun c4 s1 s2 s3 s4 => ?_)
    refine c_put (n := n + 4 + 4 + 4 + 4) (by omega) s3 (fun c5 t1 t2 t3 t4 => ?_)
    simp (disch := omega) only [hs_at, hs_put, hs_63, NH_at, NH_put, NH_cpy, ni_add, ni_mul, ni_clamp, ni_in, ni_eq, ni_lt, ni_le, ni_sub, Nat.reduceAdd, Nat.reduceMul, Nat.reduceSub, eq_self, true_implies, not_true_eq_false, false_implies, and_true, true_and, not_false_eq_true, Nat.reduceEqDiff, Nat.reduceLeDiff, Nat.reduceLT, implies_true, ite_true, ite_false, t3]
    refine hq z c5 (fun o x y => ?_) (fun k hk => ?_) (by omega) (fun j => ?_)
    · rw [t1 o x y, s1 o x y, r1 o x y, q1 o x y, p1 o x y]
    · rw [t2 k hk, s2 k hk, r2 k hk, q2 k hk, p2 k hk]
    · rw [t4 j, s4 j, r4 j, q4 j, p4 j]
      unfold A5
      by_cases h20 : n ≤ j ∧ j < n + 20
      · rw [if_pos h20]
        have : (j - n) / 4 = 0 ∨ (j - n) / 4 = 1 ∨ (j - n) / 4 = 2 ∨ (j - n) / 4 = 3 ∨ (j - n) / 4 = 4 := by omega
        rcases this with x | x | x | x | x
        · rw [if_neg (by omega), if_neg (by omega), if_neg (by omega), if_neg (by omega), if_pos (by omega), x]
          simp only [if_true]
          congr 1; omega
        · rw [if_neg (by omega), if_neg (by omega), if_neg (by omega), if_pos (by omega), x]
          simp only [Nat.reduceEqDiff, if_false, if_true]
          congr 1; omega
        · rw [if_neg (by omega), if_neg (by omega), if_pos (by omega), x]
          simp only [Nat.reduceEqDiff, if_false, if_true]
          congr 1; omega
        · rw [if_neg (by omega), if_pos (by omega), x]
          simp only [Nat.reduceEqDiff, if_false, if_true]
          congr 1; omega
        · rw [if_pos (by omega), x]
          simp only [Nat.reduceEqDiff, if_false, if_true]
          congr 1; omega
      · rw [if_neg (by omega), if_neg (by omega), if_neg (by omega), if_neg (by omega), if_neg (by omega), if_neg h20]
  · simp (disch := omega) only [hs_at, hs_put, hs_63, NH_at, NH_put, NH_cpy, ni_add, ni_mul, ni_clamp, ni_in, ni_eq, ni_lt, ni_le, ni_sub, Nat.reduceAdd, Nat.reduceMul, Nat.reduceSub, eq_self, true_implies, not_true_eq_false, false_implies, and_true, true_and, not_false_eq_true, Nat.reduceEqDiff, Nat.reduceLeDiff, Nat.reduceLT, implies_true, ite_true, ite_false]
    exact hN z
end CFEED
