/-! ===== part 47: the reference keeps, writes ===== -/
section KEEPS
variable {E : am_E} {d : Nat} {h : am_H} {Q : Int32 → am_H → Prop} {g : Nat → Nat} {c : Nat → Nat → Nat} {t : Nat}
theorem r_keeps2 {mk : Nat} {v1 : Option am_V} (hm : mk < 8) (h4 : h 63 4 = nI mk)
    (hq : ∀ h' : am_H, (∀ o, o ≠ 63 → o ≠ 66 → h' o = h o) → (∀ k, k ≠ 4 → h' 63 k = h 63 k) → h' 63 4 = nI (mk + 1) → h' 66 (371 * mk) = nI (g 4) → (∀ k, k < 370 → h' 66 (371 * mk + 1 + k) = nI (g (90 + k))) → (∀ j, j < 371 * mk → h' 66 j = h 66 j) → Q 0 (hs h' g)) :
    am_R tT E d mX12_keeps Q 50 [some (.inr 63), v1] [] (hs h g) := by
  have loop : ∀ k i (h1 : am_H), i + k = 370 → (∀ o, o ≠ 66 → h1 o = h o) → h1 66 (371 * mk) = nI (g 4) → (∀ k, k < i → h1 66 (371 * mk + 1 + k) = nI (g (90 + k))) → (∀ j, j < 371 * mk → h1 66 j = h 66 j) → am_R tT E d mX12_keeps Q 71 [some (.inr 63), some (.inl (nI i))] [] (hs h1 g) := by
    intro k
    induction k with
    | zero =>
      intro i h1 hi e1 e2 e3 e4
      have h4' : h1 63 4 = nI mk := by rw [e1 63 (by omega)]; exact h4
      refine am_goS gX12_keeps [71] 400 ?_
      simp only [am_eqs, am_eqk, am_eqv, lX12_keeps_0, lX12_keeps_1, lX12_keeps_2, fx_ref, ↓reduceIte, List.mem_cons, List.not_mem_nil, or_false, or_self, false_or, true_and, and_true, Nat.reduceEqDiff, reduceCtorEq, List.length_cons, List.length_nil, Nat.reduceAdd, Nat.reduceLeDiff, Nat.reduceSub, Nat.reduceLT, Nat.zero_le, Nat.zero_add, forall_const, not_true_eq_false, not_false_eq_true, false_implies, true_implies, implies_true, Nat.zero_lt_succ, am_z0, am_z1]
      simp (disch := omega) only [hs_at, hs_put, hs_63, NH_at, NH_put, NH_cpy, ni_add, ni_mul, ni_clamp, ni_in, ni_eq, ni_lt, ni_le, ni_sub, Nat.reduceAdd, Nat.reduceMul, Nat.reduceSub, eq_self, true_implies, not_true_eq_false, false_implies, and_true, true_and, not_false_eq_true, Nat.reduceEqDiff, Nat.reduceLeDiff, Nat.reduceLT, implies_true, ite_true, ite_false, hs_off, h4', hs_up63]
      refine ⟨fun _ => ?_, fun c => absurd c (by omega)⟩
      refine hq _ (fun o h63 h66 => ?_) (fun k hk => ?_) ?_ ?_ (fun k hk => ?_) (fun j hj => ?_)
      · rw [am_upd_ne _ _ _ h63]; exact e1 o h66
      · rw [am_upd_self]; simp only [upd, if_neg hk]; rw [e1 63 (by omega)]
      · rw [am_upd_at]
      · rw [am_upd_ne _ _ _ (by omega)]; exact e2
      · rw [am_upd_ne _ _ _ (by omega)]; exact e3 k (by omega)
      · rw [am_upd_ne _ _ _ (by omega)]; exact e4 j hj
    | succ k ih =>
      intro i h1 hi e1 e2 e3 e4
      have h4' : h1 63 4 = nI mk := by rw [e1 63 (by omega)]; exact h4
      refine am_goS gX12_keeps [71] 400 ?_
      simp only [am_eqs, am_eqk, am_eqv, lX12_keeps_0, lX12_keeps_1, lX12_keeps_2, fx_ref, ↓reduceIte, List.mem_cons, List.not_mem_nil, or_false, or_self, false_or, true_and, and_true, Nat.reduceEqDiff, reduceCtorEq, List.length_cons, List.length_nil, Nat.reduceAdd, Nat.reduceLeDiff, Nat.reduceSub, Nat.reduceLT, Nat.zero_le, Nat.zero_add, forall_const, not_true_eq_false, not_false_eq_true, false_implies, true_implies, implies_true, Nat.zero_lt_succ, am_z0, am_z1]
      simp (disch := omega) only [hs_at, hs_put, hs_63, NH_at, NH_put, NH_cpy, ni_add, ni_mul, ni_clamp, ni_in, ni_eq, ni_lt, ni_le, ni_sub, Nat.reduceAdd, Nat.reduceMul, Nat.reduceSub, eq_self, true_implies, not_true_eq_false, false_implies, and_true, true_and, not_false_eq_true, Nat.reduceEqDiff, Nat.reduceLeDiff, Nat.reduceLT, implies_true, ite_true, ite_false, hs_off, h4', hs_upo]
      refine ⟨fun c => absurd c (by omega), fun _ => ⟨by omega, by omega, ?_⟩⟩
      refine ih (i + 1) _ (by omega) (fun o ho => ?_) ?_ (fun z hz => ?_) (fun j hj => ?_)
      · rw [am_upd_ne _ _ _ ho]; exact e1 o ho
      · rw [am_upd_self]; simp only [upd, if_neg (show ¬ 371 * mk = 371 * mk + 1 + i by omega)]; exact e2
      · rw [am_upd_self]
        by_cases hzi : z = i
        · rw [hzi]; simp [upd]
        · simp only [upd, if_neg (show ¬ 371 * mk + 1 + z = 371 * mk + 1 + i by omega)]
          exact e3 z (by omega)
      · rw [am_upd_self]
        simp only [upd, if_neg (show ¬ j = 371 * mk + 1 + i by omega)]
        exact e4 j hj
  refine am_goS gX12_keeps [71] 400 ?_
  simp only [am_eqs, am_eqk, am_eqv, lX12_keeps_0, lX12_keeps_1, lX12_keeps_2, fx_ref, ↓reduceIte, List.mem_cons, List.not_mem_nil, or_false, or_self, false_or, true_and, and_true, Nat.reduceEqDiff, reduceCtorEq, List.length_cons, List.length_nil, Nat.reduceAdd, Nat.reduceLeDiff, Nat.reduceSub, Nat.reduceLT, Nat.zero_le, Nat.zero_add, forall_const, not_true_eq_false, not_false_eq_true, false_implies, true_implies, implies_true, Nat.zero_lt_succ, am_z0, am_z1]
  simp (disch := omega) only [hs_at, hs_put, hs_63, NH_at, NH_put, NH_cpy, ni_add, ni_mul, ni_clamp, ni_in, ni_eq, ni_lt, ni_le, ni_sub, Nat.reduceAdd, Nat.reduceMul, Nat.reduceSub, eq_self, true_implies, not_true_eq_false, false_implies, and_true, true_and, not_false_eq_true, Nat.reduceEqDiff, Nat.reduceLeDiff, Nat.reduceLT, implies_true, ite_true, ite_false, hs_off, h4, hs_upo]
  refine ⟨by omega, ?_⟩
  refine loop 370 0 _ (by omega) (fun o ho => am_upd_ne _ _ _ ho) ?_ (fun k hk => absurd hk (by omega)) (fun j hj => ?_)
  · rw [am_upd_at]
  · rw [am_upd_self]; simp only [upd, if_neg (show ¬ j = 371 * mk by omega)]
theorem r_keeps {m : Nat} (hm : m ≤ 8) (h4 : h 63 4 = nI m)
    (hq : ∀ (mk : Nat) (h' : am_H), mk = (if m = 8 then 7 else m) → (∀ o, o ≠ 63 → o ≠ 66 → h' o = h o) → (∀ k, k ≠ 4 → h' 63 k = h 63 k) → h' 63 4 = nI (mk + 1) → h' 66 (371 * mk) = nI (g 4) → (∀ k, k < 370 → h' 66 (371 * mk + 1 + k) = nI (g (90 + k))) → (∀ j, j < 371 * mk → h' 66 j = h 66 (if m = 8 then j + 371 else j)) → Q 0 (hs h' g)) :
    am_C tT E d mX12_keeps [.inr 63] (hs h g) Q := by
  refine am_C.of (by decide) (Nat.le_of_ble_eq_true rfl) ?_
  show am_R tT E _ mX12_keeps _ 0 [some (.inr 63), none] [] (hs h g)
  refine am_goS gX12_keeps [11, 50] 400 ?_
  simp only [am_eqs, am_eqk, am_eqv, lX12_keeps_0, lX12_keeps_1, lX12_keeps_2, fx_ref, ↓reduceIte, List.mem_cons, List.not_mem_nil, or_false, or_self, false_or, true_and, and_true, Nat.reduceEqDiff, reduceCtorEq, List.length_cons, List.length_nil, Nat.reduceAdd, Nat.reduceLeDiff, Nat.reduceSub, Nat.reduceLT, Nat.zero_le, Nat.zero_add, forall_const, not_true_eq_false, not_false_eq_true, false_implies, true_implies, implies_true, Nat.zero_lt_succ, am_z0, am_z1]
  simp (disch := omega) only [hs_at, hs_put, hs_63, NH_at, NH_put, NH_cpy, ni_add, ni_mul, ni_clamp, ni_in, ni_eq, ni_lt, ni_le, ni_sub, Nat.reduceAdd, Nat.reduceMul, Nat.reduceSub, eq_self, true_implies, not_true_eq_false, false_implies, and_true, true_and, not_false_eq_true, Nat.reduceEqDiff, Nat.reduceLeDiff, Nat.reduceLT, implies_true, ite_true, ite_false, hs_off, h4]
  refine ⟨fun e => ?_, fun e => ?_⟩
  · subst e
    have loop : ∀ k i (h1 : am_H), i + k = 2597 → (∀ o, o ≠ 66 → h1 o = h o) → (∀ j, j < i → h1 66 j = h 66 (j + 371)) → (∀ j, i ≤ j → h1 66 j = h 66 j) → am_R tT E d mX12_keeps Q 11 [some (.inr 63), some (.inl (nI i))] [] (hs h1 g) := by
      intro k
      induction k with
      | zero =>
        intro i h1 hi e1 e2 e3
        have h4' : h1 63 4 = nI 8 := by rw [e1 63 (by omega)]; exact h4
        refine am_goS gX12_keeps [11, 50] 400 ?_
        simp only [am_eqs, am_eqk, am_eqv, lX12_keeps_0, lX12_keeps_1, lX12_keeps_2, fx_ref, ↓reduceIte, List.mem_cons, List.not_mem_nil, or_false, or_self, false_or, true_and, and_true, Nat.reduceEqDiff, reduceCtorEq, List.length_cons, List.length_nil, Nat.reduceAdd, Nat.reduceLeDiff, Nat.reduceSub, Nat.reduceLT, Nat.zero_le, Nat.zero_add, forall_const, not_true_eq_false, not_false_eq_true, false_implies, true_implies, implies_true, Nat.zero_lt_succ, am_z0, am_z1]
        simp (disch := omega) only [hs_at, hs_put, hs_63, NH_at, NH_put, NH_cpy, ni_add, ni_mul, ni_clamp, ni_in, ni_eq, ni_lt, ni_le, ni_sub, Nat.reduceAdd, Nat.reduceMul, Nat.reduceSub, eq_self, true_implies, not_true_eq_false, false_implies, and_true, true_and, not_false_eq_true, Nat.reduceEqDiff, Nat.reduceLeDiff, Nat.reduceLT, implies_true, ite_true, ite_false, hs_off, h4', hs_up63]
        refine ⟨fun _ => ?_, fun c => absurd c (by omega)⟩
        refine r_keeps2 (mk := 7) (by omega) (am_upd_at _ _ _ _) (fun h' f1 f2 f3 f4 f5 f6 => ?_)
        refine hq 7 h' rfl (fun o h63 h66 => ?_) (fun k hk => ?_) f3 f4 f5 (fun j hj => ?_)
        · rw [f1 o h63 h66, am_upd_ne _ _ _ h63]; exact e1 o h66
        · rw [f2 k hk, am_upd_self]; simp only [upd, if_neg hk]; rw [e1 63 (by omega)]
        · rw [f6 j hj, am_upd_ne _ _ _ (by omega), if_pos rfl]; exact e2 j (by omega)
      | succ k ih =>
        intro i h1 hi e1 e2 e3
        refine am_goS gX12_keeps [11, 50] 400 ?_
        simp only [am_eqs, am_eqk, am_eqv, lX12_keeps_0, lX12_keeps_1, lX12_keeps_2, fx_ref, ↓reduceIte, List.mem_cons, List.not_mem_nil, or_false, or_self, false_or, true_and, and_true, Nat.reduceEqDiff, reduceCtorEq, List.length_cons, List.length_nil, Nat.reduceAdd, Nat.reduceLeDiff, Nat.reduceSub, Nat.reduceLT, Nat.zero_le, Nat.zero_add, forall_const, not_true_eq_false, not_false_eq_true, false_implies, true_implies, implies_true, Nat.zero_lt_succ, am_z0, am_z1]
        simp (disch := omega) only [hs_at, hs_put, hs_63, NH_at, NH_put, NH_cpy, ni_add, ni_mul, ni_clamp, ni_in, ni_eq, ni_lt, ni_le, ni_sub, Nat.reduceAdd, Nat.reduceMul, Nat.reduceSub, eq_self, true_implies, not_true_eq_false, false_implies, and_true, true_and, not_false_eq_true, Nat.reduceEqDiff, Nat.reduceLeDiff, Nat.reduceLT, implies_true, ite_true, ite_false, hs_off, hs_upo]
        refine ⟨fun c => absurd c (by omega), fun _ => ⟨by omega, by omega, ?_⟩⟩
        refine ih (i + 1) _ (by omega) (fun o ho => ?_) (fun j hj => ?_) (fun j hj => ?_)
        · rw [am_upd_ne _ _ _ ho]; exact e1 o ho
        · rw [am_upd_self]
          by_cases hji : j = i
          · rw [hji]; simp only [upd, if_true]; exact e3 _ (by omega)
          · simp only [upd, if_neg hji]; exact e2 j (by omega)
        · rw [am_upd_self]; simp only [upd, if_neg (show ¬ j = i by omega)]; exact e3 j (by omega)
    exact loop 2597 0 h (by omega) (fun _ _ => rfl) (fun j hj => absurd hj (by omega)) (fun _ _ => rfl)
  · refine r_keeps2 (mk := m) (by omega) h4 (fun h' f1 f2 f3 f4 f5 f6 => ?_)
    refine hq m h' (by rw [if_neg e]) f1 f2 f3 f4 f5 (fun j hj => ?_)
    rw [if_neg e]; exact f6 j hj
/-- the book's next line -/
def wrG (g : Nat → Nat) (p b n : Nat) : Nat → Nat := if g 4 = 100 then g else nup (nup (nup (nup (nup g (460 + 4 * g 4) p) (460 + 4 * g 4 + 1) b) (460 + 4 * g 4 + 2) n) (460 + 4 * g 4 + 3) (g 3)) 4 (g 4 + 1)
theorem r_writes {p b n : Nat} (h4 : g 4 ≤ 100) (hq : Q 0 (hs h (wrG g p b n))) : am_C tT E d mX12_writes [.inr 63, .inl (nI p), .inl (nI b), .inl (nI n)] (hs h g) Q := by
  refine am_C.of (by decide) (Nat.le_of_ble_eq_true rfl) ?_
  show am_R tT E _ mX12_writes _ 0 [some (.inr 63), some (.inl (nI p)), some (.inl (nI b)), some (.inl (nI n)), none] [] (hs h g)
  refine am_goS gX12_writes [] 400 ?_
  simp only [am_eqs, am_eqk, am_eqv, lX12_writes_0, lX12_writes_1, lX12_writes_2, fx_ref, ↓reduceIte, List.mem_cons, List.not_mem_nil, or_false, or_self, false_or, true_and, and_true, Nat.reduceEqDiff, reduceCtorEq, List.length_cons, List.length_nil, Nat.reduceAdd, Nat.reduceLeDiff, Nat.reduceSub, Nat.reduceLT, Nat.zero_le, Nat.zero_add, forall_const, not_true_eq_false, not_false_eq_true, false_implies, true_implies, implies_true, Nat.zero_lt_succ, am_z0, am_z1]
  simp (disch := omega) only [hs_at, hs_put, hs_63, NH_at, NH_put, NH_cpy, ni_add, ni_mul, ni_clamp, ni_in, ni_eq, ni_lt, ni_le, ni_sub, Nat.reduceAdd, Nat.reduceMul, Nat.reduceSub, eq_self, true_implies, not_true_eq_false, false_implies, and_true, true_and, not_false_eq_true, Nat.reduceEqDiff, Nat.reduceLeDiff, Nat.reduceLT, implies_true, ite_true, ite_false, nup_self, nup_ne, cup_self, cup_ne]
  unfold wrG at hq
  refine ⟨fun e => by rw [if_pos e] at hq; exact hq, fun e => ?_⟩
  rw [if_neg e] at hq
  refine ⟨by omega, by omega, by omega, by omega, hq⟩
end KEEPS
