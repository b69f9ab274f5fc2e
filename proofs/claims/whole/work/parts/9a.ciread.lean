/-! ===== part 9a: text of the class, all ===== -/
section CIREAD
variable {E : am_E} {d : Nat} {h : am_H} {Q : Int32 → am_H → Prop} {c : Nat → Nat → Nat} {T : Nat → Nat} {n cnt : Nat}
theorem c_read (hR : CTp T n c)
    (h1 : ∀ ls, txL (TK T n) 402 0 0 = .inr ls → ∀ c', c' 47 0 = ls.length → c' 47 1 = (twL ls).length → (twL ls).length ≤ 400 → CS (c' 48) (twL ls) 0 → c' 46 1 = 0 → c' 46 2 = 4294967295 → F4 c c' → Q (nI 1) (NH c'))
    (h0 : ∀ e j, txL (TK T n) 402 0 0 = .inl (e, j) → ∀ c', c' 46 1 = e → c' 46 2 = POS T n j → F4 c c' → Q (nI 0) (NH c')) :
    am_C tT E (d + 23) mX4_read [.inr 46] (NH c) Q := by
  refine am_C.of (by decide) (Nat.le_of_ble_eq_true rfl) ?_
  show am_R tT E _ mX4_read _ 0 [some (.inr 46), none, none] [] (NH c)
  refine am_goS gX4_read [38] 400 ?_
  simp only [am_eqs, am_eqk, am_eqv, lX4_read_0, lX4_read_1, lX4_read_2, lX4_read_3, fx_class, NH_at, NH_put, ↓reduceIte, List.mem_cons, List.not_mem_nil, or_false, or_self, false_or, true_and, and_true, Nat.reduceEqDiff, reduceCtorEq, List.length_cons, List.length_nil, Nat.reduceAdd, Nat.reduceLeDiff, Nat.reduceSub, Nat.reduceLT, Nat.zero_le, Nat.zero_add, forall_const, not_true_eq_false, not_false_eq_true, false_implies, true_implies, implies_true, Nat.zero_lt_succ, am_z0, am_z1]
  try simp (disch := omega) only [hs_at, hs_put, hs_63, NH_at, NH_put, NH_cpy, ni_add, ni_mul, ni_clamp, ni_in, ni_eq, ni_lt, ni_le, ni_sub, Nat.reduceAdd, Nat.reduceMul, Nat.reduceSub, eq_self, true_implies, not_true_eq_false, false_implies, and_true, true_and, not_false_eq_true, Nat.reduceEqDiff, Nat.reduceLeDiff, Nat.reduceLT, implies_true, ite_true, ite_false, ni_m1]
  refine c_clear ?_
  generalize hc2 : cup (cup (cup (cup c 46 1 0) 46 2 4294967295) 47 0 0) 47 1 0 = c2
  have f2 : ∀ o, o ≠ 46 → o ≠ 47 → c2 o = c o := fun o x y => by rw [← hc2, cup_ne _ _ _ y, cup_ne _ _ _ y, cup_ne _ _ _ x, cup_ne _ _ _ x]
  have k46 : ∀ k, k ≠ 1 → k ≠ 2 → c2 46 k = c 46 k := fun k x y => by
    rw [← hc2, cup_ne _ _ _ (by omega), cup_ne _ _ _ (by omega), cup_app, if_pos rfl, if_neg y, cup_app, if_pos rfl, if_neg x]
  have g1 : c2 46 1 = 0 := by rw [← hc2]; simp [cup_app]
  have g2 : c2 46 2 = 4294967295 := by rw [← hc2]; simp [cup_app]
  have g3 : c2 47 0 = 0 := by rw [← hc2]; simp [cup_app]
  have g4 : c2 47 1 = 0 := by rw [← hc2]; simp [cup_app]
  have hR2 : CTp T n c2 := hR.cg (k46 0 (by omega) (by omega)) (f2 50 (by omega) (by omega))
  refine c_scan hR2 (fun c3 cnt arr f3 => ?_)
  have hA := arr.1
  have hcn := arr.2.1
  have hn := arr.2.2.1
  have e51 : c3 51 0 = TK T n 0 := (arr.2.2.2 0 (by omega)).1
  have k51 : cup c3 46 7 0 51 0 = TK T n 0 := by rw [cup_ne _ _ _ (by omega)]; exact e51
  try simp (disch := omega) only [hs_at, hs_put, hs_63, NH_at, NH_put, NH_cpy, ni_add, ni_mul, ni_clamp, ni_in, ni_eq, ni_lt, ni_le, ni_sub, Nat.reduceAdd, Nat.reduceMul, Nat.reduceSub, eq_self, true_implies, not_true_eq_false, false_implies, and_true, true_and, not_false_eq_true, Nat.reduceEqDiff, Nat.reduceLeDiff, Nat.reduceLT, implies_true, ite_true, ite_false, k51]
  have e46 : c3 46 = c2 46 := f3 46 (by omega) (by omega)
  have e47 : c3 47 = c2 47 := f3 47 (by omega) (by omega)
  generalize hRR : txL (TK T n) 402 0 0 = RR at h1 h0
  refine c_lines (RR := RR) (c := c) hA (by omega) h1 h0 402 0 0 [] _ none (by omega) (Nat.zero_le _) (by omega) ⟨arr.cg ?_ ?_, ?_, ?_, ?_, trivial, ?_, ?_⟩ (by simp [twL]) ?_ rfl ⟨fun o x y z u v => ?_, fun k x y z w => ?_⟩ ?_
  · rw [cup_ne _ _ _ (by omega), cup_ne _ _ _ (by omega)]
  · rw [cup_ne _ _ _ (by omega), cup_ne _ _ _ (by omega)]
  · simp [cup_app]
  · simp [cup_app]
  · rw [cup_ne _ _ _ (by omega), cup_ne _ _ _ (by omega), e47, g4]; rfl
  · rw [cup_app, if_pos rfl, if_neg (by omega), cup_app, if_pos rfl, if_neg (by omega), e46]; exact g1
  · rw [cup_app, if_pos rfl, if_neg (by omega), cup_app, if_pos rfl, if_neg (by omega), e46]; exact g2
  · rw [cup_ne _ _ _ (by omega), cup_ne _ _ _ (by omega), e47]; exact g3
  · rw [cup_ne _ _ _ x, cup_ne _ _ _ x, f3 o u v]; exact f2 o x y
  · rw [cup_app, if_pos rfl, if_neg w, cup_app, if_pos rfl, if_neg z, e46]; exact k46 k x y
  · rw [hRR]
    cases RR with
    | inl e => rfl
    | inr ls => rfl
theorem ci_text (hR : CTp T n c)
    (h1 : ∀ ls, txL (TK T n) 402 0 0 = .inr ls → ∀ c', c' 17 0 = ls.length → c' 17 1 = (twL ls).length → (twL ls).length ≤ 400 → CS (c' 18) (twL ls) 0 → c' 46 0 = 0 → c' 46 1 = 0 → c' 46 2 = 4294967295 → (∀ o, o ≠ 17 → o ≠ 18 → o ≠ 46 → o ≠ 47 → o ≠ 48 → o ≠ 51 → o ≠ 52 → c' o = c o) → Q (nI ls.length) (NH c'))
    (h0 : ∀ e j, txL (TK T n) 402 0 0 = .inl (e, j) → ∀ c', c' 46 0 = 0 → c' 46 1 = e → c' 46 2 = POS T n j → (∀ o, o ≠ 46 → o ≠ 47 → o ≠ 48 → o ≠ 51 → o ≠ 52 → c' o = c o) → Q (-1) (NH c')) :
    am_C tT E (d + 24) mX11_text [.inr 0] (NH c) Q := by
  refine am_C.of (by decide) (Nat.le_of_ble_eq_true rfl) ?_
  show am_R tT E _ mX11_text _ 0 [some (.inr 0), none] [] (NH c)
  refine am_goS gX11_text [] 400 ?_
  simp only [am_eqs, am_eqk, am_eqv, lX11_text_0, fx_class, NH_at, NH_put, ↓reduceIte, List.mem_cons, List.not_mem_nil, or_false, or_self, false_or, true_and, and_true, Nat.reduceEqDiff, reduceCtorEq, List.length_cons, List.length_nil, Nat.reduceAdd, Nat.reduceLeDiff, Nat.reduceSub, Nat.reduceLT, Nat.zero_le, Nat.zero_add, forall_const, not_true_eq_false, not_false_eq_true, false_implies, true_implies, implies_true, Nat.zero_lt_succ, am_z0, am_z1]
  refine c_read hR (fun ls hl c2 a1 a2 a3 a4 a5 a6 f2 => ?_) (fun e j hl c2 a1 a2 f2 => ?_)
  · try simp (disch := omega) only [hs_at, hs_put, hs_63, NH_at, NH_put, NH_cpy, ni_add, ni_mul, ni_clamp, ni_in, ni_eq, ni_lt, ni_le, ni_sub, Nat.reduceAdd, Nat.reduceMul, Nat.reduceSub, eq_self, true_implies, not_true_eq_false, false_implies, and_true, true_and, not_false_eq_true, Nat.reduceEqDiff, Nat.reduceLeDiff, Nat.reduceLT, implies_true, ite_true, ite_false]
    refine c_cpLawT (fun c3 f3 b1 b2 => ?_)
    have e17 : c3 17 0 = ls.length := by rw [b1 0 (by omega), cup_ne _ _ _ (by omega)]; exact a1
    try simp (disch := omega) only [hs_at, hs_put, hs_63, NH_at, NH_put, NH_cpy, ni_add, ni_mul, ni_clamp, ni_in, ni_eq, ni_lt, ni_le, ni_sub, Nat.reduceAdd, Nat.reduceMul, Nat.reduceSub, eq_self, true_implies, not_true_eq_false, false_implies, and_true, true_and, not_false_eq_true, Nat.reduceEqDiff, Nat.reduceLeDiff, Nat.reduceLT, implies_true, ite_true, ite_false, e17]
    refine h1 ls hl c3 e17 ?_ a3 ?_ ?_ ?_ ?_ (fun o x1 x2 x3 x4 x5 x6 x7 => ?_)
    · rw [b1 1 (by omega), cup_ne _ _ _ (by omega)]; exact a2
    · refine CS_cp (twL ls) 0 (fun i hi => ?_) a4
      rw [b2 _ (by omega), cup_ne _ _ _ (by omega)]
    · rw [f3 46 (by omega) (by omega), cup_self, nup_self]
    · rw [f3 46 (by omega) (by omega), cup_self, nup_ne _ _ (by omega)]; exact a5
    · rw [f3 46 (by omega) (by omega), cup_self, nup_ne _ _ (by omega)]; exact a6
    · rw [f3 o x1 x2, cup_ne _ _ _ x3]; exact f2.1 o x3 x4 x5 x6 x7
  · try simp (disch := omega) only [hs_at, hs_put, hs_63, NH_at, NH_put, NH_cpy, ni_add, ni_mul, ni_clamp, ni_in, ni_eq, ni_lt, ni_le, ni_sub, Nat.reduceAdd, Nat.reduceMul, Nat.reduceSub, eq_self, true_implies, not_true_eq_false, false_implies, and_true, true_and, not_false_eq_true, Nat.reduceEqDiff, Nat.reduceLeDiff, Nat.reduceLT, implies_true, ite_true, ite_false]
    refine h0 e j hl _ ?_ ?_ ?_ (fun o x3 x4 x5 x6 x7 => ?_)
    · rw [cup_self, nup_self]
    · rw [cup_self, nup_ne _ _ (by omega)]; exact a1
    · rw [cup_self, nup_ne _ _ (by omega)]; exact a2
    · rw [cup_ne _ _ _ x3]; exact f2.1 o x3 x4 x5 x6 x7
end CIREAD
