/-! ===== part 83: the reference reads a token: words, the rest ===== -/
def RS (T : Nat → Nat) (n i : Nat) (h : am_H) : Prop := RTp T n h ∧ h 63 14 = nI (enC T n (POS T n i)) ∧ h 63 15 = nI (rT (TK T n i)) ∧ h 63 16 = nI (POS T n i) ∧ ∃ v, v ≤ 9999 ∧ h 63 17 = nI v ∧ (TK T n i < 10000 → v = TK T n i)
section RNEXT
variable {E : am_E} {d : Nat} {h : am_H} {Q : Int32 → am_H → Prop} {g : Nat → Nat} {T : Nat → Nat} {n : Nat}
theorem r_nameWord {a b : Nat} (hR : RTp T n h) (hab : a ≤ b) (hbn : b ≤ n) (h14 : h 63 14 = nI b) (h16 : h 63 16 = nI a) (hno : ∀ v, v < 6 → bts T a (b - a) ≠ wl v) (hq : Q (nI (rT (wdC (bts T a (b - a))))) (hs h g)) : am_C tT E (d + 5) mX12_nameWord [.inr 63] (hs h g) Q := by
  generalize hl : bts T a (b - a) = l at hno hq
  refine am_C.of (by decide) (Nat.le_of_ble_eq_true rfl) ?_
  show am_R tT E _ mX12_nameWord _ 0 [some (.inr 63)] [] (hs h g)
  refine am_goS gX12_nameWord [12] 400 ?_
  simp only [am_eqs, am_eqk, am_eqv, lX12_nameWord_0, lX12_nameWord_1, lX12_nameWord_2, fx_ref, ↓reduceIte, List.mem_cons, List.not_mem_nil, or_false, or_self, false_or, true_and, and_true, Nat.reduceEqDiff, reduceCtorEq, List.length_cons, List.length_nil, Nat.reduceAdd, Nat.reduceLeDiff, Nat.reduceSub, Nat.reduceLT, Nat.zero_le, Nat.zero_add, forall_const, not_true_eq_false, not_false_eq_true, false_implies, true_implies, implies_true, Nat.zero_lt_succ, am_z0, am_z1]
  refine r_is (j := 8) (by omega) (by omega) hR hab hbn h14 h16 (fun e => ?_) (fun e => ?_)
  · rw [hl] at e
    rw [wdC_of (v := 6) (by omega) e] at hq
    try simp (disch := omega) only [hs_at, hs_put, hs_63, NH_at, NH_put, NH_cpy, ni_add, ni_mul, ni_clamp, ni_in, ni_eq, ni_lt, ni_le, ni_sub, Nat.reduceAdd, Nat.reduceMul, Nat.reduceSub, eq_self, true_implies, not_true_eq_false, false_implies, and_true, true_and, not_false_eq_true, Nat.reduceEqDiff, Nat.reduceLeDiff, Nat.reduceLT, implies_true, ite_true, ite_false]
    exact hq
  rw [hl] at e
  have n6 : l ≠ wl 6 := e
  try simp (disch := omega) only [hs_at, hs_put, hs_63, NH_at, NH_put, NH_cpy, ni_add, ni_mul, ni_clamp, ni_in, ni_eq, ni_lt, ni_le, ni_sub, Nat.reduceAdd, Nat.reduceMul, Nat.reduceSub, eq_self, true_implies, not_true_eq_false, false_implies, and_true, true_and, not_false_eq_true, Nat.reduceEqDiff, Nat.reduceLeDiff, Nat.reduceLT, implies_true, ite_true, ite_false]
  refine am_goS gX12_nameWord [24] 400 ?_
  simp only [am_eqs, am_eqk, am_eqv, lX12_nameWord_0, lX12_nameWord_1, lX12_nameWord_2, fx_ref, ↓reduceIte, List.mem_cons, List.not_mem_nil, or_false, or_self, false_or, true_and, and_true, Nat.reduceEqDiff, reduceCtorEq, List.length_cons, List.length_nil, Nat.reduceAdd, Nat.reduceLeDiff, Nat.reduceSub, Nat.reduceLT, Nat.zero_le, Nat.zero_add, forall_const, not_true_eq_false, not_false_eq_true, false_implies, true_implies, implies_true, Nat.zero_lt_succ, am_z0, am_z1]
  refine r_is (j := 9) (by omega) (by omega) hR hab hbn h14 h16 (fun e => ?_) (fun e => ?_)
  · rw [hl] at e
    rw [wdC_of (v := 7) (by omega) e] at hq
    try simp (disch := omega) only [hs_at, hs_put, hs_63, NH_at, NH_put, NH_cpy, ni_add, ni_mul, ni_clamp, ni_in, ni_eq, ni_lt, ni_le, ni_sub, Nat.reduceAdd, Nat.reduceMul, Nat.reduceSub, eq_self, true_implies, not_true_eq_false, false_implies, and_true, true_and, not_false_eq_true, Nat.reduceEqDiff, Nat.reduceLeDiff, Nat.reduceLT, implies_true, ite_true, ite_false]
    exact hq
  rw [hl] at e
  have n7 : l ≠ wl 7 := e
  try simp (disch := omega) only [hs_at, hs_put, hs_63, NH_at, NH_put, NH_cpy, ni_add, ni_mul, ni_clamp, ni_in, ni_eq, ni_lt, ni_le, ni_sub, Nat.reduceAdd, Nat.reduceMul, Nat.reduceSub, eq_self, true_implies, not_true_eq_false, false_implies, and_true, true_and, not_false_eq_true, Nat.reduceEqDiff, Nat.reduceLeDiff, Nat.reduceLT, implies_true, ite_true, ite_false]
  refine am_goS gX12_nameWord [36] 400 ?_
  simp only [am_eqs, am_eqk, am_eqv, lX12_nameWord_0, lX12_nameWord_1, lX12_nameWord_2, fx_ref, ↓reduceIte, List.mem_cons, List.not_mem_nil, or_false, or_self, false_or, true_and, and_true, Nat.reduceEqDiff, reduceCtorEq, List.length_cons, List.length_nil, Nat.reduceAdd, Nat.reduceLeDiff, Nat.reduceSub, Nat.reduceLT, Nat.zero_le, Nat.zero_add, forall_const, not_true_eq_false, not_false_eq_true, false_implies, true_implies, implies_true, Nat.zero_lt_succ, am_z0, am_z1]
  refine r_is (j := 10) (by omega) (by omega) hR hab hbn h14 h16 (fun e => ?_) (fun e => ?_)
  · rw [hl] at e
    rw [wdC_of (v := 8) (by omega) e] at hq
    try simp (disch := omega) only [hs_at, hs_put, hs_63, NH_at, NH_put, NH_cpy, ni_add, ni_mul, ni_clamp, ni_in, ni_eq, ni_lt, ni_le, ni_sub, Nat.reduceAdd, Nat.reduceMul, Nat.reduceSub, eq_self, true_implies, not_true_eq_false, false_implies, and_true, true_and, not_false_eq_true, Nat.reduceEqDiff, Nat.reduceLeDiff, Nat.reduceLT, implies_true, ite_true, ite_false]
    exact hq
  rw [hl] at e
  have n8 : l ≠ wl 8 := e
  try simp (disch := omega) only [hs_at, hs_put, hs_63, NH_at, NH_put, NH_cpy, ni_add, ni_mul, ni_clamp, ni_in, ni_eq, ni_lt, ni_le, ni_sub, Nat.reduceAdd, Nat.reduceMul, Nat.reduceSub, eq_self, true_implies, not_true_eq_false, false_implies, and_true, true_and, not_false_eq_true, Nat.reduceEqDiff, Nat.reduceLeDiff, Nat.reduceLT, implies_true, ite_true, ite_false]
  refine am_goS gX12_nameWord [48] 400 ?_
  simp only [am_eqs, am_eqk, am_eqv, lX12_nameWord_0, lX12_nameWord_1, lX12_nameWord_2, fx_ref, ↓reduceIte, List.mem_cons, List.not_mem_nil, or_false, or_self, false_or, true_and, and_true, Nat.reduceEqDiff, reduceCtorEq, List.length_cons, List.length_nil, Nat.reduceAdd, Nat.reduceLeDiff, Nat.reduceSub, Nat.reduceLT, Nat.zero_le, Nat.zero_add, forall_const, not_true_eq_false, not_false_eq_true, false_implies, true_implies, implies_true, Nat.zero_lt_succ, am_z0, am_z1]
  refine r_is (j := 11) (by omega) (by omega) hR hab hbn h14 h16 (fun e => ?_) (fun e => ?_)
  · rw [hl] at e
    rw [wdC_of (v := 9) (by omega) e] at hq
    try simp (disch := omega) only [hs_at, hs_put, hs_63, NH_at, NH_put, NH_cpy, ni_add, ni_mul, ni_clamp, ni_in, ni_eq, ni_lt, ni_le, ni_sub, Nat.reduceAdd, Nat.reduceMul, Nat.reduceSub, eq_self, true_implies, not_true_eq_false, false_implies, and_true, true_and, not_false_eq_true, Nat.reduceEqDiff, Nat.reduceLeDiff, Nat.reduceLT, implies_true, ite_true, ite_false]
    exact hq
  rw [hl] at e
  have n9 : l ≠ wl 9 := e
  try simp (disch := omega) only [hs_at, hs_put, hs_63, NH_at, NH_put, NH_cpy, ni_add, ni_mul, ni_clamp, ni_in, ni_eq, ni_lt, ni_le, ni_sub, Nat.reduceAdd, Nat.reduceMul, Nat.reduceSub, eq_self, true_implies, not_true_eq_false, false_implies, and_true, true_and, not_false_eq_true, Nat.reduceEqDiff, Nat.reduceLeDiff, Nat.reduceLT, implies_true, ite_true, ite_false]
  refine am_goS gX12_nameWord [60] 400 ?_
  simp only [am_eqs, am_eqk, am_eqv, lX12_nameWord_0, lX12_nameWord_1, lX12_nameWord_2, fx_ref, ↓reduceIte, List.mem_cons, List.not_mem_nil, or_false, or_self, false_or, true_and, and_true, Nat.reduceEqDiff, reduceCtorEq, List.length_cons, List.length_nil, Nat.reduceAdd, Nat.reduceLeDiff, Nat.reduceSub, Nat.reduceLT, Nat.zero_le, Nat.zero_add, forall_const, not_true_eq_false, not_false_eq_true, false_implies, true_implies, implies_true, Nat.zero_lt_succ, am_z0, am_z1]
  refine r_is (j := 12) (by omega) (by omega) hR hab hbn h14 h16 (fun e => ?_) (fun e => ?_)
  · rw [hl] at e
    rw [wdC_of (v := 10) (by omega) e] at hq
    try simp (disch := omega) only [hs_at, hs_put, hs_63, NH_at, NH_put, NH_cpy, ni_add, ni_mul, ni_clamp, ni_in, ni_eq, ni_lt, ni_le, ni_sub, Nat.reduceAdd, Nat.reduceMul, Nat.reduceSub, eq_self, true_implies, not_true_eq_false, false_implies, and_true, true_and, not_false_eq_true, Nat.reduceEqDiff, Nat.reduceLeDiff, Nat.reduceLT, implies_true, ite_true, ite_false]
    exact hq
  rw [hl] at e
  have n10 : l ≠ wl 10 := e
  try simp (disch := omega) only [hs_at, hs_put, hs_63, NH_at, NH_put, NH_cpy, ni_add, ni_mul, ni_clamp, ni_in, ni_eq, ni_lt, ni_le, ni_sub, Nat.reduceAdd, Nat.reduceMul, Nat.reduceSub, eq_self, true_implies, not_true_eq_false, false_implies, and_true, true_and, not_false_eq_true, Nat.reduceEqDiff, Nat.reduceLeDiff, Nat.reduceLT, implies_true, ite_true, ite_false]
  refine am_goS gX12_nameWord [72] 400 ?_
  simp only [am_eqs, am_eqk, am_eqv, lX12_nameWord_0, lX12_nameWord_1, lX12_nameWord_2, fx_ref, ↓reduceIte, List.mem_cons, List.not_mem_nil, or_false, or_self, false_or, true_and, and_true, Nat.reduceEqDiff, reduceCtorEq, List.length_cons, List.length_nil, Nat.reduceAdd, Nat.reduceLeDiff, Nat.reduceSub, Nat.reduceLT, Nat.zero_le, Nat.zero_add, forall_const, not_true_eq_false, not_false_eq_true, false_implies, true_implies, implies_true, Nat.zero_lt_succ, am_z0, am_z1]
  refine r_is (j := 13) (by omega) (by omega) hR hab hbn h14 h16 (fun e => ?_) (fun e => ?_)
  · rw [hl] at e
    rw [wdC_of (v := 11) (by omega) e] at hq
    try simp (disch := omega) only [hs_at, hs_put, hs_63, NH_at, NH_put, NH_cpy, ni_add, ni_mul, ni_clamp, ni_in, ni_eq, ni_lt, ni_le, ni_sub, Nat.reduceAdd, Nat.reduceMul, Nat.reduceSub, eq_self, true_implies, not_true_eq_false, false_implies, and_true, true_and, not_false_eq_true, Nat.reduceEqDiff, Nat.reduceLeDiff, Nat.reduceLT, implies_true, ite_true, ite_false]
    exact hq
  rw [hl] at e
  have n11 : l ≠ wl 11 := e
  try simp (disch := omega) only [hs_at, hs_put, hs_63, NH_at, NH_put, NH_cpy, ni_add, ni_mul, ni_clamp, ni_in, ni_eq, ni_lt, ni_le, ni_sub, Nat.reduceAdd, Nat.reduceMul, Nat.reduceSub, eq_self, true_implies, not_true_eq_false, false_implies, and_true, true_and, not_false_eq_true, Nat.reduceEqDiff, Nat.reduceLeDiff, Nat.reduceLT, implies_true, ite_true, ite_false]
  refine am_goS gX12_nameWord [84] 400 ?_
  simp only [am_eqs, am_eqk, am_eqv, lX12_nameWord_0, lX12_nameWord_1, lX12_nameWord_2, fx_ref, ↓reduceIte, List.mem_cons, List.not_mem_nil, or_false, or_self, false_or, true_and, and_true, Nat.reduceEqDiff, reduceCtorEq, List.length_cons, List.length_nil, Nat.reduceAdd, Nat.reduceLeDiff, Nat.reduceSub, Nat.reduceLT, Nat.zero_le, Nat.zero_add, forall_const, not_true_eq_false, not_false_eq_true, false_implies, true_implies, implies_true, Nat.zero_lt_succ, am_z0, am_z1]
  refine r_is (j := 14) (by omega) (by omega) hR hab hbn h14 h16 (fun e => ?_) (fun e => ?_)
  · rw [hl] at e
    rw [wdC_of (v := 12) (by omega) e] at hq
    try simp (disch := omega) only [hs_at, hs_put, hs_63, NH_at, NH_put, NH_cpy, ni_add, ni_mul, ni_clamp, ni_in, ni_eq, ni_lt, ni_le, ni_sub, Nat.reduceAdd, Nat.reduceMul, Nat.reduceSub, eq_self, true_implies, not_true_eq_false, false_implies, and_true, true_and, not_false_eq_true, Nat.reduceEqDiff, Nat.reduceLeDiff, Nat.reduceLT, implies_true, ite_true, ite_false]
    exact hq
  rw [hl] at e
  have n12 : l ≠ wl 12 := e
  try simp (disch := omega) only [hs_at, hs_put, hs_63, NH_at, NH_put, NH_cpy, ni_add, ni_mul, ni_clamp, ni_in, ni_eq, ni_lt, ni_le, ni_sub, Nat.reduceAdd, Nat.reduceMul, Nat.reduceSub, eq_self, true_implies, not_true_eq_false, false_implies, and_true, true_and, not_false_eq_true, Nat.reduceEqDiff, Nat.reduceLeDiff, Nat.reduceLT, implies_true, ite_true, ite_false]
  refine am_goS gX12_nameWord [] 400 ?_
  simp only [am_eqs, am_eqk, am_eqv, lX12_nameWord_0, lX12_nameWord_1, lX12_nameWord_2, fx_ref, ↓reduceIte, List.mem_cons, List.not_mem_nil, or_false, or_self, false_or, true_and, and_true, Nat.reduceEqDiff, reduceCtorEq, List.length_cons, List.length_nil, Nat.reduceAdd, Nat.reduceLeDiff, Nat.reduceSub, Nat.reduceLT, Nat.zero_le, Nat.zero_add, forall_const, not_true_eq_false, not_false_eq_true, false_implies, true_implies, implies_true, Nat.zero_lt_succ, am_z0, am_z1]
  refine r_is (j := 15) (by omega) (by omega) hR hab hbn h14 h16 (fun e => ?_) (fun e => ?_)
  · rw [hl] at e
    rw [wdC_of (v := 13) (by omega) e] at hq
    try simp (disch := omega) only [hs_at, hs_put, hs_63, NH_at, NH_put, NH_cpy, ni_add, ni_mul, ni_clamp, ni_in, ni_eq, ni_lt, ni_le, ni_sub, Nat.reduceAdd, Nat.reduceMul, Nat.reduceSub, eq_self, true_implies, not_true_eq_false, false_implies, and_true, true_and, not_false_eq_true, Nat.reduceEqDiff, Nat.reduceLeDiff, Nat.reduceLT, implies_true, ite_true, ite_false]
    exact hq
  rw [hl] at e
  have n13 : l ≠ wl 13 := e
  try simp (disch := omega) only [hs_at, hs_put, hs_63, NH_at, NH_put, NH_cpy, ni_add, ni_mul, ni_clamp, ni_in, ni_eq, ni_lt, ni_le, ni_sub, Nat.reduceAdd, Nat.reduceMul, Nat.reduceSub, eq_self, true_implies, not_true_eq_false, false_implies, and_true, true_and, not_false_eq_true, Nat.reduceEqDiff, Nat.reduceLeDiff, Nat.reduceLT, implies_true, ite_true, ite_false]
  have hall : ∀ v, v < 14 → l ≠ wl v := by
    intro v hv
    have : v < 6 ∨ v = 6 ∨ v = 7 ∨ v = 8 ∨ v = 9 ∨ v = 10 ∨ v = 11 ∨ v = 12 ∨ v = 13 := by omega
    rcases this with z | rfl | rfl | rfl | rfl | rfl | rfl | rfl | rfl
    · exact hno v z
    · exact n6
    · exact n7
    · exact n8
    · exact n9
    · exact n10
    · exact n11
    · exact n12
    · exact n13
  rw [wdC_no hall] at hq
  exact hq
theorem r_word {a b : Nat} (hR : RTp T n h) (hab : a ≤ b) (hbn : b ≤ n) (h14 : h 63 14 = nI b) (h16 : h 63 16 = nI a) (hq : Q (nI (rT (wdC (bts T a (b - a))))) (hs h g)) : am_C tT E (d + 6) mX12_word [.inr 63] (hs h g) Q := by
  generalize hl : bts T a (b - a) = l at hq
  refine am_C.of (by decide) (Nat.le_of_ble_eq_true rfl) ?_
  show am_R tT E _ mX12_word _ 0 [some (.inr 63)] [] (hs h g)
  refine am_goS gX12_word [11] 400 ?_
  simp only [am_eqs, am_eqk, am_eqv, lX12_word_0, lX12_word_1, fx_ref, ↓reduceIte, List.mem_cons, List.not_mem_nil, or_false, or_self, false_or, true_and, and_true, Nat.reduceEqDiff, reduceCtorEq, List.length_cons, List.length_nil, Nat.reduceAdd, Nat.reduceLeDiff, Nat.reduceSub, Nat.reduceLT, Nat.zero_le, Nat.zero_add, forall_const, not_true_eq_false, not_false_eq_true, false_implies, true_implies, implies_true, Nat.zero_lt_succ, am_z0, am_z1]
  refine r_is (j := 2) (by omega) (by omega) hR hab hbn h14 h16 (fun e => ?_) (fun e => ?_)
  · rw [hl] at e
    rw [wdC_of (v := 2) (by omega) e] at hq
    try simp (disch := omega) only [hs_at, hs_put, hs_63, NH_at, NH_put, NH_cpy, ni_add, ni_mul, ni_clamp, ni_in, ni_eq, ni_lt, ni_le, ni_sub, Nat.reduceAdd, Nat.reduceMul, Nat.reduceSub, eq_self, true_implies, not_true_eq_false, false_implies, and_true, true_and, not_false_eq_true, Nat.reduceEqDiff, Nat.reduceLeDiff, Nat.reduceLT, implies_true, ite_true, ite_false]
    exact hq
  rw [hl] at e
  have n2 : l ≠ wl 2 := e
  try simp (disch := omega) only [hs_at, hs_put, hs_63, NH_at, NH_put, NH_cpy, ni_add, ni_mul, ni_clamp, ni_in, ni_eq, ni_lt, ni_le, ni_sub, Nat.reduceAdd, Nat.reduceMul, Nat.reduceSub, eq_self, true_implies, not_true_eq_false, false_implies, and_true, true_and, not_false_eq_true, Nat.reduceEqDiff, Nat.reduceLeDiff, Nat.reduceLT, implies_true, ite_true, ite_false]
  refine am_goS gX12_word [22] 400 ?_
  simp only [am_eqs, am_eqk, am_eqv, lX12_word_0, lX12_word_1, fx_ref, ↓reduceIte, List.mem_cons, List.not_mem_nil, or_false, or_self, false_or, true_and, and_true, Nat.reduceEqDiff, reduceCtorEq, List.length_cons, List.length_nil, Nat.reduceAdd, Nat.reduceLeDiff, Nat.reduceSub, Nat.reduceLT, Nat.zero_le, Nat.zero_add, forall_const, not_true_eq_false, not_false_eq_true, false_implies, true_implies, implies_true, Nat.zero_lt_succ, am_z0, am_z1]
  refine r_is (j := 3) (by omega) (by omega) hR hab hbn h14 h16 (fun e => ?_) (fun e => ?_)
  · rw [hl] at e
    rw [wdC_of (v := 3) (by omega) e] at hq
    try simp (disch := omega) only [hs_at, hs_put, hs_63, NH_at, NH_put, NH_cpy, ni_add, ni_mul, ni_clamp, ni_in, ni_eq, ni_lt, ni_le, ni_sub, Nat.reduceAdd, Nat.reduceMul, Nat.reduceSub, eq_self, true_implies, not_true_eq_false, false_implies, and_true, true_and, not_false_eq_true, Nat.reduceEqDiff, Nat.reduceLeDiff, Nat.reduceLT, implies_true, ite_true, ite_false]
    exact hq
  rw [hl] at e
  have n3 : l ≠ wl 3 := e
  try simp (disch := omega) only [hs_at, hs_put, hs_63, NH_at, NH_put, NH_cpy, ni_add, ni_mul, ni_clamp, ni_in, ni_eq, ni_lt, ni_le, ni_sub, Nat.reduceAdd, Nat.reduceMul, Nat.reduceSub, eq_self, true_implies, not_true_eq_false, false_implies, and_true, true_and, not_false_eq_true, Nat.reduceEqDiff, Nat.reduceLeDiff, Nat.reduceLT, implies_true, ite_true, ite_false]
  refine am_goS gX12_word [33] 400 ?_
  simp only [am_eqs, am_eqk, am_eqv, lX12_word_0, lX12_word_1, fx_ref, ↓reduceIte, List.mem_cons, List.not_mem_nil, or_false, or_self, false_or, true_and, and_true, Nat.reduceEqDiff, reduceCtorEq, List.length_cons, List.length_nil, Nat.reduceAdd, Nat.reduceLeDiff, Nat.reduceSub, Nat.reduceLT, Nat.zero_le, Nat.zero_add, forall_const, not_true_eq_false, not_false_eq_true, false_implies, true_implies, implies_true, Nat.zero_lt_succ, am_z0, am_z1]
  refine r_is (j := 4) (by omega) (by omega) hR hab hbn h14 h16 (fun e => ?_) (fun e => ?_)
  · rw [hl] at e
    rw [wdC_of (v := 4) (by omega) e] at hq
    try simp (disch := omega) only [hs_at, hs_put, hs_63, NH_at, NH_put, NH_cpy, ni_add, ni_mul, ni_clamp, ni_in, ni_eq, ni_lt, ni_le, ni_sub, Nat.reduceAdd, Nat.reduceMul, Nat.reduceSub, eq_self, true_implies, not_true_eq_false, false_implies, and_true, true_and, not_false_eq_true, Nat.reduceEqDiff, Nat.reduceLeDiff, Nat.reduceLT, implies_true, ite_true, ite_false]
    exact hq
  rw [hl] at e
  have n4 : l ≠ wl 4 := e
  try simp (disch := omega) only [hs_at, hs_put, hs_63, NH_at, NH_put, NH_cpy, ni_add, ni_mul, ni_clamp, ni_in, ni_eq, ni_lt, ni_le, ni_sub, Nat.reduceAdd, Nat.reduceMul, Nat.reduceSub, eq_self, true_implies, not_true_eq_false, false_implies, and_true, true_and, not_false_eq_true, Nat.reduceEqDiff, Nat.reduceLeDiff, Nat.reduceLT, implies_true, ite_true, ite_false]
  refine am_goS gX12_word [45] 400 ?_
  simp only [am_eqs, am_eqk, am_eqv, lX12_word_0, lX12_word_1, fx_ref, ↓reduceIte, List.mem_cons, List.not_mem_nil, or_false, or_self, false_or, true_and, and_true, Nat.reduceEqDiff, reduceCtorEq, List.length_cons, List.length_nil, Nat.reduceAdd, Nat.reduceLeDiff, Nat.reduceSub, Nat.reduceLT, Nat.zero_le, Nat.zero_add, forall_const, not_true_eq_false, not_false_eq_true, false_implies, true_implies, implies_true, Nat.zero_lt_succ, am_z0, am_z1]
  refine r_is (j := 5) (by omega) (by omega) hR hab hbn h14 h16 (fun e => ?_) (fun e => ?_)
  · rw [hl] at e
    rw [wdC_of (v := 5) (by omega) e] at hq
    try simp (disch := omega) only [hs_at, hs_put, hs_63, NH_at, NH_put, NH_cpy, ni_add, ni_mul, ni_clamp, ni_in, ni_eq, ni_lt, ni_le, ni_sub, Nat.reduceAdd, Nat.reduceMul, Nat.reduceSub, eq_self, true_implies, not_true_eq_false, false_implies, and_true, true_and, not_false_eq_true, Nat.reduceEqDiff, Nat.reduceLeDiff, Nat.reduceLT, implies_true, ite_true, ite_false]
    exact hq
  rw [hl] at e
  have n5 : l ≠ wl 5 := e
  try simp (disch := omega) only [hs_at, hs_put, hs_63, NH_at, NH_put, NH_cpy, ni_add, ni_mul, ni_clamp, ni_in, ni_eq, ni_lt, ni_le, ni_sub, Nat.reduceAdd, Nat.reduceMul, Nat.reduceSub, eq_self, true_implies, not_true_eq_false, false_implies, and_true, true_and, not_false_eq_true, Nat.reduceEqDiff, Nat.reduceLeDiff, Nat.reduceLT, implies_true, ite_true, ite_false]
  refine am_goS gX12_word [57] 400 ?_
  simp only [am_eqs, am_eqk, am_eqv, lX12_word_0, lX12_word_1, fx_ref, ↓reduceIte, List.mem_cons, List.not_mem_nil, or_false, or_self, false_or, true_and, and_true, Nat.reduceEqDiff, reduceCtorEq, List.length_cons, List.length_nil, Nat.reduceAdd, Nat.reduceLeDiff, Nat.reduceSub, Nat.reduceLT, Nat.zero_le, Nat.zero_add, forall_const, not_true_eq_false, not_false_eq_true, false_implies, true_implies, implies_true, Nat.zero_lt_succ, am_z0, am_z1]
  refine r_is (j := 6) (by omega) (by omega) hR hab hbn h14 h16 (fun e => ?_) (fun e => ?_)
  · rw [hl] at e
    rw [wdC_of (v := 0) (by omega) e] at hq
    try simp (disch := omega) only [hs_at, hs_put, hs_63, NH_at, NH_put, NH_cpy, ni_add, ni_mul, ni_clamp, ni_in, ni_eq, ni_lt, ni_le, ni_sub, Nat.reduceAdd, Nat.reduceMul, Nat.reduceSub, eq_self, true_implies, not_true_eq_false, false_implies, and_true, true_and, not_false_eq_true, Nat.reduceEqDiff, Nat.reduceLeDiff, Nat.reduceLT, implies_true, ite_true, ite_false]
    exact hq
  rw [hl] at e
  have n0 : l ≠ wl 0 := e
  try simp (disch := omega) only [hs_at, hs_put, hs_63, NH_at, NH_put, NH_cpy, ni_add, ni_mul, ni_clamp, ni_in, ni_eq, ni_lt, ni_le, ni_sub, Nat.reduceAdd, Nat.reduceMul, Nat.reduceSub, eq_self, true_implies, not_true_eq_false, false_implies, and_true, true_and, not_false_eq_true, Nat.reduceEqDiff, Nat.reduceLeDiff, Nat.reduceLT, implies_true, ite_true, ite_false]
  refine am_goS gX12_word [] 400 ?_
  simp only [am_eqs, am_eqk, am_eqv, lX12_word_0, lX12_word_1, fx_ref, ↓reduceIte, List.mem_cons, List.not_mem_nil, or_false, or_self, false_or, true_and, and_true, Nat.reduceEqDiff, reduceCtorEq, List.length_cons, List.length_nil, Nat.reduceAdd, Nat.reduceLeDiff, Nat.reduceSub, Nat.reduceLT, Nat.zero_le, Nat.zero_add, forall_const, not_true_eq_false, not_false_eq_true, false_implies, true_implies, implies_true, Nat.zero_lt_succ, am_z0, am_z1]
  refine r_is (j := 7) (by omega) (by omega) hR hab hbn h14 h16 (fun e => ?_) (fun e => ?_)
  · rw [hl] at e
    rw [wdC_of (v := 1) (by omega) e] at hq
    try simp (disch := omega) only [hs_at, hs_put, hs_63, NH_at, NH_put, NH_cpy, ni_add, ni_mul, ni_clamp, ni_in, ni_eq, ni_lt, ni_le, ni_sub, Nat.reduceAdd, Nat.reduceMul, Nat.reduceSub, eq_self, true_implies, not_true_eq_false, false_implies, and_true, true_and, not_false_eq_true, Nat.reduceEqDiff, Nat.reduceLeDiff, Nat.reduceLT, implies_true, ite_true, ite_false]
    exact hq
  rw [hl] at e
  have n1 : l ≠ wl 1 := e
  try simp (disch := omega) only [hs_at, hs_put, hs_63, NH_at, NH_put, NH_cpy, ni_add, ni_mul, ni_clamp, ni_in, ni_eq, ni_lt, ni_le, ni_sub, Nat.reduceAdd, Nat.reduceMul, Nat.reduceSub, eq_self, true_implies, not_true_eq_false, false_implies, and_true, true_and, not_false_eq_true, Nat.reduceEqDiff, Nat.reduceLeDiff, Nat.reduceLT, implies_true, ite_true, ite_false]
  refine r_nameWord hR hab hbn h14 h16 (fun v hv => ?_) (by rw [hl]; exact hq)
  rw [hl]
  have : v = 0 ∨ v = 1 ∨ v = 2 ∨ v = 3 ∨ v = 4 ∨ v = 5 := by omega
  rcases this with rfl | rfl | rfl | rfl | rfl | rfl
  · exact n0
  · exact n1
  · exact n2
  · exact n3
  · exact n4
  · exact n5
theorem r_next0 {a i v : Nat} (hR : RTp T n h) (h14 : h 63 14 = nI a) (han : a ≤ n) (hpos : POS T n i = stE isW T n a) (h17 : h 63 17 = nI v) (hv : v ≤ 9999) (hq : ∀ h' : am_H, RS T n i h' → (∀ o, o ≠ 63 → h' o = h o) → (∀ k, k < 14 ∨ 17 < k → h' 63 k = h 63 k) → Q 0 (hs h' g)) : am_C tT E (d + 7) mX12_next0 [.inr 63] (hs h g) Q := by
  have hn := hR.2.1
  have ht256 := hR.2.2.2
  have hrt : ∀ h1 : am_H, (∀ o, o ≠ 63 → h1 o = h o) → (∀ k, k < 14 ∨ 17 < k → h1 63 k = h 63 k) → RTp T n h1 := fun h1 f1 f2 => ⟨by rw [f2 13 (by omega)]; exact hR.1, hn, fun k hk => by rw [f1 70 (by omega)]; exact hR.2.2.1 k hk, ht256⟩
  have hup : ∀ (h1 : am_H) (k : Nat) (v : Int32), 14 ≤ k → k ≤ 17 → (∀ o, o ≠ 63 → h1 o = h o) → (∀ k, k < 14 ∨ 17 < k → h1 63 k = h 63 k) → (∀ o, o ≠ 63 → am_upd h1 63 k v o = h o) ∧ (∀ j, j < 14 ∨ 17 < j → am_upd h1 63 k v 63 j = h 63 j) := by
    intro h1 k v hk1 hk2 f1 f2
    refine ⟨fun o ho => by rw [am_upd_ne _ _ _ ho]; exact f1 o ho, fun j hj => ?_⟩
    rw [am_upd_self]
    simp only [upd, if_neg (show ¬ j = k by omega)]
    exact f2 j hj
  have hslot : ∀ (h1 : am_H) (k j : Nat) (v : Int32), am_upd h1 63 k v 63 j = if j = k then v else h1 63 j := fun h1 k j v => by rw [am_upd_self]; rfl
  have hpb := POS_b (T := T) (n := n) i
  -- from the token's first sign on
  have main : ∀ h1 : am_H, (∀ o, o ≠ 63 → h1 o = h o) → (∀ k, k < 14 ∨ 17 < k → h1 63 k = h 63 k) → h1 63 14 = nI (POS T n i) → h1 63 17 = nI v → am_R tT E (d + 7) mX12_next0 Q 39 [some (.inr 63), none, none] [] (hs h1 g) := by
    intro h1 f1 f2 e14 e17
    have hr1 := hrt h1 f1 f2
    -- the last look: all is laid out
    have fin : ∀ h2 : am_H, (∀ o, o ≠ 63 → h2 o = h o) → (∀ k, k < 14 ∨ 17 < k → h2 63 k = h 63 k) → h2 63 14 = nI (enC T n (POS T n i)) → h2 63 16 = nI (POS T n i) → h2 63 15 = nI (rT (TK T n i)) → (∃ v, v ≤ 9999 ∧ h2 63 17 = nI v ∧ (TK T n i < 10000 → v = TK T n i)) → Q 0 (hs h2 g) := fun h2 u1 u2 k14 k16 k15 k17 => hq h2 ⟨hrt h2 u1 u2, k14, k15, k16, k17⟩ u1 u2
    obtain ⟨a1, a2⟩ := hup h1 16 (nI (POS T n i)) (by omega) (by omega) f1 f2
    have k14 : am_upd h1 63 16 (nI (POS T n i)) 63 14 = nI (POS T n i) := by rw [hslot, if_neg (by omega)]; exact e14
    have k16 : am_upd h1 63 16 (nI (POS T n i)) 63 16 = nI (POS T n i) := by rw [hslot, if_pos rfl]
    have k17 : am_upd h1 63 16 (nI (POS T n i)) 63 17 = nI v := by rw [hslot, if_neg (by omega)]; exact e17
    refine am_goS gX12_next0 [76, 126, 224] 400 ?_
    simp only [am_eqs, am_eqk, am_eqv, lX12_next0_0, lX12_next0_1, lX12_next0_2, lX12_next0_3, lX12_next0_4, lX12_next0_5, lX12_next0_6, fx_ref, ↓reduceIte, List.mem_cons, List.not_mem_nil, or_false, or_self, false_or, true_and, and_true, Nat.reduceEqDiff, reduceCtorEq, List.length_cons, List.length_nil, Nat.reduceAdd, Nat.reduceLeDiff, Nat.reduceSub, Nat.reduceLT, Nat.zero_le, Nat.zero_add, forall_const, not_true_eq_false, not_false_eq_true, false_implies, true_implies, implies_true, Nat.zero_lt_succ, am_z0, am_z1]
    try simp (disch := omega) only [hs_at, hs_put, hs_63, NH_at, NH_put, NH_cpy, ni_add, ni_mul, ni_clamp, ni_in, ni_eq, ni_lt, ni_le, ni_sub, Nat.reduceAdd, Nat.reduceMul, Nat.reduceSub, eq_self, true_implies, not_true_eq_false, false_implies, and_true, true_and, not_false_eq_true, Nat.reduceEqDiff, Nat.reduceLeDiff, Nat.reduceLT, implies_true, ite_true, ite_false, hs_63, e14, hs_up63]
    generalize am_upd h1 63 16 (nI (POS T n i)) = h2 at a1 a2 k14 k16 k17
    have hr2 := hrt h2 a1 a2
    try simp (disch := omega) only [hs_at, hs_put, hs_63, NH_at, NH_put, NH_cpy, ni_add, ni_mul, ni_clamp, ni_in, ni_eq, ni_lt, ni_le, ni_sub, Nat.reduceAdd, Nat.reduceMul, Nat.reduceSub, eq_self, true_implies, not_true_eq_false, false_implies, and_true, true_and, not_false_eq_true, Nat.reduceEqDiff, Nat.reduceLeDiff, Nat.reduceLT, implies_true, ite_true, ite_false, k14]
    refine r_see hr2 (by omega) (fun hlt => ?_) (fun hge => ?_)
    · have h256 := ht256 (POS T n i) hlt
      have eTK : TK T n i = cif (isL (T (POS T n i))) (wdC (bts T (POS T n i) (stE isL T n (POS T n i) - POS T n i))) (cif (isD (T (POS T n i))) (if 4 < stE isD T n (POS T n i) - POS T n i then tBAD else nuV T (POS T n i) (stE isD T n (POS T n i) - POS T n i)) (cif (isS (T (POS T n i))) (20000 + T (POS T n i)) tBAD)) := by
        unfold TK tkC
        rw [if_neg (by omega)]
      have eEN : enC T n (POS T n i) = cif (isL (T (POS T n i))) (stE isL T n (POS T n i)) (cif (isD (T (POS T n i))) (stE isD T n (POS T n i)) (POS T n i + 1)) := by
        unfold enC
        rw [if_neg (by omega)]
      generalize hP : POS T n i = P at *
      generalize hc : T P = cc at h256
      try simp (disch := omega) only [hs_at, hs_put, hs_63, NH_at, NH_put, NH_cpy, ni_add, ni_mul, ni_clamp, ni_in, ni_eq, ni_lt, ni_le, ni_sub, Nat.reduceAdd, Nat.reduceMul, Nat.reduceSub, eq_self, true_implies, not_true_eq_false, false_implies, and_true, true_and, not_false_eq_true, Nat.reduceEqDiff, Nat.reduceLeDiff, Nat.reduceLT, implies_true, ite_true, ite_false, ni_m1]
      refine ⟨fun z => absurd z (by omega), fun _ => ?_⟩
      refine r_isLetter (fun y => ?_) (fun y => ?_)
      · -- a word
        rw [isL_ni h256, ← hc] at y
        rw [cif_pos y] at eTK eEN
        have hse := stE_le (P := isL) (T := T) (n := n) (a := P) (by omega)
        generalize hee : stE isL T n P = ee at eTK eEN hse
        try simp (disch := omega) only [hs_at, hs_put, hs_63, NH_at, NH_put, NH_cpy, ni_add, ni_mul, ni_clamp, ni_in, ni_eq, ni_lt, ni_le, ni_sub, Nat.reduceAdd, Nat.reduceMul, Nat.reduceSub, eq_self, true_implies, not_true_eq_false, false_implies, and_true, true_and, not_false_eq_true, Nat.reduceEqDiff, Nat.reduceLeDiff, Nat.reduceLT, implies_true, ite_true, ite_false]
        have lloop : ∀ m a' (h3 : am_H), a' + m = n → P ≤ a' → stE isL T n a' = ee → (∀ o, o ≠ 63 → h3 o = h o) → (∀ k, k < 14 ∨ 17 < k → h3 63 k = h 63 k) → h3 63 14 = nI a' → h3 63 16 = nI P → h3 63 17 = nI v → am_R tT E (d + 7) mX12_next0 Q 76 [some (.inr 63), some (.inl (nI cc)), none] [] (hs h3 g) := by
          have wexit : ∀ (h3 : am_H), (∀ o, o ≠ 63 → h3 o = h o) → (∀ k, k < 14 ∨ 17 < k → h3 63 k = h 63 k) → h3 63 14 = nI ee → h3 63 16 = nI P → h3 63 17 = nI v → am_R tT E (d + 7) mX12_next0 Q 103 [some (.inr 63), some (.inl (nI cc)), none] [] (hs h3 g) := by
            intro h3 u1 u2 j14 j16 j17
            refine am_goS gX12_next0 [] 400 ?_
            simp only [am_eqs, am_eqk, am_eqv, lX12_next0_0, lX12_next0_1, lX12_next0_2, lX12_next0_3, lX12_next0_4, lX12_next0_5, lX12_next0_6, fx_ref, ↓reduceIte, List.mem_cons, List.not_mem_nil, or_false, or_self, false_or, true_and, and_true, Nat.reduceEqDiff, reduceCtorEq, List.length_cons, List.length_nil, Nat.reduceAdd, Nat.reduceLeDiff, Nat.reduceSub, Nat.reduceLT, Nat.zero_le, Nat.zero_add, forall_const, not_true_eq_false, not_false_eq_true, false_implies, true_implies, implies_true, Nat.zero_lt_succ, am_z0, am_z1]
            refine r_word (hrt h3 u1 u2) hse.1 hse.2.1 j14 j16 ?_
            try simp (disch := omega) only [hs_at, hs_put, hs_63, NH_at, NH_put, NH_cpy, ni_add, ni_mul, ni_clamp, ni_in, ni_eq, ni_lt, ni_le, ni_sub, Nat.reduceAdd, Nat.reduceMul, Nat.reduceSub, eq_self, true_implies, not_true_eq_false, false_implies, and_true, true_and, not_false_eq_true, Nat.reduceEqDiff, Nat.reduceLeDiff, Nat.reduceLT, implies_true, ite_true, ite_false, hs_up63]
            obtain ⟨b1, b2⟩ := hup h3 15 (nI (rT (wdC (bts T P (ee - P))))) (by omega) (by omega) u1 u2
            refine fin _ b1 b2 ?_ ?_ ?_ ⟨v, hv, ?_, fun z => ?_⟩
            · rw [hslot, if_neg (by omega), eEN]; exact j14
            · rw [hslot, if_neg (by omega)]; exact j16
            · rw [hslot, if_pos rfl, eTK]
            · rw [hslot, if_neg (by omega)]; exact j17
            · exfalso
              rw [eTK] at z
              rcases wdC_cases (bts T P (ee - P)) with ⟨w, hw, -, e⟩ | ⟨-, e⟩
              · rw [e] at z; omega
              · rw [e] at z; unfold tBAD at z; omega
          intro m
          induction m with
          | zero =>
            intro a' h3 ha hpa hst u1 u2 j14 j16 j17
            rw [stE_no (fun z => absurd z (by omega))] at hst
            refine am_goS gX12_next0 [76, 103] 400 ?_
            simp only [am_eqs, am_eqk, am_eqv, lX12_next0_0, lX12_next0_1, lX12_next0_2, lX12_next0_3, lX12_next0_4, lX12_next0_5, lX12_next0_6, fx_ref, ↓reduceIte, List.mem_cons, List.not_mem_nil, or_false, or_self, false_or, true_and, and_true, Nat.reduceEqDiff, reduceCtorEq, List.length_cons, List.length_nil, Nat.reduceAdd, Nat.reduceLeDiff, Nat.reduceSub, Nat.reduceLT, Nat.zero_le, Nat.zero_add, forall_const, not_true_eq_false, not_false_eq_true, false_implies, true_implies, implies_true, Nat.zero_lt_succ, am_z0, am_z1]
            try simp (disch := omega) only [hs_at, hs_put, hs_63, NH_at, NH_put, NH_cpy, ni_add, ni_mul, ni_clamp, ni_in, ni_eq, ni_lt, ni_le, ni_sub, Nat.reduceAdd, Nat.reduceMul, Nat.reduceSub, eq_self, true_implies, not_true_eq_false, false_implies, and_true, true_and, not_false_eq_true, Nat.reduceEqDiff, Nat.reduceLeDiff, Nat.reduceLT, implies_true, ite_true, ite_false, hs_63, j14]
            refine r_see (hrt h3 u1 u2) (by omega) (fun z => absurd z (by omega)) (fun _ => ?_)
            refine r_isLetter (fun y => absurd y isL_m1) (fun y => ?_)
            try simp (disch := omega) only [hs_at, hs_put, hs_63, NH_at, NH_put, NH_cpy, ni_add, ni_mul, ni_clamp, ni_in, ni_eq, ni_lt, ni_le, ni_sub, Nat.reduceAdd, Nat.reduceMul, Nat.reduceSub, eq_self, true_implies, not_true_eq_false, false_implies, and_true, true_and, not_false_eq_true, Nat.reduceEqDiff, Nat.reduceLeDiff, Nat.reduceLT, implies_true, ite_true, ite_false]
            exact wexit h3 u1 u2 (by rw [j14, hst]) j16 j17
          | succ m ih =>
            intro a' h3 ha hpa hst u1 u2 j14 j16 j17
            have h256' := ht256 a' (by omega)
            refine am_goS gX12_next0 [76, 103] 400 ?_
            simp only [am_eqs, am_eqk, am_eqv, lX12_next0_0, lX12_next0_1, lX12_next0_2, lX12_next0_3, lX12_next0_4, lX12_next0_5, lX12_next0_6, fx_ref, ↓reduceIte, List.mem_cons, List.not_mem_nil, or_false, or_self, false_or, true_and, and_true, Nat.reduceEqDiff, reduceCtorEq, List.length_cons, List.length_nil, Nat.reduceAdd, Nat.reduceLeDiff, Nat.reduceSub, Nat.reduceLT, Nat.zero_le, Nat.zero_add, forall_const, not_true_eq_false, not_false_eq_true, false_implies, true_implies, implies_true, Nat.zero_lt_succ, am_z0, am_z1]
            try simp (disch := omega) only [hs_at, hs_put, hs_63, NH_at, NH_put, NH_cpy, ni_add, ni_mul, ni_clamp, ni_in, ni_eq, ni_lt, ni_le, ni_sub, Nat.reduceAdd, Nat.reduceMul, Nat.reduceSub, eq_self, true_implies, not_true_eq_false, false_implies, and_true, true_and, not_false_eq_true, Nat.reduceEqDiff, Nat.reduceLeDiff, Nat.reduceLT, implies_true, ite_true, ite_false, hs_63, j14]
            refine r_see (hrt h3 u1 u2) (by omega) (fun _ => ?_) (fun z => absurd z (by omega))
            refine r_isLetter (fun y => ?_) (fun y => ?_)
            · rw [isL_ni h256'] at y
              try simp (disch := omega) only [hs_at, hs_put, hs_63, NH_at, NH_put, NH_cpy, ni_add, ni_mul, ni_clamp, ni_in, ni_eq, ni_lt, ni_le, ni_sub, Nat.reduceAdd, Nat.reduceMul, Nat.reduceSub, eq_self, true_implies, not_true_eq_false, false_implies, and_true, true_and, not_false_eq_true, Nat.reduceEqDiff, Nat.reduceLeDiff, Nat.reduceLT, implies_true, ite_true, ite_false, hs_63, j14, hs_up63]
              obtain ⟨b1, b2⟩ := hup h3 14 (nI (a' + 1)) (by omega) (by omega) u1 u2
              refine ih (a' + 1) _ (by omega) (by omega) (by rw [← stE_yes (by omega) y]; exact hst) b1 b2 ?_ ?_ ?_
              · rw [hslot, if_pos rfl]
              · rw [hslot, if_neg (by omega)]; exact j16
              · rw [hslot, if_neg (by omega)]; exact j17
            · rw [isL_ni h256'] at y
              try simp (disch := omega) only [hs_at, hs_put, hs_63, NH_at, NH_put, NH_cpy, ni_add, ni_mul, ni_clamp, ni_in, ni_eq, ni_lt, ni_le, ni_sub, Nat.reduceAdd, Nat.reduceMul, Nat.reduceSub, eq_self, true_implies, not_true_eq_false, false_implies, and_true, true_and, not_false_eq_true, Nat.reduceEqDiff, Nat.reduceLeDiff, Nat.reduceLT, implies_true, ite_true, ite_false]
              rw [stE_no (fun _ => y)] at hst
              exact wexit h3 u1 u2 (by rw [j14, hst]) j16 j17
        exact lloop (n - P) P h2 (by omega) (Nat.le_refl _) hee a1 a2 k14 k16 k17
      · rw [isL_ni h256, ← hc] at y
        rw [cif_neg y] at eTK eEN
        try simp (disch := omega) only [hs_at, hs_put, hs_63, NH_at, NH_put, NH_cpy, ni_add, ni_mul, ni_clamp, ni_in, ni_eq, ni_lt, ni_le, ni_sub, Nat.reduceAdd, Nat.reduceMul, Nat.reduceSub, eq_self, true_implies, not_true_eq_false, false_implies, and_true, true_and, not_false_eq_true, Nat.reduceEqDiff, Nat.reduceLeDiff, Nat.reduceLT, implies_true, ite_true, ite_false]
        refine r_isDigit (fun y2 => ?_) (fun y2 => ?_)
        · -- a number
          rw [isD_ni h256, ← hc] at y2
          rw [cif_pos y2] at eTK eEN
          have hse := stE_le (P := isD) (T := T) (n := n) (a := P) (by omega)
          generalize hee : stE isD T n P = ee at eTK eEN hse
          try simp (disch := omega) only [hs_at, hs_put, hs_63, NH_at, NH_put, NH_cpy, ni_add, ni_mul, ni_clamp, ni_in, ni_eq, ni_lt, ni_le, ni_sub, Nat.reduceAdd, Nat.reduceMul, Nat.reduceSub, eq_self, true_implies, not_true_eq_false, false_implies, and_true, true_and, not_false_eq_true, Nat.reduceEqDiff, Nat.reduceLeDiff, Nat.reduceLT, implies_true, ite_true, ite_false, hs_up63]
          have nv : ∀ k, P + k ≤ ee → k ≤ 4 → nuV T P k ≤ 9999 := by
            intro k hk h4
            have h5 := nuV_lt (T := T) (a := P) k (fun q hq => (hse.2.2.1 _ (by omega) (by omega)).2)
            have h6 : 10 ^ k ≤ 10 ^ 4 := Nat.pow_le_pow_right (by omega) h4
            omega
          have dloop : ∀ m a' (h3 : am_H), a' + m = n → P ≤ a' → a' ≤ ee → stE isD T n a' = ee → (∀ o, o ≠ 63 → h3 o = h o) → (∀ k, k < 14 ∨ 17 < k → h3 63 k = h 63 k) → h3 63 14 = nI a' → h3 63 16 = nI P → h3 63 17 = nI (nuV T P (if a' - P ≤ 4 then a' - P else 4)) → am_R tT E (d + 7) mX12_next0 Q 126 [some (.inr 63), some (.inl (nI cc)), none] [] (hs h3 g) := by
            have dexit : ∀ (h3 : am_H), (∀ o, o ≠ 63 → h3 o = h o) → (∀ k, k < 14 ∨ 17 < k → h3 63 k = h 63 k) → h3 63 14 = nI ee → h3 63 16 = nI P → h3 63 17 = nI (nuV T P (if ee - P ≤ 4 then ee - P else 4)) → am_R tT E (d + 7) mX12_next0 Q 189 [some (.inr 63), some (.inl (nI cc)), none] [] (hs h3 g) := by
              intro h3 u1 u2 j14 j16 j17
              have fin2 : ∀ x : Nat, x = (if ee - P < 5 then 2 else 1) → Q 0 (hs (am_upd h3 63 15 (nI x)) g) := by
                intro x hx
                obtain ⟨b1, b2⟩ := hup h3 15 (nI x) (by omega) (by omega) u1 u2
                refine fin _ b1 b2 ?_ ?_ ?_ ?_
                · rw [hslot, if_neg (by omega), eEN]; exact j14
                · rw [hslot, if_neg (by omega)]; exact j16
                · rw [hslot, if_pos rfl, eTK, hx]
                  by_cases q : 4 < ee - P
                  · rw [if_pos q, if_neg (by omega)]; rfl
                  · have := nv (ee - P) (by omega) (by omega)
                    rw [if_neg q, if_pos (by omega), rT, if_pos (by omega)]
                · by_cases q : 4 < ee - P
                  · rw [if_neg (by omega)] at j17
                    refine ⟨_, nv 4 (by omega) (by omega), by rw [hslot, if_neg (by omega)]; exact j17, fun z => ?_⟩
                    rw [eTK, if_pos q] at z
                    unfold tBAD at z
                    omega
                  · rw [if_pos (by omega)] at j17
                    refine ⟨_, nv (ee - P) (by omega) (by omega), by rw [hslot, if_neg (by omega)]; exact j17, fun z => ?_⟩
                    rw [eTK, if_neg q]
              refine am_goS gX12_next0 [] 400 ?_
              simp only [am_eqs, am_eqk, am_eqv, lX12_next0_0, lX12_next0_1, lX12_next0_2, lX12_next0_3, lX12_next0_4, lX12_next0_5, lX12_next0_6, fx_ref, ↓reduceIte, List.mem_cons, List.not_mem_nil, or_false, or_self, false_or, true_and, and_true, Nat.reduceEqDiff, reduceCtorEq, List.length_cons, List.length_nil, Nat.reduceAdd, Nat.reduceLeDiff, Nat.reduceSub, Nat.reduceLT, Nat.zero_le, Nat.zero_add, forall_const, not_true_eq_false, not_false_eq_true, false_implies, true_implies, implies_true, Nat.zero_lt_succ, am_z0, am_z1]
              try simp (disch := omega) only [hs_at, hs_put, hs_63, NH_at, NH_put, NH_cpy, ni_add, ni_mul, ni_clamp, ni_in, ni_eq, ni_lt, ni_le, ni_sub, Nat.reduceAdd, Nat.reduceMul, Nat.reduceSub, eq_self, true_implies, not_true_eq_false, false_implies, and_true, true_and, not_false_eq_true, Nat.reduceEqDiff, Nat.reduceLeDiff, Nat.reduceLT, implies_true, ite_true, ite_false, hs_63, j14, j16, hs_up63]
              refine ⟨fun z => ?_, fun z => ?_⟩
              · exact fin2 1 (by rw [if_neg (by omega)])
              · exact fin2 2 (by rw [if_pos (by omega)])
            intro m
            induction m with
            | zero =>
              intro a' h3 ha hpa hae hst u1 u2 j14 j16 j17
              rw [stE_no (fun z => absurd z (by omega))] at hst
              refine am_goS gX12_next0 [126, 189] 400 ?_
              simp only [am_eqs, am_eqk, am_eqv, lX12_next0_0, lX12_next0_1, lX12_next0_2, lX12_next0_3, lX12_next0_4, lX12_next0_5, lX12_next0_6, fx_ref, ↓reduceIte, List.mem_cons, List.not_mem_nil, or_false, or_self, false_or, true_and, and_true, Nat.reduceEqDiff, reduceCtorEq, List.length_cons, List.length_nil, Nat.reduceAdd, Nat.reduceLeDiff, Nat.reduceSub, Nat.reduceLT, Nat.zero_le, Nat.zero_add, forall_const, not_true_eq_false, not_false_eq_true, false_implies, true_implies, implies_true, Nat.zero_lt_succ, am_z0, am_z1]
              try simp (disch := omega) only [hs_at, hs_put, hs_63, NH_at, NH_put, NH_cpy, ni_add, ni_mul, ni_clamp, ni_in, ni_eq, ni_lt, ni_le, ni_sub, Nat.reduceAdd, Nat.reduceMul, Nat.reduceSub, eq_self, true_implies, not_true_eq_false, false_implies, and_true, true_and, not_false_eq_true, Nat.reduceEqDiff, Nat.reduceLeDiff, Nat.reduceLT, implies_true, ite_true, ite_false, hs_63, j14]
              refine r_see (hrt h3 u1 u2) (by omega) (fun z => absurd z (by omega)) (fun _ => ?_)
              refine r_isDigit (fun y => absurd y isD_m1) (fun y => ?_)
              try simp (disch := omega) only [hs_at, hs_put, hs_63, NH_at, NH_put, NH_cpy, ni_add, ni_mul, ni_clamp, ni_in, ni_eq, ni_lt, ni_le, ni_sub, Nat.reduceAdd, Nat.reduceMul, Nat.reduceSub, eq_self, true_implies, not_true_eq_false, false_implies, and_true, true_and, not_false_eq_true, Nat.reduceEqDiff, Nat.reduceLeDiff, Nat.reduceLT, implies_true, ite_true, ite_false]
              subst hst
              exact dexit h3 u1 u2 j14 j16 j17
            | succ m ih =>
              intro a' h3 ha hpa hae hst u1 u2 j14 j16 j17
              have h256' := ht256 a' (by omega)
              have hr3 := hrt h3 u1 u2
              refine am_goS gX12_next0 [126, 189] 400 ?_
              simp only [am_eqs, am_eqk, am_eqv, lX12_next0_0, lX12_next0_1, lX12_next0_2, lX12_next0_3, lX12_next0_4, lX12_next0_5, lX12_next0_6, fx_ref, ↓reduceIte, List.mem_cons, List.not_mem_nil, or_false, or_self, false_or, true_and, and_true, Nat.reduceEqDiff, reduceCtorEq, List.length_cons, List.length_nil, Nat.reduceAdd, Nat.reduceLeDiff, Nat.reduceSub, Nat.reduceLT, Nat.zero_le, Nat.zero_add, forall_const, not_true_eq_false, not_false_eq_true, false_implies, true_implies, implies_true, Nat.zero_lt_succ, am_z0, am_z1]
              try simp (disch := omega) only [hs_at, hs_put, hs_63, NH_at, NH_put, NH_cpy, ni_add, ni_mul, ni_clamp, ni_in, ni_eq, ni_lt, ni_le, ni_sub, Nat.reduceAdd, Nat.reduceMul, Nat.reduceSub, eq_self, true_implies, not_true_eq_false, false_implies, and_true, true_and, not_false_eq_true, Nat.reduceEqDiff, Nat.reduceLeDiff, Nat.reduceLT, implies_true, ite_true, ite_false, hs_63, j14]
              refine r_see hr3 (by omega) (fun _ => ?_) (fun z => absurd z (by omega))
              refine r_isDigit (fun y => ?_) (fun y => ?_)
              · rw [isD_ni h256'] at y
                have hst' := hst
                rw [stE_yes (by omega) y] at hst'
                have hae' := (stE_le (P := isD) (T := T) (n := n) (a := a' + 1) (by omega)).1
                rw [hst'] at hae'
                try simp (disch := omega) only [hs_at, hs_put, hs_63, NH_at, NH_put, NH_cpy, ni_add, ni_mul, ni_clamp, ni_in, ni_eq, ni_lt, ni_le, ni_sub, Nat.reduceAdd, Nat.reduceMul, Nat.reduceSub, eq_self, true_implies, not_true_eq_false, false_implies, and_true, true_and, not_false_eq_true, Nat.reduceEqDiff, Nat.reduceLeDiff, Nat.reduceLT, implies_true, ite_true, ite_false, hs_63, j14, j16, hs_up63]
                refine ⟨fun q => ?_, fun q => ?_⟩
                · obtain ⟨b1, b2⟩ := hup h3 14 (nI (a' + 1)) (by omega) (by omega) u1 u2
                  refine ih (a' + 1) _ (by omega) (by omega) hae' hst' b1 b2 ?_ ?_ ?_
                  · rw [hslot, if_pos rfl]
                  · rw [hslot, if_neg (by omega)]; exact j16
                  · rw [hslot, if_neg (by omega), if_neg (by omega)]
                    by_cases q4 : a' - P ≤ 4
                    · rw [if_pos q4, show a' - P = 4 by omega] at j17; exact j17
                    · rw [if_neg q4] at j17; exact j17
                · rw [if_pos (by omega)] at j17
                  have hnv := nv (a' - P) (by omega) (by omega)
                  try simp (disch := omega) only [hs_at, hs_put, hs_63, NH_at, NH_put, NH_cpy, ni_add, ni_mul, ni_clamp, ni_in, ni_eq, ni_lt, ni_le, ni_sub, Nat.reduceAdd, Nat.reduceMul, Nat.reduceSub, eq_self, true_implies, not_true_eq_false, false_implies, and_true, true_and, not_false_eq_true, Nat.reduceEqDiff, Nat.reduceLeDiff, Nat.reduceLT, implies_true, ite_true, ite_false, j17]
                  refine r_see hr3 (by omega) (fun _ => ?_) (fun z => absurd z (by omega))
                  have y48 := y.1
                  try simp (disch := omega) only [hs_at, hs_put, hs_63, NH_at, NH_put, NH_cpy, ni_add, ni_mul, ni_clamp, ni_in, ni_eq, ni_lt, ni_le, ni_sub, Nat.reduceAdd, Nat.reduceMul, Nat.reduceSub, eq_self, true_implies, not_true_eq_false, false_implies, and_true, true_and, not_false_eq_true, Nat.reduceEqDiff, Nat.reduceLeDiff, Nat.reduceLT, implies_true, ite_true, ite_false, hs_up63]
                  have ev : 10 * nuV T P (a' - P) + T a' - 48 = nuV T P (a' + 1 - P) := by
                    rw [show a' + 1 - P = (a' - P) + 1 by omega, nuV, show P + (a' - P) = a' by omega]
                    omega
                  rw [ev]
                  obtain ⟨b1, b2⟩ := hup h3 17 (nI (nuV T P (a' + 1 - P))) (by omega) (by omega) u1 u2
                  have b14 : am_upd h3 63 17 (nI (nuV T P (a' + 1 - P))) 63 14 = nI a' := by rw [hslot, if_neg (by omega)]; exact j14
                  try simp (disch := omega) only [hs_at, hs_put, hs_63, NH_at, NH_put, NH_cpy, ni_add, ni_mul, ni_clamp, ni_in, ni_eq, ni_lt, ni_le, ni_sub, Nat.reduceAdd, Nat.reduceMul, Nat.reduceSub, eq_self, true_implies, not_true_eq_false, false_implies, and_true, true_and, not_false_eq_true, Nat.reduceEqDiff, Nat.reduceLeDiff, Nat.reduceLT, implies_true, ite_true, ite_false, hs_63, b14, hs_up63]
                  obtain ⟨c1, c2⟩ := hup _ 14 (nI (a' + 1)) (by omega) (by omega) b1 b2
                  refine ih (a' + 1) _ (by omega) (by omega) hae' hst' c1 c2 ?_ ?_ ?_
                  · rw [hslot, if_pos rfl]
                  · rw [hslot, if_neg (by omega), hslot, if_neg (by omega)]; exact j16
                  · rw [hslot, if_neg (by omega), hslot, if_pos rfl, if_pos (by omega)]
              · rw [isD_ni h256'] at y
                try simp (disch := omega) only [hs_at, hs_put, hs_63, NH_at, NH_put, NH_cpy, ni_add, ni_mul, ni_clamp, ni_in, ni_eq, ni_lt, ni_le, ni_sub, Nat.reduceAdd, Nat.reduceMul, Nat.reduceSub, eq_self, true_implies, not_true_eq_false, false_implies, and_true, true_and, not_false_eq_true, Nat.reduceEqDiff, Nat.reduceLeDiff, Nat.reduceLT, implies_true, ite_true, ite_false]
                rw [stE_no (fun _ => y)] at hst
                subst hst
                exact dexit h3 u1 u2 j14 j16 j17
          obtain ⟨b1, b2⟩ := hup h2 17 (nI 0) (by omega) (by omega) a1 a2
          refine dloop (n - P) P _ (by omega) (Nat.le_refl _) hse.1 hee b1 b2 ?_ ?_ ?_
          · rw [hslot, if_neg (by omega)]; exact k14
          · rw [hslot, if_neg (by omega)]; exact k16
          · rw [hslot, if_pos rfl, Nat.sub_self, if_pos (by omega)]; rfl
        · -- a sign, or bad
          rw [isD_ni h256, ← hc] at y2
          rw [cif_neg y2, hc] at eTK
          rw [cif_neg y2] at eEN
          try simp (disch := omega) only [hs_at, hs_put, hs_63, NH_at, NH_put, NH_cpy, ni_add, ni_mul, ni_clamp, ni_in, ni_eq, ni_lt, ni_le, ni_sub, Nat.reduceAdd, Nat.reduceMul, Nat.reduceSub, eq_self, true_implies, not_true_eq_false, false_implies, and_true, true_and, not_false_eq_true, Nat.reduceEqDiff, Nat.reduceLeDiff, Nat.reduceLT, implies_true, ite_true, ite_false, hs_63, k14, hs_up63]
          obtain ⟨b1, b2⟩ := hup h2 14 (nI (P + 1)) (by omega) (by omega) a1 a2
          have b14 : am_upd h2 63 14 (nI (P + 1)) 63 14 = nI (P + 1) := by rw [hslot, if_pos rfl]
          have b16 : am_upd h2 63 14 (nI (P + 1)) 63 16 = nI P := by rw [hslot, if_neg (by omega)]; exact k16
          have b17 : am_upd h2 63 14 (nI (P + 1)) 63 17 = nI v := by rw [hslot, if_neg (by omega)]; exact k17
          generalize am_upd h2 63 14 (nI (P + 1)) = h3 at b1 b2 b14 b16 b17
          have fin3 : ∀ x : Nat, x = rT (TK T n i) → 10000 ≤ TK T n i → Q 0 (hs (am_upd h3 63 15 (nI x)) g) := by
            intro x hx hbig
            obtain ⟨c1, c2⟩ := hup h3 15 (nI x) (by omega) (by omega) b1 b2
            refine fin _ c1 c2 ?_ ?_ ?_ ⟨v, hv, ?_, fun z => absurd z (by omega)⟩
            · rw [hslot, if_neg (by omega), eEN]; exact b14
            · rw [hslot, if_neg (by omega)]; exact b16
            · rw [hslot, if_pos rfl, hx]
            · rw [hslot, if_neg (by omega)]; exact b17
          have s1 : isS cc → am_R tT E (d + 7) mX12_next0 Q 290 [some (.inr 63), some (.inl (nI cc)), some (.inl (nI 1))] [] (hs h3 g) := by
            intro q
            rw [cif_pos q] at eTK
            refine am_goS gX12_next0 [] 400 ?_
            simp only [am_eqs, am_eqk, am_eqv, lX12_next0_0, lX12_next0_1, lX12_next0_2, lX12_next0_3, lX12_next0_4, lX12_next0_5, lX12_next0_6, fx_ref, ↓reduceIte, List.mem_cons, List.not_mem_nil, or_false, or_self, false_or, true_and, and_true, Nat.reduceEqDiff, reduceCtorEq, List.length_cons, List.length_nil, Nat.reduceAdd, Nat.reduceLeDiff, Nat.reduceSub, Nat.reduceLT, Nat.zero_le, Nat.zero_add, forall_const, not_true_eq_false, not_false_eq_true, false_implies, true_implies, implies_true, Nat.zero_lt_succ, am_z0, am_z1]
            try simp (disch := omega) only [hs_at, hs_put, hs_63, NH_at, NH_put, NH_cpy, ni_add, ni_mul, ni_clamp, ni_in, ni_eq, ni_lt, ni_le, ni_sub, Nat.reduceAdd, Nat.reduceMul, Nat.reduceSub, eq_self, true_implies, not_true_eq_false, false_implies, and_true, true_and, not_false_eq_true, Nat.reduceEqDiff, Nat.reduceLeDiff, Nat.reduceLT, implies_true, ite_true, ite_false, hs_up63]
            refine fin3 _ ?_ (by omega)
            rw [eTK]
            unfold rT tEND tBAD
            rw [if_neg (by omega), if_neg (by omega), if_neg (by omega), if_neg (by omega), if_neg (by omega), if_neg (by omega), if_neg (by omega)]
            omega
          have s0 : ¬ isS cc → am_R tT E (d + 7) mX12_next0 Q 290 [some (.inr 63), some (.inl (nI cc)), some (.inl (nI 0))] [] (hs h3 g) := by
            intro q
            rw [cif_neg q] at eTK
            refine am_goS gX12_next0 [] 400 ?_
            simp only [am_eqs, am_eqk, am_eqv, lX12_next0_0, lX12_next0_1, lX12_next0_2, lX12_next0_3, lX12_next0_4, lX12_next0_5, lX12_next0_6, fx_ref, ↓reduceIte, List.mem_cons, List.not_mem_nil, or_false, or_self, false_or, true_and, and_true, Nat.reduceEqDiff, reduceCtorEq, List.length_cons, List.length_nil, Nat.reduceAdd, Nat.reduceLeDiff, Nat.reduceSub, Nat.reduceLT, Nat.zero_le, Nat.zero_add, forall_const, not_true_eq_false, not_false_eq_true, false_implies, true_implies, implies_true, Nat.zero_lt_succ, am_z0, am_z1]
            try simp (disch := omega) only [hs_at, hs_put, hs_63, NH_at, NH_put, NH_cpy, ni_add, ni_mul, ni_clamp, ni_in, ni_eq, ni_lt, ni_le, ni_sub, Nat.reduceAdd, Nat.reduceMul, Nat.reduceSub, eq_self, true_implies, not_true_eq_false, false_implies, and_true, true_and, not_false_eq_true, Nat.reduceEqDiff, Nat.reduceLeDiff, Nat.reduceLT, implies_true, ite_true, ite_false, hs_up63]
            refine fin3 _ ?_ (by rw [eTK]; decide)
            rw [eTK]
            decide
          refine am_goS gX12_next0 [290] 400 ?_
          simp only [am_eqs, am_eqk, am_eqv, lX12_next0_0, lX12_next0_1, lX12_next0_2, lX12_next0_3, lX12_next0_4, lX12_next0_5, lX12_next0_6, fx_ref, ↓reduceIte, List.mem_cons, List.not_mem_nil, or_false, or_self, false_or, true_and, and_true, Nat.reduceEqDiff, reduceCtorEq, List.length_cons, List.length_nil, Nat.reduceAdd, Nat.reduceLeDiff, Nat.reduceSub, Nat.reduceLT, Nat.zero_le, Nat.zero_add, forall_const, not_true_eq_false, not_false_eq_true, false_implies, true_implies, implies_true, Nat.zero_lt_succ, am_z0, am_z1]
          try simp (disch := omega) only [hs_at, hs_put, hs_63, NH_at, NH_put, NH_cpy, ni_add, ni_mul, ni_clamp, ni_in, ni_eq, ni_lt, ni_le, ni_sub, Nat.reduceAdd, Nat.reduceMul, Nat.reduceSub, eq_self, true_implies, not_true_eq_false, false_implies, and_true, true_and, not_false_eq_true, Nat.reduceEqDiff, Nat.reduceLeDiff, Nat.reduceLT, implies_true, ite_true, ite_false]
          unfold isS at s1 s0
          refine ⟨fun q => s1 (by omega), fun q1 => ⟨fun q => s1 (by omega), fun q2 => ⟨fun q => s1 (by omega), fun q3 => ⟨fun q => s1 (by omega), fun q4 => ⟨fun q => s1 (by omega), fun q5 => ⟨fun q => s1 (by omega), fun q6 => ⟨fun q => s1 (by omega), fun q7 => ⟨fun q => s1 (by omega), fun q8 => ⟨fun q => s1 (by omega), fun q9 => ⟨fun q => s1 (by omega), fun q10 => s0 (by omega)⟩⟩⟩⟩⟩⟩⟩⟩⟩⟩
    · -- the end
      have hpn : POS T n i = n := by omega
      try simp (disch := omega) only [hs_at, hs_put, hs_63, NH_at, NH_put, NH_cpy, ni_add, ni_mul, ni_clamp, ni_in, ni_eq, ni_lt, ni_le, ni_sub, Nat.reduceAdd, Nat.reduceMul, Nat.reduceSub, eq_self, true_implies, not_true_eq_false, false_implies, and_true, true_and, not_false_eq_true, Nat.reduceEqDiff, Nat.reduceLeDiff, Nat.reduceLT, implies_true, ite_true, ite_false, hs_up63]
      obtain ⟨b1, b2⟩ := hup h2 15 (nI 0) (by omega) (by omega) a1 a2
      have eTK : TK T n i = tEND := by unfold TK tkC; rw [if_pos hge]
      have eEN : enC T n (POS T n i) = n := by unfold enC; rw [if_pos hge]
      refine fin _ b1 b2 ?_ ?_ ?_ ⟨v, hv, ?_, fun z => ?_⟩
      · rw [hslot, if_neg (by omega), eEN, k14, hpn]
      · rw [hslot, if_neg (by omega)]; exact k16
      · rw [hslot, if_pos rfl, eTK]; rfl
      · rw [hslot, if_neg (by omega)]; exact k17
      · rw [eTK] at z; unfold tEND at z; omega
  have loop : ∀ m a' (h1 : am_H), a' + m = n → stE isW T n a' = POS T n i → (∀ o, o ≠ 63 → h1 o = h o) → (∀ k, k < 14 ∨ 17 < k → h1 63 k = h 63 k) → h1 63 14 = nI a' → h1 63 17 = nI v → am_R tT E (d + 7) mX12_next0 Q 0 [some (.inr 63), none, none] [] (hs h1 g) := by
    intro m
    induction m with
    | zero =>
      intro a' h1 ha hp f1 f2 e14 e17
      rw [stE_no (fun z => absurd z (by omega))] at hp
      rw [hp] at e14
      have hr1 := hrt h1 f1 f2
      have hpn : POS T n i = n := by omega
      refine am_goS gX12_next0 [0, 39] 400 ?_
      simp only [am_eqs, am_eqk, am_eqv, lX12_next0_0, lX12_next0_1, lX12_next0_2, lX12_next0_3, lX12_next0_4, lX12_next0_5, lX12_next0_6, fx_ref, ↓reduceIte, List.mem_cons, List.not_mem_nil, or_false, or_self, false_or, true_and, and_true, Nat.reduceEqDiff, reduceCtorEq, List.length_cons, List.length_nil, Nat.reduceAdd, Nat.reduceLeDiff, Nat.reduceSub, Nat.reduceLT, Nat.zero_le, Nat.zero_add, forall_const, not_true_eq_false, not_false_eq_true, false_implies, true_implies, implies_true, Nat.zero_lt_succ, am_z0, am_z1]
      try simp (disch := omega) only [hs_at, hs_put, hs_63, NH_at, NH_put, NH_cpy, ni_add, ni_mul, ni_clamp, ni_in, ni_eq, ni_lt, ni_le, ni_sub, Nat.reduceAdd, Nat.reduceMul, Nat.reduceSub, eq_self, true_implies, not_true_eq_false, false_implies, and_true, true_and, not_false_eq_true, Nat.reduceEqDiff, Nat.reduceLeDiff, Nat.reduceLT, implies_true, ite_true, ite_false, hs_63, e14]
      refine r_see hr1 (by omega) (fun z => absurd z (by omega)) (fun _ => ?_)
      try simp (disch := omega) only [hs_at, hs_put, hs_63, NH_at, NH_put, NH_cpy, ni_add, ni_mul, ni_clamp, ni_in, ni_eq, ni_lt, ni_le, ni_sub, Nat.reduceAdd, Nat.reduceMul, Nat.reduceSub, eq_self, true_implies, not_true_eq_false, false_implies, and_true, true_and, not_false_eq_true, Nat.reduceEqDiff, Nat.reduceLeDiff, Nat.reduceLT, implies_true, ite_true, ite_false, hs_63, e14]
      refine ⟨fun z => absurd z (by decide), fun _ => ?_⟩
      refine r_see hr1 (by omega) (fun z => absurd z (by omega)) (fun _ => ?_)
      try simp (disch := omega) only [hs_at, hs_put, hs_63, NH_at, NH_put, NH_cpy, ni_add, ni_mul, ni_clamp, ni_in, ni_eq, ni_lt, ni_le, ni_sub, Nat.reduceAdd, Nat.reduceMul, Nat.reduceSub, eq_self, true_implies, not_true_eq_false, false_implies, and_true, true_and, not_false_eq_true, Nat.reduceEqDiff, Nat.reduceLeDiff, Nat.reduceLT, implies_true, ite_true, ite_false]
      exact ⟨fun z => absurd z (by decide), fun _ => main h1 f1 f2 e14 e17⟩
    | succ m ih =>
      intro a' h1 ha hp f1 f2 e14 e17
      have hr1 := hrt h1 f1 f2
      have h256 := ht256 a' (by omega)
      have hgo : isW (T a') → am_R tT E (d + 7) mX12_next0 Q 0 [some (.inr 63), none, none] [] (hs (am_upd h1 63 14 (nI (a' + 1))) g) := by
        intro y
        obtain ⟨u1, u2⟩ := hup h1 14 (nI (a' + 1)) (by omega) (by omega) f1 f2
        refine ih (a' + 1) _ (by omega) (by rw [← stE_yes (by omega) y]; exact hp) u1 u2 ?_ ?_
        · rw [hslot, if_pos rfl]
        · rw [hslot, if_neg (by omega)]; exact e17
      refine am_goS gX12_next0 [0, 39] 400 ?_
      simp only [am_eqs, am_eqk, am_eqv, lX12_next0_0, lX12_next0_1, lX12_next0_2, lX12_next0_3, lX12_next0_4, lX12_next0_5, lX12_next0_6, fx_ref, ↓reduceIte, List.mem_cons, List.not_mem_nil, or_false, or_self, false_or, true_and, and_true, Nat.reduceEqDiff, reduceCtorEq, List.length_cons, List.length_nil, Nat.reduceAdd, Nat.reduceLeDiff, Nat.reduceSub, Nat.reduceLT, Nat.zero_le, Nat.zero_add, forall_const, not_true_eq_false, not_false_eq_true, false_implies, true_implies, implies_true, Nat.zero_lt_succ, am_z0, am_z1]
      try simp (disch := omega) only [hs_at, hs_put, hs_63, NH_at, NH_put, NH_cpy, ni_add, ni_mul, ni_clamp, ni_in, ni_eq, ni_lt, ni_le, ni_sub, Nat.reduceAdd, Nat.reduceMul, Nat.reduceSub, eq_self, true_implies, not_true_eq_false, false_implies, and_true, true_and, not_false_eq_true, Nat.reduceEqDiff, Nat.reduceLeDiff, Nat.reduceLT, implies_true, ite_true, ite_false, hs_63, e14]
      refine r_see hr1 (by omega) (fun _ => ?_) (fun z => absurd z (by omega))
      try simp (disch := omega) only [hs_at, hs_put, hs_63, NH_at, NH_put, NH_cpy, ni_add, ni_mul, ni_clamp, ni_in, ni_eq, ni_lt, ni_le, ni_sub, Nat.reduceAdd, Nat.reduceMul, Nat.reduceSub, eq_self, true_implies, not_true_eq_false, false_implies, and_true, true_and, not_false_eq_true, Nat.reduceEqDiff, Nat.reduceLeDiff, Nat.reduceLT, implies_true, ite_true, ite_false, hs_63, e14, hs_up63]
      refine ⟨fun y => hgo (Or.inl y), fun y => ?_⟩
      refine r_see hr1 (by omega) (fun _ => ?_) (fun z => absurd z (by omega))
      try simp (disch := omega) only [hs_at, hs_put, hs_63, NH_at, NH_put, NH_cpy, ni_add, ni_mul, ni_clamp, ni_in, ni_eq, ni_lt, ni_le, ni_sub, Nat.reduceAdd, Nat.reduceMul, Nat.reduceSub, eq_self, true_implies, not_true_eq_false, false_implies, and_true, true_and, not_false_eq_true, Nat.reduceEqDiff, Nat.reduceLeDiff, Nat.reduceLT, implies_true, ite_true, ite_false, hs_63, e14, hs_up63]
      refine ⟨fun y2 => hgo (Or.inr y2), fun y2 => ?_⟩
      rw [stE_no (fun _ z => z.elim y y2)] at hp
      rw [hp] at e14
      exact main h1 f1 f2 e14 e17
  refine am_C.of (by decide) (Nat.le_of_ble_eq_true rfl) ?_
  show am_R tT E _ mX12_next0 _ 0 [some (.inr 63), none, none] [] (hs h g)
  exact loop (n - a) a h (by omega) hpos.symm (fun _ _ => rfl) (fun _ _ => rfl) h14 h17
end RNEXT
