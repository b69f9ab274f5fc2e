/-! ===== part 93: the class's scanner, its parts ===== -/
/-- the tape in the class -/
def CTp (T : Nat → Nat) (n : Nat) (c : Nat → Nat → Nat) : Prop := c 46 0 = n ∧ n ≤ 400 ∧ (∀ k, k < n → c 50 k = T k) ∧ ∀ k, k < n → T k < 256
def spN : Nat → Nat
  | 0 => 0
  | i + 1 => if chS 0 i = nI 32 then spN i + 1 else spN i
def wsN : Nat → Nat
  | 0 => 0
  | i + 1 => if chS 0 i = nI 32 then i + 1 else wsN i
theorem words_ok : ∀ i, i < 73 → (wsN i ≤ i ∧ (chS 0 i = nI 32 → spN i < 14 ∧ (wl (spN i)).length = i - wsN i ∧ ∀ k, k < i - wsN i → chS 0 (wsN i + k) = nI ((wl (spN i)).getD k 0))) := by decide +kernel
theorem words_end : spN 73 = 14 := by decide +kernel
theorem spN_le : ∀ i, i ≤ 73 → spN i ≤ 14 := by decide +kernel
theorem slen0 : slen 0 = 73 := by decide
theorem signs_ok : ∀ c, c < 256 → ((∃ k, k < 10 ∧ (tbyt.getD 1 []).getD k 0 = am_i2b (nI c)) ↔ (c = 59 ∨ c = 43 ∨ c = 45 ∨ c = 42 ∨ c = 47 ∨ c = 40 ∨ c = 41 ∨ c = 60 ∨ c = 61 ∨ c = 62)) := by decide +kernel
theorem i2c_ok : ∀ c, c < 256 → am_i2c (nI c) = nI c := by decide +kernel
section CSCAN
variable {E : am_E} {d : Nat} {h : am_H} {Q : Int32 → am_H → Prop} {c : Nat → Nat → Nat} {T : Nat → Nat} {n : Nat}
theorem c_isLetter {x : Nat} (hx : x < 256) (h1 : isL x → Q (nI 1) h) (h0 : ¬ isL x → Q (nI 0) h) : am_C tT E (d + 1) mX4_isLetter [.inl (nI x)] h Q := by
  rw [← isL_ni hx] at h1 h0
  refine am_C.of (by decide) (Nat.le_of_ble_eq_true rfl) ?_
  show am_R tT E _ mX4_isLetter _ 0 [some (.inl (nI x))] [] h
  refine am_goS gX4_isLetter [] 400 ?_
  simp only [am_eqs, am_eqk, am_eqv, lX4_isLetter_0, fx_class, NH_at, NH_put, ↓reduceIte, List.mem_cons, List.not_mem_nil, or_false, or_self, false_or, true_and, and_true, Nat.reduceEqDiff, reduceCtorEq, List.length_cons, List.length_nil, Nat.reduceAdd, Nat.reduceLeDiff, Nat.reduceSub, Nat.reduceLT, Nat.zero_le, Nat.zero_add, forall_const, not_true_eq_false, not_false_eq_true, false_implies, true_implies, implies_true, Nat.zero_lt_succ, am_z0, am_z1]
  refine c_within (fun y => ?_) (fun y => ?_)
  · try simp (disch := omega) only [hs_at, hs_put, hs_63, NH_at, NH_put, NH_cpy, ni_add, ni_mul, ni_clamp, ni_in, ni_eq, ni_lt, ni_le, ni_sub, Nat.reduceAdd, Nat.reduceMul, Nat.reduceSub, eq_self, true_implies, not_true_eq_false, false_implies, and_true, true_and, not_false_eq_true, Nat.reduceEqDiff, Nat.reduceLeDiff, Nat.reduceLT, implies_true, ite_true, ite_false]
    exact h1 (Or.inl y)
  · try simp (disch := omega) only [hs_at, hs_put, hs_63, NH_at, NH_put, NH_cpy, ni_add, ni_mul, ni_clamp, ni_in, ni_eq, ni_lt, ni_le, ni_sub, Nat.reduceAdd, Nat.reduceMul, Nat.reduceSub, eq_self, true_implies, not_true_eq_false, false_implies, and_true, true_and, not_false_eq_true, Nat.reduceEqDiff, Nat.reduceLeDiff, Nat.reduceLT, implies_true, ite_true, ite_false]
    refine c_within (fun y2 => ?_) (fun y2 => ?_)
    · try simp (disch := omega) only [hs_at, hs_put, hs_63, NH_at, NH_put, NH_cpy, ni_add, ni_mul, ni_clamp, ni_in, ni_eq, ni_lt, ni_le, ni_sub, Nat.reduceAdd, Nat.reduceMul, Nat.reduceSub, eq_self, true_implies, not_true_eq_false, false_implies, and_true, true_and, not_false_eq_true, Nat.reduceEqDiff, Nat.reduceLeDiff, Nat.reduceLT, implies_true, ite_true, ite_false]
      exact h1 (Or.inr y2)
    · try simp (disch := omega) only [hs_at, hs_put, hs_63, NH_at, NH_put, NH_cpy, ni_add, ni_mul, ni_clamp, ni_in, ni_eq, ni_lt, ni_le, ni_sub, Nat.reduceAdd, Nat.reduceMul, Nat.reduceSub, eq_self, true_implies, not_true_eq_false, false_implies, and_true, true_and, not_false_eq_true, Nat.reduceEqDiff, Nat.reduceLeDiff, Nat.reduceLT, implies_true, ite_true, ite_false]
      exact h0 (fun z => z.elim y y2)
theorem c_isDigit {x : Nat} (hx : x < 256) (h1 : isD x → Q (nI 1) h) (h0 : ¬ isD x → Q (nI 0) h) : am_C tT E (d + 1) mX4_isDigit [.inl (nI x)] h Q := by
  rw [← isD_ni hx] at h1 h0
  refine am_C.of (by decide) (Nat.le_of_ble_eq_true rfl) ?_
  show am_R tT E _ mX4_isDigit _ 0 [some (.inl (nI x))] [] h
  refine am_goS gX4_isDigit [] 400 ?_
  simp only [am_eqs, am_eqk, am_eqv, lX4_isDigit_0, fx_class, NH_at, NH_put, ↓reduceIte, List.mem_cons, List.not_mem_nil, or_false, or_self, false_or, true_and, and_true, Nat.reduceEqDiff, reduceCtorEq, List.length_cons, List.length_nil, Nat.reduceAdd, Nat.reduceLeDiff, Nat.reduceSub, Nat.reduceLT, Nat.zero_le, Nat.zero_add, forall_const, not_true_eq_false, not_false_eq_true, false_implies, true_implies, implies_true, Nat.zero_lt_succ, am_z0, am_z1]
  refine c_within (fun y => ?_) (fun y => ?_)
  · exact ⟨Or.inr rfl, h1 y⟩
  · exact ⟨Or.inl rfl, h0 y⟩
theorem c_wordEnd {a : Nat} (hR : CTp T n c) (ha : a ≤ n) (hq : Q (nI (stE isL T n a)) (NH c)) : am_C tT E (d + 2) mX4_wordEnd [.inr 46, .inl (nI a)] (NH c) Q := by
  obtain ⟨e0, hn, htp, ht256⟩ := hR
  refine am_C.of (by decide) (Nat.le_of_ble_eq_true rfl) ?_
  show am_R tT E _ mX4_wordEnd _ 0 [some (.inr 46), some (.inl (nI a)), none] [] (NH c)
  refine am_goS gX4_wordEnd [2] 400 ?_
  simp only [am_eqs, am_eqk, am_eqv, lX4_wordEnd_0, fx_class, NH_at, NH_put, ↓reduceIte, List.mem_cons, List.not_mem_nil, or_false, or_self, false_or, true_and, and_true, Nat.reduceEqDiff, reduceCtorEq, List.length_cons, List.length_nil, Nat.reduceAdd, Nat.reduceLeDiff, Nat.reduceSub, Nat.reduceLT, Nat.zero_le, Nat.zero_add, forall_const, not_true_eq_false, not_false_eq_true, false_implies, true_implies, implies_true, Nat.zero_lt_succ, am_z0, am_z1]
  have loop : ∀ m b, b + m = n → stE isL T n b = stE isL T n a → am_R tT E (d + 2) mX4_wordEnd Q 2 [some (.inr 46), some (.inl (nI a)), some (.inl (nI b))] [] (NH c) := by
    intro m
    induction m with
    | zero =>
      intro b hb hst
      rw [stE_no (fun z => absurd z (by omega))] at hst
      rw [← hst] at hq
      refine am_goS gX4_wordEnd [2] 400 ?_
      simp only [am_eqs, am_eqk, am_eqv, lX4_wordEnd_0, fx_class, NH_at, NH_put, ↓reduceIte, List.mem_cons, List.not_mem_nil, or_false, or_self, false_or, true_and, and_true, Nat.reduceEqDiff, reduceCtorEq, List.length_cons, List.length_nil, Nat.reduceAdd, Nat.reduceLeDiff, Nat.reduceSub, Nat.reduceLT, Nat.zero_le, Nat.zero_add, forall_const, not_true_eq_false, not_false_eq_true, false_implies, true_implies, implies_true, Nat.zero_lt_succ, am_z0, am_z1]
      try simp (disch := omega) only [hs_at, hs_put, hs_63, NH_at, NH_put, NH_cpy, ni_add, ni_mul, ni_clamp, ni_in, ni_eq, ni_lt, ni_le, ni_sub, Nat.reduceAdd, Nat.reduceMul, Nat.reduceSub, eq_self, true_implies, not_true_eq_false, false_implies, and_true, true_and, not_false_eq_true, Nat.reduceEqDiff, Nat.reduceLeDiff, Nat.reduceLT, implies_true, ite_true, ite_false, e0]
      exact ⟨fun _ => hq, fun z => absurd z (by omega)⟩
    | succ m ih =>
      intro b hb hst
      have hk := htp b (by omega)
      have h256 := ht256 b (by omega)
      refine am_goS gX4_wordEnd [2] 400 ?_
      simp only [am_eqs, am_eqk, am_eqv, lX4_wordEnd_0, fx_class, NH_at, NH_put, ↓reduceIte, List.mem_cons, List.not_mem_nil, or_false, or_self, false_or, true_and, and_true, Nat.reduceEqDiff, reduceCtorEq, List.length_cons, List.length_nil, Nat.reduceAdd, Nat.reduceLeDiff, Nat.reduceSub, Nat.reduceLT, Nat.zero_le, Nat.zero_add, forall_const, not_true_eq_false, not_false_eq_true, false_implies, true_implies, implies_true, Nat.zero_lt_succ, am_z0, am_z1]
      try simp (disch := omega) only [hs_at, hs_put, hs_63, NH_at, NH_put, NH_cpy, ni_add, ni_mul, ni_clamp, ni_in, ni_eq, ni_lt, ni_le, ni_sub, Nat.reduceAdd, Nat.reduceMul, Nat.reduceSub, eq_self, true_implies, not_true_eq_false, false_implies, and_true, true_and, not_false_eq_true, Nat.reduceEqDiff, Nat.reduceLeDiff, Nat.reduceLT, implies_true, ite_true, ite_false, e0, hk]
      refine ⟨fun z => absurd z (by omega), fun _ => ⟨by omega, ?_⟩⟩
      refine c_isLetter h256 (fun y => ?_) (fun y => ?_)
      · try simp (disch := omega) only [hs_at, hs_put, hs_63, NH_at, NH_put, NH_cpy, ni_add, ni_mul, ni_clamp, ni_in, ni_eq, ni_lt, ni_le, ni_sub, Nat.reduceAdd, Nat.reduceMul, Nat.reduceSub, eq_self, true_implies, not_true_eq_false, false_implies, and_true, true_and, not_false_eq_true, Nat.reduceEqDiff, Nat.reduceLeDiff, Nat.reduceLT, implies_true, ite_true, ite_false]
        exact ih (b + 1) (by omega) (by rw [← stE_yes (by omega) y]; exact hst)
      · rw [stE_no (fun _ => y)] at hst
        rw [← hst] at hq
        try simp (disch := omega) only [hs_at, hs_put, hs_63, NH_at, NH_put, NH_cpy, ni_add, ni_mul, ni_clamp, ni_in, ni_eq, ni_lt, ni_le, ni_sub, Nat.reduceAdd, Nat.reduceMul, Nat.reduceSub, eq_self, true_implies, not_true_eq_false, false_implies, and_true, true_and, not_false_eq_true, Nat.reduceEqDiff, Nat.reduceLeDiff, Nat.reduceLT, implies_true, ite_true, ite_false]
        exact hq
  exact loop (n - a) a (by omega) rfl
theorem c_numberEnd {a : Nat} (hR : CTp T n c) (ha : a ≤ n) (hq : Q (nI (stE isD T n a)) (NH c)) : am_C tT E (d + 2) mX4_numberEnd [.inr 46, .inl (nI a)] (NH c) Q := by
  obtain ⟨e0, hn, htp, ht256⟩ := hR
  refine am_C.of (by decide) (Nat.le_of_ble_eq_true rfl) ?_
  show am_R tT E _ mX4_numberEnd _ 0 [some (.inr 46), some (.inl (nI a)), none] [] (NH c)
  refine am_goS gX4_numberEnd [2] 400 ?_
  simp only [am_eqs, am_eqk, am_eqv, lX4_numberEnd_0, fx_class, NH_at, NH_put, ↓reduceIte, List.mem_cons, List.not_mem_nil, or_false, or_self, false_or, true_and, and_true, Nat.reduceEqDiff, reduceCtorEq, List.length_cons, List.length_nil, Nat.reduceAdd, Nat.reduceLeDiff, Nat.reduceSub, Nat.reduceLT, Nat.zero_le, Nat.zero_add, forall_const, not_true_eq_false, not_false_eq_true, false_implies, true_implies, implies_true, Nat.zero_lt_succ, am_z0, am_z1]
  have loop : ∀ m b, b + m = n → stE isD T n b = stE isD T n a → am_R tT E (d + 2) mX4_numberEnd Q 2 [some (.inr 46), some (.inl (nI a)), some (.inl (nI b))] [] (NH c) := by
    intro m
    induction m with
    | zero =>
      intro b hb hst
      rw [stE_no (fun z => absurd z (by omega))] at hst
      rw [← hst] at hq
      refine am_goS gX4_numberEnd [2] 400 ?_
      simp only [am_eqs, am_eqk, am_eqv, lX4_numberEnd_0, fx_class, NH_at, NH_put, ↓reduceIte, List.mem_cons, List.not_mem_nil, or_false, or_self, false_or, true_and, and_true, Nat.reduceEqDiff, reduceCtorEq, List.length_cons, List.length_nil, Nat.reduceAdd, Nat.reduceLeDiff, Nat.reduceSub, Nat.reduceLT, Nat.zero_le, Nat.zero_add, forall_const, not_true_eq_false, not_false_eq_true, false_implies, true_implies, implies_true, Nat.zero_lt_succ, am_z0, am_z1]
      try simp (disch := omega) only [hs_at, hs_put, hs_63, NH_at, NH_put, NH_cpy, ni_add, ni_mul, ni_clamp, ni_in, ni_eq, ni_lt, ni_le, ni_sub, Nat.reduceAdd, Nat.reduceMul, Nat.reduceSub, eq_self, true_implies, not_true_eq_false, false_implies, and_true, true_and, not_false_eq_true, Nat.reduceEqDiff, Nat.reduceLeDiff, Nat.reduceLT, implies_true, ite_true, ite_false, e0]
      exact ⟨fun _ => hq, fun z => absurd z (by omega)⟩
    | succ m ih =>
      intro b hb hst
      have hk := htp b (by omega)
      have h256 := ht256 b (by omega)
      refine am_goS gX4_numberEnd [2] 400 ?_
      simp only [am_eqs, am_eqk, am_eqv, lX4_numberEnd_0, fx_class, NH_at, NH_put, ↓reduceIte, List.mem_cons, List.not_mem_nil, or_false, or_self, false_or, true_and, and_true, Nat.reduceEqDiff, reduceCtorEq, List.length_cons, List.length_nil, Nat.reduceAdd, Nat.reduceLeDiff, Nat.reduceSub, Nat.reduceLT, Nat.zero_le, Nat.zero_add, forall_const, not_true_eq_false, not_false_eq_true, false_implies, true_implies, implies_true, Nat.zero_lt_succ, am_z0, am_z1]
      try simp (disch := omega) only [hs_at, hs_put, hs_63, NH_at, NH_put, NH_cpy, ni_add, ni_mul, ni_clamp, ni_in, ni_eq, ni_lt, ni_le, ni_sub, Nat.reduceAdd, Nat.reduceMul, Nat.reduceSub, eq_self, true_implies, not_true_eq_false, false_implies, and_true, true_and, not_false_eq_true, Nat.reduceEqDiff, Nat.reduceLeDiff, Nat.reduceLT, implies_true, ite_true, ite_false, e0, hk]
      refine ⟨fun z => absurd z (by omega), fun _ => ⟨by omega, ?_⟩⟩
      refine c_isDigit h256 (fun y => ?_) (fun y => ?_)
      · try simp (disch := omega) only [hs_at, hs_put, hs_63, NH_at, NH_put, NH_cpy, ni_add, ni_mul, ni_clamp, ni_in, ni_eq, ni_lt, ni_le, ni_sub, Nat.reduceAdd, Nat.reduceMul, Nat.reduceSub, eq_self, true_implies, not_true_eq_false, false_implies, and_true, true_and, not_false_eq_true, Nat.reduceEqDiff, Nat.reduceLeDiff, Nat.reduceLT, implies_true, ite_true, ite_false]
        exact ih (b + 1) (by omega) (by rw [← stE_yes (by omega) y]; exact hst)
      · rw [stE_no (fun _ => y)] at hst
        rw [← hst] at hq
        try simp (disch := omega) only [hs_at, hs_put, hs_63, NH_at, NH_put, NH_cpy, ni_add, ni_mul, ni_clamp, ni_in, ni_eq, ni_lt, ni_le, ni_sub, Nat.reduceAdd, Nat.reduceMul, Nat.reduceSub, eq_self, true_implies, not_true_eq_false, false_implies, and_true, true_and, not_false_eq_true, Nat.reduceEqDiff, Nat.reduceLeDiff, Nat.reduceLT, implies_true, ite_true, ite_false]
        exact hq
  exact loop (n - a) a (by omega) rfl
theorem c_isWritten {s e p : Nat} (hR : CTp T n c) (hse : s ≤ e) (he : e ≤ 73) (hp : p + (e - s) ≤ n) (h1 : (∀ k, k < e - s → chS 0 (s + k) = nI (T (p + k))) → Q (nI 1) (NH c)) (h0 : ¬ (∀ k, k < e - s → chS 0 (s + k) = nI (T (p + k))) → Q (nI 0) (NH c)) : am_C tT E (d + 4) mX4_isWritten [.inr 46, .inl (nI s), .inl (nI e), .inl (nI p)] (NH c) Q := by
  obtain ⟨e0, hn, htp, ht256⟩ := hR
  refine am_C.of (by decide) (Nat.le_of_ble_eq_true rfl) ?_
  show am_R tT E _ mX4_isWritten _ 0 [some (.inr 46), some (.inl (nI s)), some (.inl (nI e)), some (.inl (nI p)), none] [] (NH c)
  refine am_goS gX4_isWritten [3] 400 ?_
  simp only [am_eqs, am_eqk, am_eqv, lX4_isWritten_0, fx_class, NH_at, NH_put, ↓reduceIte, List.mem_cons, List.not_mem_nil, or_false, or_self, false_or, true_and, and_true, Nat.reduceEqDiff, reduceCtorEq, List.length_cons, List.length_nil, Nat.reduceAdd, Nat.reduceLeDiff, Nat.reduceSub, Nat.reduceLT, Nat.zero_le, Nat.zero_add, forall_const, not_true_eq_false, not_false_eq_true, false_implies, true_implies, implies_true, Nat.zero_lt_succ, am_z0, am_z1]
  have loop : ∀ m b, b + m = e → s ≤ b → (∀ k, k < b - s → chS 0 (s + k) = nI (T (p + k))) → am_R tT E (d + 4) mX4_isWritten Q 3 [some (.inr 46), some (.inl (nI s)), some (.inl (nI e)), some (.inl (nI p)), some (.inl (nI b))] [] (NH c) := by
    intro m
    induction m with
    | zero =>
      intro b hb hsb hal
      have e : b = e := by omega
      subst e
      refine am_goS gX4_isWritten [3] 400 ?_
      simp only [am_eqs, am_eqk, am_eqv, lX4_isWritten_0, fx_class, NH_at, NH_put, ↓reduceIte, List.mem_cons, List.not_mem_nil, or_false, or_self, false_or, true_and, and_true, Nat.reduceEqDiff, reduceCtorEq, List.length_cons, List.length_nil, Nat.reduceAdd, Nat.reduceLeDiff, Nat.reduceSub, Nat.reduceLT, Nat.zero_le, Nat.zero_add, forall_const, not_true_eq_false, not_false_eq_true, false_implies, true_implies, implies_true, Nat.zero_lt_succ, am_z0, am_z1]
      try simp (disch := omega) only [hs_at, hs_put, hs_63, NH_at, NH_put, NH_cpy, ni_add, ni_mul, ni_clamp, ni_in, ni_eq, ni_lt, ni_le, ni_sub, Nat.reduceAdd, Nat.reduceMul, Nat.reduceSub, eq_self, true_implies, not_true_eq_false, false_implies, and_true, true_and, not_false_eq_true, Nat.reduceEqDiff, Nat.reduceLeDiff, Nat.reduceLT, implies_true, ite_true, ite_false]
      exact ⟨fun _ => h1 hal, fun z => absurd (Nat.le_refl _) z⟩
    | succ m ih =>
      intro b hb hsb hal
      have hk := htp (p + b - s) (by omega)
      refine am_goS gX4_isWritten [3] 400 ?_
      simp only [am_eqs, am_eqk, am_eqv, lX4_isWritten_0, fx_class, NH_at, NH_put, ↓reduceIte, List.mem_cons, List.not_mem_nil, or_false, or_self, false_or, true_and, and_true, Nat.reduceEqDiff, reduceCtorEq, List.length_cons, List.length_nil, Nat.reduceAdd, Nat.reduceLeDiff, Nat.reduceSub, Nat.reduceLT, Nat.zero_le, Nat.zero_add, forall_const, not_true_eq_false, not_false_eq_true, false_implies, true_implies, implies_true, Nat.zero_lt_succ, am_z0, am_z1]
      try simp (disch := omega) only [hs_at, hs_put, hs_63, NH_at, NH_put, NH_cpy, ni_add, ni_mul, ni_clamp, ni_in, ni_eq, ni_lt, ni_le, ni_sub, Nat.reduceAdd, Nat.reduceMul, Nat.reduceSub, eq_self, true_implies, not_true_eq_false, false_implies, and_true, true_and, not_false_eq_true, Nat.reduceEqDiff, Nat.reduceLeDiff, Nat.reduceLT, implies_true, ite_true, ite_false, hk]
      refine ⟨fun z => absurd z (by omega), fun _ => ⟨show 0 < 16 by decide, ?_⟩⟩
      refine c_charAt (j := 0) (by omega) (by rw [slen0]; omega) ?_
      try simp (disch := omega) only [hs_at, hs_put, hs_63, NH_at, NH_put, NH_cpy, ni_add, ni_mul, ni_clamp, ni_in, ni_eq, ni_lt, ni_le, ni_sub, Nat.reduceAdd, Nat.reduceMul, Nat.reduceSub, eq_self, true_implies, not_true_eq_false, false_implies, and_true, true_and, not_false_eq_true, Nat.reduceEqDiff, Nat.reduceLeDiff, Nat.reduceLT, implies_true, ite_true, ite_false, hk]
      refine ⟨by omega, fun y => ?_, fun y => ?_⟩
      · refine ih (b + 1) (by omega) (by omega) (fun k hk => ?_)
        by_cases e : k = b - s
        · rw [e, show s + (b - s) = b by omega, show p + (b - s) = p + b - s by omega]; exact y
        · exact hal k (by omega)
      · refine h0 (fun z => y ?_)
        have := z (b - s) (by omega)
        rw [show s + (b - s) = b by omega, show p + (b - s) = p + b - s by omega] at this
        exact this
  exact loop (e - s) s (by omega) (Nat.le_refl _) (fun k hk => absurd hk (by omega))
theorem c_wordOf {a b : Nat} (hR : CTp T n c) (hab : a ≤ b) (hbn : b ≤ n) (hq : Q (nI (wdC (bts T a (b - a)))) (NH c)) : am_C tT E (d + 5) mX4_wordOf [.inr 46, .inl (nI a), .inl (nI b)] (NH c) Q := by
  have hR2 := hR
  obtain ⟨e0, hn, htp, ht256⟩ := hR
  refine am_C.of (by decide) (Nat.le_of_ble_eq_true rfl) ?_
  show am_R tT E _ mX4_wordOf _ 0 [some (.inr 46), some (.inl (nI a)), some (.inl (nI b)), none, none, none] [] (NH c)
  refine am_goS gX4_wordOf [8] 400 ?_
  simp only [am_eqs, am_eqk, am_eqv, lX4_wordOf_0, lX4_wordOf_1, fx_class, NH_at, NH_put, ↓reduceIte, List.mem_cons, List.not_mem_nil, or_false, or_self, false_or, true_and, and_true, Nat.reduceEqDiff, reduceCtorEq, List.length_cons, List.length_nil, Nat.reduceAdd, Nat.reduceLeDiff, Nat.reduceSub, Nat.reduceLT, Nat.zero_le, Nat.zero_add, forall_const, not_true_eq_false, not_false_eq_true, false_implies, true_implies, implies_true, Nat.zero_lt_succ, am_z0, am_z1]
  have loop : ∀ m i, i + m = 73 → (∀ v, v < spN i → bts T a (b - a) ≠ wl v) → am_R tT E (d + 5) mX4_wordOf Q 8 [some (.inr 46), some (.inl (nI a)), some (.inl (nI b)), some (.inl (nI (spN i))), some (.inl (nI (wsN i))), some (.inl (nI i))] [] (NH c) := by
    intro m
    induction m with
    | zero =>
      intro i hi hno
      have e : i = 73 := by omega
      subst e
      rw [words_end] at hno
      rw [wdC_no hno] at hq
      refine am_goS gX4_wordOf [8, 18] 400 ?_
      simp only [am_eqs, am_eqk, am_eqv, lX4_wordOf_0, lX4_wordOf_1, fx_class, NH_at, NH_put, ↓reduceIte, List.mem_cons, List.not_mem_nil, or_false, or_self, false_or, true_and, and_true, Nat.reduceEqDiff, reduceCtorEq, List.length_cons, List.length_nil, Nat.reduceAdd, Nat.reduceLeDiff, Nat.reduceSub, Nat.reduceLT, Nat.zero_le, Nat.zero_add, forall_const, not_true_eq_false, not_false_eq_true, false_implies, true_implies, implies_true, Nat.zero_lt_succ, am_z0, am_z1]
      refine ⟨show 0 < 16 by decide, c_slen (j := 0) (by omega) ?_⟩
      rw [slen0]
      exact ⟨fun _ => hq, fun z => absurd (Int32.le_refl _) z⟩
    | succ m ih =>
      intro i hi hno
      obtain ⟨hws, hwd⟩ := words_ok i (by omega)
      have hsp := spN_le i (by omega)
      have es : spN (i + 1) = if chS 0 i = nI 32 then spN i + 1 else spN i := rfl
      have ew : wsN (i + 1) = if chS 0 i = nI 32 then i + 1 else wsN i := rfl
      have hnx := ih (i + 1) (by omega)
      refine am_goS gX4_wordOf [8] 400 ?_
      simp only [am_eqs, am_eqk, am_eqv, lX4_wordOf_0, lX4_wordOf_1, fx_class, NH_at, NH_put, ↓reduceIte, List.mem_cons, List.not_mem_nil, or_false, or_self, false_or, true_and, and_true, Nat.reduceEqDiff, reduceCtorEq, List.length_cons, List.length_nil, Nat.reduceAdd, Nat.reduceLeDiff, Nat.reduceSub, Nat.reduceLT, Nat.zero_le, Nat.zero_add, forall_const, not_true_eq_false, not_false_eq_true, false_implies, true_implies, implies_true, Nat.zero_lt_succ, am_z0, am_z1]
      refine ⟨show 0 < 16 by decide, c_slen (j := 0) (by omega) ?_⟩
      rw [slen0]
      try simp (disch := omega) only [hs_at, hs_put, hs_63, NH_at, NH_put, NH_cpy, ni_add, ni_mul, ni_clamp, ni_in, ni_eq, ni_lt, ni_le, ni_sub, Nat.reduceAdd, Nat.reduceMul, Nat.reduceSub, eq_self, true_implies, not_true_eq_false, false_implies, and_true, true_and, not_false_eq_true, Nat.reduceEqDiff, Nat.reduceLeDiff, Nat.reduceLT, implies_true, ite_true, ite_false]
      refine ⟨fun z => absurd z (by omega), fun _ => ⟨show 0 < 16 by decide, c_charAt (j := 0) (by omega) (by rw [slen0]; omega) ?_⟩⟩
      refine ⟨fun y => ?_, fun y => ?_⟩
      · rw [es, ew, if_pos y, if_pos y] at hnx
        obtain ⟨w14, wlen, wch⟩ := hwd y
        have hmatch : bts T a (b - a) = wl (spN i) ↔ (i - wsN i = b - a ∧ ∀ k, k < i - wsN i → chS 0 (wsN i + k) = nI (T (a + k))) := by
          rw [bts_eq, wlen]
          constructor
          · rintro ⟨q1, q2⟩
            refine ⟨q1.symm, fun k hk => ?_⟩
            rw [wch k hk, q2 k (by omega)]
          · rintro ⟨q1, q2⟩
            refine ⟨q1.symm, fun k hk => ?_⟩
            have h3 := q2 k (by omega)
            rw [wch k (by omega)] at h3
            have hw := wl_small (spN i) w14 k (by omega)
            have ht := ht256 (a + k) (by omega)
            rw [ni_eq (by omega) (by omega)] at h3
            exact h3.symm
        have hcont : bts T a (b - a) ≠ wl (spN i) → am_R tT E (d + 5) mX4_wordOf Q 8 [some (.inr 46), some (.inl (nI a)), some (.inl (nI b)), some (.inl (nI (spN i + 1))), some (.inl (nI (i + 1))), some (.inl (nI (i + 1)))] [] (NH c) := by
          intro z
          refine hnx (fun v hv => ?_)
          by_cases e : v = spN i
          · rw [e]; exact z
          · exact hno v (by omega)
        try simp (disch := omega) only [hs_at, hs_put, hs_63, NH_at, NH_put, NH_cpy, ni_add, ni_mul, ni_clamp, ni_in, ni_eq, ni_lt, ni_le, ni_sub, Nat.reduceAdd, Nat.reduceMul, Nat.reduceSub, eq_self, true_implies, not_true_eq_false, false_implies, and_true, true_and, not_false_eq_true, Nat.reduceEqDiff, Nat.reduceLeDiff, Nat.reduceLT, implies_true, ite_true, ite_false]
        refine ⟨fun z => ?_, fun z => hcont (fun q => z (hmatch.mp q).1)⟩
        refine c_isWritten hR2 hws (by omega) (by omega) (fun u => ?_) (fun u => ?_)
        · try simp (disch := omega) only [hs_at, hs_put, hs_63, NH_at, NH_put, NH_cpy, ni_add, ni_mul, ni_clamp, ni_in, ni_eq, ni_lt, ni_le, ni_sub, Nat.reduceAdd, Nat.reduceMul, Nat.reduceSub, eq_self, true_implies, not_true_eq_false, false_implies, and_true, true_and, not_false_eq_true, Nat.reduceEqDiff, Nat.reduceLeDiff, Nat.reduceLT, implies_true, ite_true, ite_false]
          rw [wdC_of w14 (hmatch.mpr ⟨z, u⟩)] at hq
          exact hq
        · try simp (disch := omega) only [hs_at, hs_put, hs_63, NH_at, NH_put, NH_cpy, ni_add, ni_mul, ni_clamp, ni_in, ni_eq, ni_lt, ni_le, ni_sub, Nat.reduceAdd, Nat.reduceMul, Nat.reduceSub, eq_self, true_implies, not_true_eq_false, false_implies, and_true, true_and, not_false_eq_true, Nat.reduceEqDiff, Nat.reduceLeDiff, Nat.reduceLT, implies_true, ite_true, ite_false]
          exact hcont (fun q => u (hmatch.mp q).2)
      · rw [es, ew, if_neg y, if_neg y] at hnx
        try simp (disch := omega) only [hs_at, hs_put, hs_63, NH_at, NH_put, NH_cpy, ni_add, ni_mul, ni_clamp, ni_in, ni_eq, ni_lt, ni_le, ni_sub, Nat.reduceAdd, Nat.reduceMul, Nat.reduceSub, eq_self, true_implies, not_true_eq_false, false_implies, and_true, true_and, not_false_eq_true, Nat.reduceEqDiff, Nat.reduceLeDiff, Nat.reduceLT, implies_true, ite_true, ite_false]
        exact hnx hno
  exact loop 73 0 (by omega) (fun v hv => absurd hv (by show ¬ v < 0; omega))
theorem c_numberOf {a b : Nat} (hR : CTp T n c) (hab : a ≤ b) (hbn : b ≤ n) (hd : ∀ i, a ≤ i → i < b → isD (T i)) (hq : Q (nI (if 4 < b - a then tBAD else nuV T a (b - a))) (NH c)) : am_C tT E d mX4_numberOf [.inr 46, .inl (nI a), .inl (nI b)] (NH c) Q := by
  obtain ⟨e0, hn, htp, ht256⟩ := hR
  refine am_C.of (by decide) (Nat.le_of_ble_eq_true rfl) ?_
  show am_R tT E _ mX4_numberOf _ 0 [some (.inr 46), some (.inl (nI a)), some (.inl (nI b)), none, none] [] (NH c)
  refine am_goS gX4_numberOf [15] 400 ?_
  simp only [am_eqs, am_eqk, am_eqv, lX4_numberOf_0, lX4_numberOf_1, fx_class, NH_at, NH_put, ↓reduceIte, List.mem_cons, List.not_mem_nil, or_false, or_self, false_or, true_and, and_true, Nat.reduceEqDiff, reduceCtorEq, List.length_cons, List.length_nil, Nat.reduceAdd, Nat.reduceLeDiff, Nat.reduceSub, Nat.reduceLT, Nat.zero_le, Nat.zero_add, forall_const, not_true_eq_false, not_false_eq_true, false_implies, true_implies, implies_true, Nat.zero_lt_succ, am_z0, am_z1]
  try simp (disch := omega) only [hs_at, hs_put, hs_63, NH_at, NH_put, NH_cpy, ni_add, ni_mul, ni_clamp, ni_in, ni_eq, ni_lt, ni_le, ni_sub, Nat.reduceAdd, Nat.reduceMul, Nat.reduceSub, eq_self, true_implies, not_true_eq_false, false_implies, and_true, true_and, not_false_eq_true, Nat.reduceEqDiff, Nat.reduceLeDiff, Nat.reduceLT, implies_true, ite_true, ite_false]
  refine Iff.mp and_comm ⟨fun z => ?_, fun z => ?_⟩
  · rw [if_pos (by omega)] at hq
    exact hq
  · rw [if_neg (by omega)] at hq
    have loop : ∀ m i, i + m = b → a ≤ i → am_R tT E d mX4_numberOf Q 15 [some (.inr 46), some (.inl (nI a)), some (.inl (nI b)), some (.inl (nI (nuV T a (i - a)))), some (.inl (nI i))] [] (NH c) := by
      intro m
      induction m with
      | zero =>
        intro i hi hai
        have e : i = b := by omega
        subst e
        refine am_goS gX4_numberOf [15] 400 ?_
        simp only [am_eqs, am_eqk, am_eqv, lX4_numberOf_0, lX4_numberOf_1, fx_class, NH_at, NH_put, ↓reduceIte, List.mem_cons, List.not_mem_nil, or_false, or_self, false_or, true_and, and_true, Nat.reduceEqDiff, reduceCtorEq, List.length_cons, List.length_nil, Nat.reduceAdd, Nat.reduceLeDiff, Nat.reduceSub, Nat.reduceLT, Nat.zero_le, Nat.zero_add, forall_const, not_true_eq_false, not_false_eq_true, false_implies, true_implies, implies_true, Nat.zero_lt_succ, am_z0, am_z1]
        try simp (disch := omega) only [hs_at, hs_put, hs_63, NH_at, NH_put, NH_cpy, ni_add, ni_mul, ni_clamp, ni_in, ni_eq, ni_lt, ni_le, ni_sub, Nat.reduceAdd, Nat.reduceMul, Nat.reduceSub, eq_self, true_implies, not_true_eq_false, false_implies, and_true, true_and, not_false_eq_true, Nat.reduceEqDiff, Nat.reduceLeDiff, Nat.reduceLT, implies_true, ite_true, ite_false]
        exact ⟨fun _ => hq, fun z => absurd (Nat.le_refl _) z⟩
      | succ m ih =>
        intro i hi hai
        have hk := htp i (by omega)
        have hdi := hd i hai (by omega)
        have h48 := hdi.1
        have hnx := ih (i + 1) (by omega) (by omega)
        have ev : nuV T a (i - a) * 10 + T i - 48 = nuV T a (i + 1 - a) := by
          rw [show i + 1 - a = (i - a) + 1 by omega, nuV, show a + (i - a) = i by omega]
          omega
        refine am_goS gX4_numberOf [15] 400 ?_
        simp only [am_eqs, am_eqk, am_eqv, lX4_numberOf_0, lX4_numberOf_1, fx_class, NH_at, NH_put, ↓reduceIte, List.mem_cons, List.not_mem_nil, or_false, or_self, false_or, true_and, and_true, Nat.reduceEqDiff, reduceCtorEq, List.length_cons, List.length_nil, Nat.reduceAdd, Nat.reduceLeDiff, Nat.reduceSub, Nat.reduceLT, Nat.zero_le, Nat.zero_add, forall_const, not_true_eq_false, not_false_eq_true, false_implies, true_implies, implies_true, Nat.zero_lt_succ, am_z0, am_z1]
        try simp (disch := omega) only [hs_at, hs_put, hs_63, NH_at, NH_put, NH_cpy, ni_add, ni_mul, ni_clamp, ni_in, ni_eq, ni_lt, ni_le, ni_sub, Nat.reduceAdd, Nat.reduceMul, Nat.reduceSub, eq_self, true_implies, not_true_eq_false, false_implies, and_true, true_and, not_false_eq_true, Nat.reduceEqDiff, Nat.reduceLeDiff, Nat.reduceLT, implies_true, ite_true, ite_false, hk]
        refine ⟨fun z => absurd z (by omega), fun _ => ⟨by omega, ?_⟩⟩
        rw [ev]
        exact hnx
    have := loop (b - a) a (by omega) (Nat.le_refl _)
    rw [Nat.sub_self] at this
    exact this
theorem c_canEnc {x : Nat} (hx : x < 256) (hq : Q (nI 1) h) : am_C tT E d mJ1_canEncode_9a6ad [.inl (nI x)] h Q := by
  refine am_C.of (by decide) (Nat.le_of_ble_eq_true rfl) ?_
  show am_R tT E _ mJ1_canEncode_9a6ad _ 0 [some (.inl (nI x))] [] h
  refine am_goS gJ1_canEncode_9a6ad [] 400 ?_
  simp only [am_eqs, am_eqk, am_eqv, lJ1_canEncode_9a6ad_0, fx_class, NH_at, NH_put, ↓reduceIte, List.mem_cons, List.not_mem_nil, or_false, or_self, false_or, true_and, and_true, Nat.reduceEqDiff, reduceCtorEq, List.length_cons, List.length_nil, Nat.reduceAdd, Nat.reduceLeDiff, Nat.reduceSub, Nat.reduceLT, Nat.zero_le, Nat.zero_add, forall_const, not_true_eq_false, not_false_eq_true, false_implies, true_implies, implies_true, Nat.zero_lt_succ, am_z0, am_z1, am_eqt]
  try simp (disch := omega) only [hs_at, hs_put, hs_63, NH_at, NH_put, NH_cpy, ni_add, ni_mul, ni_clamp, ni_in, ni_eq, ni_lt, ni_le, ni_sub, Nat.reduceAdd, Nat.reduceMul, Nat.reduceSub, eq_self, true_implies, not_true_eq_false, false_implies, and_true, true_and, not_false_eq_true, Nat.reduceEqDiff, Nat.reduceLeDiff, Nat.reduceLT, implies_true, ite_true, ite_false]
  exact ⟨fun z => absurd z (by omega), fun _ => ⟨fun z => absurd z (by omega), fun _ => hq⟩⟩
theorem c_io1 {x : Nat} (hx : x < 256) (h1 : isS x → ∀ k, k < 10 → Q (nI k) h) (h0 : ¬ isS x → Q (-1) h) : am_C tT E (d + 1) mJ1_indexOf_4cfef [.inr 301, .inl (nI x), .inl (nI 0), .inl (nI 10)] h Q := by
  have hs := signs_ok x hx
  have hl : slen 1 = 10 := by decide
  refine am_C.of (by decide) (Nat.le_of_ble_eq_true rfl) ?_
  show am_R tT E _ mJ1_indexOf_4cfef _ 0 [some (.inr 301), some (.inl (nI x)), some (.inl (nI 0)), some (.inl (nI 10))] [] h
  refine am_goS gJ1_indexOf_4cfef [11] 400 ?_
  simp only [am_eqs, am_eqk, am_eqv, lJ1_indexOf_4cfef_0, lJ1_indexOf_4cfef_1, fx_class, NH_at, NH_put, ↓reduceIte, List.mem_cons, List.not_mem_nil, or_false, or_self, false_or, true_and, and_true, Nat.reduceEqDiff, reduceCtorEq, List.length_cons, List.length_nil, Nat.reduceAdd, Nat.reduceLeDiff, Nat.reduceSub, Nat.reduceLT, Nat.zero_le, Nat.zero_add, forall_const, not_true_eq_false, not_false_eq_true, false_implies, true_implies, implies_true, Nat.zero_lt_succ, am_z0, am_z1, am_eqt]
  refine c_canEnc hx ?_
  refine ⟨fun z => absurd z (by decide), fun _ => ?_⟩
  refine r_mmax (idx := 92) wd_661 dJ1_indexOf_4cfef_11 (by decide) ?_
  refine am_goS gJ1_indexOf_4cfef [18] 400 ?_
  simp only [am_eqs, am_eqk, am_eqv, lJ1_indexOf_4cfef_0, lJ1_indexOf_4cfef_1, fx_class, NH_at, NH_put, ↓reduceIte, List.mem_cons, List.not_mem_nil, or_false, or_self, false_or, true_and, and_true, Nat.reduceEqDiff, reduceCtorEq, List.length_cons, List.length_nil, Nat.reduceAdd, Nat.reduceLeDiff, Nat.reduceSub, Nat.reduceLT, Nat.zero_le, Nat.zero_add, forall_const, not_true_eq_false, not_false_eq_true, false_implies, true_implies, implies_true, Nat.zero_lt_succ, am_z0, am_z1, am_eqt]
  refine r_mmin (idx := 38) wd_663 dJ1_indexOf_4cfef_18 (by decide) ?_
  refine am_goS gJ1_indexOf_4cfef [] 400 ?_
  simp only [am_eqs, am_eqk, am_eqv, lJ1_indexOf_4cfef_0, lJ1_indexOf_4cfef_1, fx_class, NH_at, NH_put, ↓reduceIte, List.mem_cons, List.not_mem_nil, or_false, or_self, false_or, true_and, and_true, Nat.reduceEqDiff, reduceCtorEq, List.length_cons, List.length_nil, Nat.reduceAdd, Nat.reduceLeDiff, Nat.reduceSub, Nat.reduceLT, Nat.zero_le, Nat.zero_add, forall_const, not_true_eq_false, not_false_eq_true, false_implies, true_implies, implies_true, Nat.zero_lt_succ, am_z0, am_z1, am_eqt]
  have e1 : (if nI 0 < nI 0 then nI 0 else nI 0) = nI 0 := by decide
  have e2 : (if nI (tlen.getD 1 0) < nI 10 then nI (tlen.getD 1 0) else nI 10) = nI (slen 1) := by decide
  rw [e1, e2]
  refine ⟨fun _ => ?_, fun z => absurd (show nI 0 < nI (slen 1) by decide) z⟩
  refine c_iofc (j := 1) (by omega) hx (fun k hk e => ?_) (fun hn => ?_)
  · rw [hl] at hk
    exact h1 (by unfold isS; exact hs.mp ⟨k, hk, e⟩) k hk
  · refine h0 (fun q => ?_)
    unfold isS at q
    obtain ⟨k, hk, e⟩ := hs.mpr q
    exact hn k (by rw [hl]; exact hk) e
theorem c_io2 {x : Nat} (hx : x < 256) (h1 : isS x → ∀ k, k < 10 → Q (nI k) h) (h0 : ¬ isS x → Q (-1) h) : am_C tT E (d + 2) mJ0_indexOf_7cf53 [.inr 201, .inl (nI x), .inl (nI 0)] h Q := by
  refine am_C.of (by decide) (Nat.le_of_ble_eq_true rfl) ?_
  show am_R tT E _ mJ0_indexOf_7cf53 _ 0 [some (.inr 201), some (.inl (nI x)), some (.inl (nI 0))] [] h
  refine am_goS gJ0_indexOf_7cf53 [] 400 ?_
  simp only [am_eqs, am_eqk, am_eqv, lJ0_indexOf_7cf53_0, fx_class, NH_at, NH_put, ↓reduceIte, List.mem_cons, List.not_mem_nil, or_false, or_self, false_or, true_and, and_true, Nat.reduceEqDiff, reduceCtorEq, List.length_cons, List.length_nil, Nat.reduceAdd, Nat.reduceLeDiff, Nat.reduceSub, Nat.reduceLT, Nat.zero_le, Nat.zero_add, forall_const, not_true_eq_false, not_false_eq_true, false_implies, true_implies, implies_true, Nat.zero_lt_succ, am_z0, am_z1, am_eqt]
  refine ⟨show 1 < 16 by decide, c_latin (j := 1) (by omega) ?_⟩
  refine ⟨fun z => absurd z (by decide), fun _ => ⟨show 1 < 16 by decide, ?_⟩⟩
  refine c_slen (j := 1) (by omega) ?_
  exact c_io1 hx h1 h0
theorem c_signs {x : Nat} (hx : x < 256) (h1 : isS x → ∀ k, k < 10 → Q (nI k) h) (h0 : ¬ isS x → Q (-1) h) : am_C tT E (d + 3) mJ0_indexOf_0f7a4 [.inr 201, .inl (nI x)] h Q := by
  refine am_C.of (by decide) (Nat.le_of_ble_eq_true rfl) ?_
  show am_R tT E _ mJ0_indexOf_0f7a4 _ 0 [some (.inr 201), some (.inl (nI x))] [] h
  refine am_goS gJ0_indexOf_0f7a4 [] 400 ?_
  simp only [am_eqs, am_eqk, am_eqv, lJ0_indexOf_0f7a4_0, fx_class, NH_at, NH_put, ↓reduceIte, List.mem_cons, List.not_mem_nil, or_false, or_self, false_or, true_and, and_true, Nat.reduceEqDiff, reduceCtorEq, List.length_cons, List.length_nil, Nat.reduceAdd, Nat.reduceLeDiff, Nat.reduceSub, Nat.reduceLT, Nat.zero_le, Nat.zero_add, forall_const, not_true_eq_false, not_false_eq_true, false_implies, true_implies, implies_true, Nat.zero_lt_succ, am_z0, am_z1, am_eqt]
  exact c_io2 hx h1 h0
end CSCAN
