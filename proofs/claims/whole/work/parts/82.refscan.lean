/-! ===== part 82: the reference reads a token ===== -/
def RTp (T : Nat → Nat) (n : Nat) (h : am_H) : Prop := h 63 13 = nI n ∧ n ≤ 400 ∧ (∀ k, k < n → h 70 k = nI (T k)) ∧ ∀ k, k < n → T k < 256
def rT (x : Nat) : Nat := if x < 10000 then 2 else if x = 10000 then 20 else if x = 10001 then 21 else if x < 10006 then x - 9999 else if x < 10014 then x - 9965 else if x = tEND then 0 else if x = tBAD then 1 else x - 19900
def wj (j : Nat) : Nat := if j = 6 then 0 else if j = 7 then 1 else if j < 6 then j else j - 2
theorem ch_wl : ∀ j, j < 16 → 2 ≤ j → (slen j = (wl (wj j)).length ∧ ∀ k, k < slen j → chS j k = nI ((wl (wj j)).getD k 0)) := by decide +kernel
theorem wl_small : ∀ w, w < 14 → ∀ k, k < (wl w).length → (wl w).getD k 0 < 256 := by decide +kernel
theorem bts_eq {T : Nat → Nat} : ∀ (w : List Nat) (a m : Nat), bts T a m = w ↔ m = w.length ∧ ∀ k, k < m → T (a + k) = w.getD k 0 := by
  intro w
  induction w with
  | nil =>
    intro a m
    cases m with
    | zero => exact ⟨fun _ => ⟨rfl, fun k hk => absurd hk (by omega)⟩, fun _ => rfl⟩
    | succ m => exact ⟨fun z => (by cases z), fun z => (by have := z.1; simp at this)⟩
  | cons x r ih =>
    intro a m
    cases m with
    | zero => exact ⟨fun z => (by cases z), fun z => (by have := z.1; simp at this)⟩
    | succ m =>
      rw [bts, List.cons.injEq, ih (a + 1) m]
      simp only [List.length_cons]
      constructor
      · rintro ⟨h1, h2, h3⟩
        refine ⟨by omega, fun k hk => ?_⟩
        cases k with
        | zero => simpa using h1
        | succ k =>
          have := h3 k (by omega)
          rw [show a + (k + 1) = a + 1 + k by omega]
          simpa using this
      · rintro ⟨h2, h3⟩
        refine ⟨by simpa using h3 0 (by omega), by omega, fun k hk => ?_⟩
        have := h3 (k + 1) (by omega)
        rw [show a + 1 + k = a + (k + 1) by omega]
        simpa using this
section RSCAN
variable {E : am_E} {d : Nat} {h : am_H} {Q : Int32 → am_H → Prop} {g : Nat → Nat} {T : Nat → Nat} {n : Nat}
theorem r_see {a : Nat} (hR : RTp T n h) (ha : a < 2147483648) (h1 : a < n → Q (nI (T a)) (hs h g)) (h0 : n ≤ a → Q (-1) (hs h g)) : am_C tT E d mX12_see [.inr 63, .inl (nI a)] (hs h g) Q := by
  obtain ⟨e13, hn, htp, -⟩ := hR
  refine am_C.of (by decide) (Nat.le_of_ble_eq_true rfl) ?_
  show am_R tT E _ mX12_see _ 0 [some (.inr 63), some (.inl (nI a))] [] (hs h g)
  refine am_goS gX12_see [] 400 ?_
  simp only [am_eqs, am_eqk, am_eqv, lX12_see_0, fx_ref, ↓reduceIte, List.mem_cons, List.not_mem_nil, or_false, or_self, false_or, true_and, and_true, Nat.reduceEqDiff, reduceCtorEq, List.length_cons, List.length_nil, Nat.reduceAdd, Nat.reduceLeDiff, Nat.reduceSub, Nat.reduceLT, Nat.zero_le, Nat.zero_add, forall_const, not_true_eq_false, not_false_eq_true, false_implies, true_implies, implies_true, Nat.zero_lt_succ, am_z0, am_z1]
  try simp (disch := omega) only [hs_at, hs_put, hs_63, NH_at, NH_put, NH_cpy, ni_add, ni_mul, ni_clamp, ni_in, ni_eq, ni_lt, ni_le, ni_sub, Nat.reduceAdd, Nat.reduceMul, Nat.reduceSub, eq_self, true_implies, not_true_eq_false, false_implies, and_true, true_and, not_false_eq_true, Nat.reduceEqDiff, Nat.reduceLeDiff, Nat.reduceLT, implies_true, ite_true, ite_false, hs_63, e13]
  refine ⟨h0 ∘ fun z => z, fun z => ?_⟩
  have hk := htp a (by omega)
  try simp (disch := omega) only [hs_at, hs_put, hs_63, NH_at, NH_put, NH_cpy, ni_add, ni_mul, ni_clamp, ni_in, ni_eq, ni_lt, ni_le, ni_sub, Nat.reduceAdd, Nat.reduceMul, Nat.reduceSub, eq_self, true_implies, not_true_eq_false, false_implies, and_true, true_and, not_false_eq_true, Nat.reduceEqDiff, Nat.reduceLeDiff, Nat.reduceLT, implies_true, ite_true, ite_false, hs_off]
  refine ⟨by omega, ?_⟩
  rw [hk]
  exact h1 (by omega)
theorem r_isLetter {v : Int32} (h1 : ((nI 97 ≤ v ∧ v ≤ nI 122) ∨ (nI 65 ≤ v ∧ v ≤ nI 90)) → Q (nI 1) h) (h0 : ¬ ((nI 97 ≤ v ∧ v ≤ nI 122) ∨ (nI 65 ≤ v ∧ v ≤ nI 90)) → Q (nI 0) h) : am_C tT E (d + 1) mX12_isLetter [.inl v] h Q := by
  refine am_C.of (by decide) (Nat.le_of_ble_eq_true rfl) ?_
  show am_R tT E _ mX12_isLetter _ 0 [some (.inl v)] [] h
  refine am_goS gX12_isLetter [] 400 ?_
  simp only [am_eqs, am_eqk, am_eqv, lX12_isLetter_0, fx_ref, ↓reduceIte, List.mem_cons, List.not_mem_nil, or_false, or_self, false_or, true_and, and_true, Nat.reduceEqDiff, reduceCtorEq, List.length_cons, List.length_nil, Nat.reduceAdd, Nat.reduceLeDiff, Nat.reduceSub, Nat.reduceLT, Nat.zero_le, Nat.zero_add, forall_const, not_true_eq_false, not_false_eq_true, false_implies, true_implies, implies_true, Nat.zero_lt_succ, am_z0, am_z1]
  refine r_isIn (fun y => ?_) (fun y => ?_)
  · try simp (disch := omega) only [hs_at, hs_put, hs_63, NH_at, NH_put, NH_cpy, ni_add, ni_mul, ni_clamp, ni_in, ni_eq, ni_lt, ni_le, ni_sub, Nat.reduceAdd, Nat.reduceMul, Nat.reduceSub, eq_self, true_implies, not_true_eq_false, false_implies, and_true, true_and, not_false_eq_true, Nat.reduceEqDiff, Nat.reduceLeDiff, Nat.reduceLT, implies_true, ite_true, ite_false]
    exact h1 (Or.inl y)
  · try simp (disch := omega) only [hs_at, hs_put, hs_63, NH_at, NH_put, NH_cpy, ni_add, ni_mul, ni_clamp, ni_in, ni_eq, ni_lt, ni_le, ni_sub, Nat.reduceAdd, Nat.reduceMul, Nat.reduceSub, eq_self, true_implies, not_true_eq_false, false_implies, and_true, true_and, not_false_eq_true, Nat.reduceEqDiff, Nat.reduceLeDiff, Nat.reduceLT, implies_true, ite_true, ite_false]
    refine r_isIn (fun y2 => ?_) (fun y2 => ?_)
    · try simp (disch := omega) only [hs_at, hs_put, hs_63, NH_at, NH_put, NH_cpy, ni_add, ni_mul, ni_clamp, ni_in, ni_eq, ni_lt, ni_le, ni_sub, Nat.reduceAdd, Nat.reduceMul, Nat.reduceSub, eq_self, true_implies, not_true_eq_false, false_implies, and_true, true_and, not_false_eq_true, Nat.reduceEqDiff, Nat.reduceLeDiff, Nat.reduceLT, implies_true, ite_true, ite_false]
      exact h1 (Or.inr y2)
    · try simp (disch := omega) only [hs_at, hs_put, hs_63, NH_at, NH_put, NH_cpy, ni_add, ni_mul, ni_clamp, ni_in, ni_eq, ni_lt, ni_le, ni_sub, Nat.reduceAdd, Nat.reduceMul, Nat.reduceSub, eq_self, true_implies, not_true_eq_false, false_implies, and_true, true_and, not_false_eq_true, Nat.reduceEqDiff, Nat.reduceLeDiff, Nat.reduceLT, implies_true, ite_true, ite_false]
      exact h0 (fun z => z.elim y y2)
theorem r_isDigit {v : Int32} (h1 : (nI 48 ≤ v ∧ v ≤ nI 57) → Q (nI 1) h) (h0 : ¬ (nI 48 ≤ v ∧ v ≤ nI 57) → Q (nI 0) h) : am_C tT E (d + 1) mX12_isDigit [.inl v] h Q := by
  refine am_C.of (by decide) (Nat.le_of_ble_eq_true rfl) ?_
  show am_R tT E _ mX12_isDigit _ 0 [some (.inl v)] [] h
  refine am_goS gX12_isDigit [] 400 ?_
  simp only [am_eqs, am_eqk, am_eqv, lX12_isDigit_0, fx_ref, ↓reduceIte, List.mem_cons, List.not_mem_nil, or_false, or_self, false_or, true_and, and_true, Nat.reduceEqDiff, reduceCtorEq, List.length_cons, List.length_nil, Nat.reduceAdd, Nat.reduceLeDiff, Nat.reduceSub, Nat.reduceLT, Nat.zero_le, Nat.zero_add, forall_const, not_true_eq_false, not_false_eq_true, false_implies, true_implies, implies_true, Nat.zero_lt_succ, am_z0, am_z1]
  refine r_isIn (fun y => ?_) (fun y => ?_)
  · try simp (disch := omega) only [hs_at, hs_put, hs_63, NH_at, NH_put, NH_cpy, ni_add, ni_mul, ni_clamp, ni_in, ni_eq, ni_lt, ni_le, ni_sub, Nat.reduceAdd, Nat.reduceMul, Nat.reduceSub, eq_self, true_implies, not_true_eq_false, false_implies, and_true, true_and, not_false_eq_true, Nat.reduceEqDiff, Nat.reduceLeDiff, Nat.reduceLT, implies_true, ite_true, ite_false]
    exact ⟨Or.inr rfl, h1 y⟩
  · try simp (disch := omega) only [hs_at, hs_put, hs_63, NH_at, NH_put, NH_cpy, ni_add, ni_mul, ni_clamp, ni_in, ni_eq, ni_lt, ni_le, ni_sub, Nat.reduceAdd, Nat.reduceMul, Nat.reduceSub, eq_self, true_implies, not_true_eq_false, false_implies, and_true, true_and, not_false_eq_true, Nat.reduceEqDiff, Nat.reduceLeDiff, Nat.reduceLT, implies_true, ite_true, ite_false]
    exact ⟨Or.inl rfl, h0 y⟩
theorem isL_ni {x : Nat} (hx : x < 256) : ((nI 97 ≤ nI x ∧ nI x ≤ nI 122) ∨ (nI 65 ≤ nI x ∧ nI x ≤ nI 90)) ↔ isL x := by
  unfold isL
  rw [ni_le (by omega) (by omega), ni_le (by omega) (by omega), ni_le (by omega) (by omega), ni_le (by omega) (by omega)]
theorem isD_ni {x : Nat} (hx : x < 256) : (nI 48 ≤ nI x ∧ nI x ≤ nI 57) ↔ isD x := by
  unfold isD
  rw [ni_le (by omega) (by omega), ni_le (by omega) (by omega)]
theorem isL_m1 : ¬ ((nI 97 ≤ (-1 : Int32) ∧ (-1 : Int32) ≤ nI 122) ∨ (nI 65 ≤ (-1 : Int32) ∧ (-1 : Int32) ≤ nI 90)) := by decide
theorem isD_m1 : ¬ (nI 48 ≤ (-1 : Int32) ∧ (-1 : Int32) ≤ nI 57) := by decide
theorem r_is {j a b : Nat} (hj : j < 16) (hj2 : 2 ≤ j) (hR : RTp T n h) (hab : a ≤ b) (hbn : b ≤ n) (h14 : h 63 14 = nI b) (h16 : h 63 16 = nI a) (h1 : bts T a (b - a) = wl (wj j) → Q (nI 1) (hs h g)) (h0 : bts T a (b - a) ≠ wl (wj j) → Q (nI 0) (hs h g)) : am_C tT E (d + 4) mX12_is [.inr 63, .inr (200 + j)] (hs h g) Q := by
  obtain ⟨e13, hn, htp, ht256⟩ := hR
  obtain ⟨hsl, hch⟩ := ch_wl j hj hj2
  have hwj : wj j < 14 := by unfold wj; split <;> (try split) <;> (try split) <;> omega
  have hws := wl_small (wj j) hwj
  rw [bts_eq] at h1
  rw [Ne, bts_eq] at h0
  have hlen8 : slen j < 80 := by
    have : ∀ j, j < 16 → slen j < 80 := by decide +kernel
    exact this j hj
  refine am_C.of (by decide) (Nat.le_of_ble_eq_true rfl) ?_
  show am_R tT E _ mX12_is _ 0 [some (.inr 63), some (.inr (200 + j)), none, none] [] (hs h g)
  refine am_goS gX12_is [24] 400 ?_
  simp only [am_eqs, am_eqk, am_eqv, lX12_is_0, lX12_is_1, fx_ref, ↓reduceIte, List.mem_cons, List.not_mem_nil, or_false, or_self, false_or, true_and, and_true, Nat.reduceEqDiff, reduceCtorEq, List.length_cons, List.length_nil, Nat.reduceAdd, Nat.reduceLeDiff, Nat.reduceSub, Nat.reduceLT, Nat.zero_le, Nat.zero_add, forall_const, not_true_eq_false, not_false_eq_true, false_implies, true_implies, implies_true, Nat.zero_lt_succ, am_z0, am_z1]
  try simp (disch := omega) only [hs_at, hs_put, hs_63, NH_at, NH_put, NH_cpy, ni_add, ni_mul, ni_clamp, ni_in, ni_eq, ni_lt, ni_le, ni_sub, Nat.reduceAdd, Nat.reduceMul, Nat.reduceSub, eq_self, true_implies, not_true_eq_false, false_implies, and_true, true_and, not_false_eq_true, Nat.reduceEqDiff, Nat.reduceLeDiff, Nat.reduceLT, implies_true, ite_true, ite_false, hs_63, h14, h16]
  refine ⟨by omega, by show 200 + j - 200 < 16; omega, c_slen hj ?_⟩
  have loop : ∀ m k (sm : Nat), k + m = slen j → sm ≤ 1 → (sm = 1 ↔ (b - a = slen j ∧ ∀ i, i < k → T (a + i) = (wl (wj j)).getD i 0)) → am_R tT E (d + 4) mX12_is Q 24 [some (.inr 63), some (.inr (200 + j)), some (.inl (nI sm)), some (.inl (nI k))] [] (hs h g) := by
    intro m
    induction m with
    | zero =>
      intro k sm hk hsm hiff
      have e : k = slen j := by omega
      refine am_goS gX12_is [24] 400 ?_
      simp only [am_eqs, am_eqk, am_eqv, lX12_is_0, lX12_is_1, fx_ref, ↓reduceIte, List.mem_cons, List.not_mem_nil, or_false, or_self, false_or, true_and, and_true, Nat.reduceEqDiff, reduceCtorEq, List.length_cons, List.length_nil, Nat.reduceAdd, Nat.reduceLeDiff, Nat.reduceSub, Nat.reduceLT, Nat.zero_le, Nat.zero_add, forall_const, not_true_eq_false, not_false_eq_true, false_implies, true_implies, implies_true, Nat.zero_lt_succ, am_z0, am_z1]
      refine ⟨by omega, by show 200 + j - 200 < 16; omega, c_slen hj ?_⟩
      try simp (disch := omega) only [hs_at, hs_put, hs_63, NH_at, NH_put, NH_cpy, ni_add, ni_mul, ni_clamp, ni_in, ni_eq, ni_lt, ni_le, ni_sub, Nat.reduceAdd, Nat.reduceMul, Nat.reduceSub, eq_self, true_implies, not_true_eq_false, false_implies, and_true, true_and, not_false_eq_true, Nat.reduceEqDiff, Nat.reduceLeDiff, Nat.reduceLT, implies_true, ite_true, ite_false]
      refine ⟨fun _ => ?_, fun z => absurd z (by omega)⟩
      have : sm = 0 ∨ sm = 1 := by omega
      rcases this with rfl | rfl
      · refine ⟨Or.inl rfl, h0 (fun z => ?_)⟩
        have := hiff.mpr ⟨by omega, fun i hi => z.2 i (by omega)⟩
        omega
      · have z := hiff.mp rfl
        exact ⟨Or.inr rfl, h1 ⟨by omega, fun i hi => z.2 i (by omega)⟩⟩
    | succ m ih =>
      intro k sm hk hsm hiff
      have hcc := ih (k + 1) 1 (by omega) (by omega)
      have hc0 := ih (k + 1) 0 (by omega) (by omega)
      have : sm = 0 ∨ sm = 1 := by omega
      rcases this with rfl | rfl
      · refine am_goS gX12_is [24] 400 ?_
        simp only [am_eqs, am_eqk, am_eqv, lX12_is_0, lX12_is_1, fx_ref, ↓reduceIte, List.mem_cons, List.not_mem_nil, or_false, or_self, false_or, true_and, and_true, Nat.reduceEqDiff, reduceCtorEq, List.length_cons, List.length_nil, Nat.reduceAdd, Nat.reduceLeDiff, Nat.reduceSub, Nat.reduceLT, Nat.zero_le, Nat.zero_add, forall_const, not_true_eq_false, not_false_eq_true, false_implies, true_implies, implies_true, Nat.zero_lt_succ, am_z0, am_z1]
        refine ⟨by omega, by show 200 + j - 200 < 16; omega, c_slen hj ?_⟩
        try simp (disch := omega) only [hs_at, hs_put, hs_63, NH_at, NH_put, NH_cpy, ni_add, ni_mul, ni_clamp, ni_in, ni_eq, ni_lt, ni_le, ni_sub, Nat.reduceAdd, Nat.reduceMul, Nat.reduceSub, eq_self, true_implies, not_true_eq_false, false_implies, and_true, true_and, not_false_eq_true, Nat.reduceEqDiff, Nat.reduceLeDiff, Nat.reduceLT, implies_true, ite_true, ite_false]
        refine ⟨fun z => absurd z (by omega), fun _ => ?_⟩
        refine h0 (fun z => ?_)
        have := hiff.mpr ⟨by omega, fun i hi => z.2 i (by omega)⟩
        omega
      · have z := hiff.mp rfl
        have hk70 := htp (a + k) (by omega)
        have hTk := ht256 (a + k) (by omega)
        have hwk := hws k (by omega)
        refine am_goS gX12_is [24] 400 ?_
        simp only [am_eqs, am_eqk, am_eqv, lX12_is_0, lX12_is_1, fx_ref, ↓reduceIte, List.mem_cons, List.not_mem_nil, or_false, or_self, false_or, true_and, and_true, Nat.reduceEqDiff, reduceCtorEq, List.length_cons, List.length_nil, Nat.reduceAdd, Nat.reduceLeDiff, Nat.reduceSub, Nat.reduceLT, Nat.zero_le, Nat.zero_add, forall_const, not_true_eq_false, not_false_eq_true, false_implies, true_implies, implies_true, Nat.zero_lt_succ, am_z0, am_z1]
        refine ⟨by omega, by show 200 + j - 200 < 16; omega, c_slen hj ?_⟩
        try simp (disch := omega) only [hs_at, hs_put, hs_63, NH_at, NH_put, NH_cpy, ni_add, ni_mul, ni_clamp, ni_in, ni_eq, ni_lt, ni_le, ni_sub, Nat.reduceAdd, Nat.reduceMul, Nat.reduceSub, eq_self, true_implies, not_true_eq_false, false_implies, and_true, true_and, not_false_eq_true, Nat.reduceEqDiff, Nat.reduceLeDiff, Nat.reduceLT, implies_true, ite_true, ite_false, hs_63, hs_off, h16, hk70]
        refine ⟨fun z => absurd z (by omega), fun _ => ⟨by omega, by omega, by show 200 + j - 200 < 16; omega, c_charAt hj (by omega) ?_⟩⟩
        rw [hch k (by omega)]
        try simp (disch := omega) only [hs_at, hs_put, hs_63, NH_at, NH_put, NH_cpy, ni_add, ni_mul, ni_clamp, ni_in, ni_eq, ni_lt, ni_le, ni_sub, Nat.reduceAdd, Nat.reduceMul, Nat.reduceSub, eq_self, true_implies, not_true_eq_false, false_implies, and_true, true_and, not_false_eq_true, Nat.reduceEqDiff, Nat.reduceLeDiff, Nat.reduceLT, implies_true, ite_true, ite_false]
        refine ⟨fun y => hcc ⟨fun _ => ⟨z.1, fun i hi => ?_⟩, fun _ => rfl⟩, fun y => hc0 ⟨fun q => absurd q (by omega), fun q => absurd (q.2 k (by omega)) y⟩⟩
        by_cases e : i = k
        · rw [e]; exact y
        · exact z.2 i (by omega)
  try simp (disch := omega) only [hs_at, hs_put, hs_63, NH_at, NH_put, NH_cpy, ni_add, ni_mul, ni_clamp, ni_in, ni_eq, ni_lt, ni_le, ni_sub, Nat.reduceAdd, Nat.reduceMul, Nat.reduceSub, eq_self, true_implies, not_true_eq_false, false_implies, and_true, true_and, not_false_eq_true, Nat.reduceEqDiff, Nat.reduceLeDiff, Nat.reduceLT, implies_true, ite_true, ite_false]
  refine ⟨fun y => ?_, fun y => ?_⟩
  · exact loop (slen j) 0 1 (by omega) (by omega) ⟨fun _ => ⟨y, fun i hi => absurd hi (by omega)⟩, fun _ => rfl⟩
  · exact loop (slen j) 0 0 (by omega) (by omega) ⟨fun q => absurd q (by omega), fun q => absurd q.1 y⟩
end RSCAN
