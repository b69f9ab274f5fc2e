/-! ===== part 12: the reference's leaves, over w as naturals ===== -/
/-- a heap whose cell 64, the reference's w, holds the naturals g -/
def hs (h : am_H) (g : Nat → Nat) : am_H := fun o => if o = 64 then fun i => nI (g i) else h o
def nup (g : Nat → Nat) (i v : Nat) : Nat → Nat := fun j => if j = i then v else g j
theorem nup_self (g : Nat → Nat) (i v : Nat) : nup g i v i = v := if_pos rfl
theorem nup_ne (g : Nat → Nat) {i j : Nat} (v : Nat) (h : j ≠ i) : nup g i v j = g j := if_neg h
def og (g : Nat → Nat) (p f : Nat) : Nat := g (90 + 16 * p + f)
theorem hs_at (h : am_H) (g : Nat → Nat) (i : Nat) : hs h g 64 i = nI (g i) := rfl
theorem hs_off (h : am_H) (g : Nat → Nat) {o : Nat} (ho : o ≠ 64) : hs h g o = h o := if_neg ho
theorem hs_63 (h : am_H) (g : Nat → Nat) : hs h g 63 = h 63 := rfl
theorem hs_put (h : am_H) (g : Nat → Nat) (i v : Nat) : am_upd (hs h g) 64 i (nI v) = hs h (nup g i v) := by
  funext o
  by_cases ho : o = 64
  · subst ho
    rw [am_upd_self]
    funext j
    simp only [upd, nup, hs, if_true]
    by_cases hj : j = i
    · rw [if_pos hj, if_pos hj]
    · rw [if_neg hj, if_neg hj]
  · rw [am_upd_ne _ _ _ ho, hs_off _ _ ho, hs_off _ _ ho]
theorem hs_upo (h : am_H) (g : Nat → Nat) {o : Nat} (k : Nat) (v : Int32) (ho : o ≠ 64) : am_upd (hs h g) o k v = hs (am_upd h o k v) g := by
  funext q
  by_cases hq : q = 64
  · subst hq
    rw [am_upd_ne _ _ _ (Ne.symm ho)]
    rfl
  · rw [hs_off _ _ hq]
    by_cases hqo : q = o
    · subst hqo
      rw [am_upd_self, am_upd_self, hs_off _ _ ho]
    · rw [am_upd_ne _ _ _ hqo, am_upd_ne _ _ _ hqo, hs_off _ _ hq]
theorem hs_up63 (h : am_H) (g : Nat → Nat) (k : Nat) (v : Int32) : am_upd (hs h g) 63 k v = hs (am_upd h 63 k v) g := hs_upo h g k v (by decide)
section RL
variable {E : am_E} {d : Nat} {h : am_H} {Q : Int32 → am_H → Prop} {g : Nat → Nat}
theorem r_isIn {v a b : Int32} (h1 : a ≤ v ∧ v ≤ b → Q (nI 1) h) (h0 : ¬ (a ≤ v ∧ v ≤ b) → Q (nI 0) h) : am_C tT E d mX12_isIn [.inl v, .inl a, .inl b] h Q := by
  refine am_C.of (by decide) (Nat.le_of_ble_eq_true rfl) ?_
  show am_R tT E _ mX12_isIn _ 0 [some (.inl v), some (.inl a), some (.inl b)] [] h
  refine am_goS gX12_isIn [] 400 ?_
  simp only [am_eqs, am_eqk, am_eqv, lX12_isIn_0, fx_ref, ↓reduceIte, List.mem_cons, List.not_mem_nil, or_false, or_self, false_or, true_and, and_true, Nat.reduceEqDiff, reduceCtorEq, List.length_cons, List.length_nil, Nat.reduceAdd, Nat.reduceLeDiff, Nat.reduceSub, Nat.reduceLT, Nat.zero_le, Nat.zero_add, forall_const, not_true_eq_false, not_false_eq_true, false_implies, true_implies, implies_true, Nat.zero_lt_succ, am_z0, am_z1]
  refine ⟨fun c => h0 fun z => ?_, fun c => ⟨fun c2 => h0 fun z => ?_, fun c2 => h1 ⟨Int32.not_lt.mp c, Int32.not_lt.mp c2⟩⟩⟩
  · exact Int32.not_lt.mpr z.1 c
  · exact Int32.not_lt.mpr z.2 c2
theorem r_own {p f : Nat} (hp : p < 8) (hf : f < 16) (hq : Q (nI (og g p f)) (hs h g)) : am_C tT E d mX12_own [.inr 63, .inl (nI p), .inl (nI f)] (hs h g) Q := by
  refine am_C.of (by decide) (Nat.le_of_ble_eq_true rfl) ?_
  show am_R tT E _ mX12_own _ 0 [some (.inr 63), some (.inl (nI p)), some (.inl (nI f))] [] (hs h g)
  refine am_goS gX12_own [] 400 ?_
  simp only [am_eqs, am_eqk, am_eqv, lX12_own_0, fx_ref, ↓reduceIte, List.mem_cons, List.not_mem_nil, or_false, or_self, false_or, true_and, and_true, Nat.reduceEqDiff, reduceCtorEq, List.length_cons, List.length_nil, Nat.reduceAdd, Nat.reduceLeDiff, Nat.reduceSub, Nat.reduceLT, Nat.zero_le, Nat.zero_add, forall_const, not_true_eq_false, not_false_eq_true, false_implies, true_implies, implies_true, Nat.zero_lt_succ, am_z0, am_z1]
  simp (disch := omega) only [hs_at, hs_put, hs_63, ni_add, ni_mul, ni_clamp, ni_in, ni_eq, ni_lt, ni_le, ni_sub, Nat.reduceAdd, Nat.reduceMul, Nat.reduceSub]
  exact ⟨by omega, hq⟩
theorem r_gives {p f v : Nat} (hp : p < 8) (hf : f < 16) (hq : Q 0 (hs h (nup g (90 + 16 * p + f) v))) : am_C tT E d mX12_gives [.inr 63, .inl (nI p), .inl (nI f), .inl (nI v)] (hs h g) Q := by
  refine am_C.of (by decide) (Nat.le_of_ble_eq_true rfl) ?_
  show am_R tT E _ mX12_gives _ 0 [some (.inr 63), some (.inl (nI p)), some (.inl (nI f)), some (.inl (nI v))] [] (hs h g)
  refine am_goS gX12_gives [] 400 ?_
  simp only [am_eqs, am_eqk, am_eqv, lX12_gives_0, fx_ref, ↓reduceIte, List.mem_cons, List.not_mem_nil, or_false, or_self, false_or, true_and, and_true, Nat.reduceEqDiff, reduceCtorEq, List.length_cons, List.length_nil, Nat.reduceAdd, Nat.reduceLeDiff, Nat.reduceSub, Nat.reduceLT, Nat.zero_le, Nat.zero_add, forall_const, not_true_eq_false, not_false_eq_true, false_implies, true_implies, implies_true, Nat.zero_lt_succ, am_z0, am_z1]
  simp (disch := omega) only [hs_at, hs_put, hs_63, ni_add, ni_mul, ni_clamp, ni_in, ni_eq, ni_lt, ni_le, ni_sub, Nat.reduceAdd, Nat.reduceMul, Nat.reduceSub]
  exact ⟨by omega, hq⟩
theorem r_isName {v : Int32} (hN : g 0 < 2147483648) (h1 : isB v (g 0) → Q (nI 1) (hs h g)) (h0 : ¬ isB v (g 0) → Q (nI 0) (hs h g)) : am_C tT E (d + 1) mX12_isName [.inr 63, .inl v] (hs h g) Q := by
  refine am_C.of (by decide) (Nat.le_of_ble_eq_true rfl) ?_
  show am_R tT E _ mX12_isName _ 0 [some (.inr 63), some (.inl v)] [] (hs h g)
  refine am_goS gX12_isName [] 400 ?_
  simp only [am_eqs, am_eqk, am_eqv, lX12_isName_0, fx_ref, ↓reduceIte, List.mem_cons, List.not_mem_nil, or_false, or_self, false_or, true_and, and_true, Nat.reduceEqDiff, reduceCtorEq, List.length_cons, List.length_nil, Nat.reduceAdd, Nat.reduceLeDiff, Nat.reduceSub, Nat.reduceLT, Nat.zero_le, Nat.zero_add, forall_const, not_true_eq_false, not_false_eq_true, false_implies, true_implies, implies_true, Nat.zero_lt_succ, am_z0, am_z1]
  simp (disch := omega) only [hs_at, hs_put, hs_63, ni_add, ni_mul, ni_clamp, ni_in, ni_eq, ni_lt, ni_le, ni_sub, Nat.reduceAdd, Nat.reduceMul, Nat.reduceSub]
  refine ⟨by omega, r_isIn (fun c => ?_) (fun c => ?_)⟩
  · exact ⟨Or.inr rfl, h1 ((isB_le hN).mp c)⟩
  · exact ⟨Or.inl rfl, h0 (fun z => c ((isB_le hN).mpr z))⟩
theorem r_isPerson {v : Int32} (hN : g 1 < 2147483648) (h1 : isB v (g 1) → Q (nI 1) (hs h g)) (h0 : ¬ isB v (g 1) → Q (nI 0) (hs h g)) : am_C tT E (d + 1) mX12_isPerson [.inr 63, .inl v] (hs h g) Q := by
  refine am_C.of (by decide) (Nat.le_of_ble_eq_true rfl) ?_
  show am_R tT E _ mX12_isPerson _ 0 [some (.inr 63), some (.inl v)] [] (hs h g)
  refine am_goS gX12_isPerson [] 400 ?_
  simp only [am_eqs, am_eqk, am_eqv, lX12_isPerson_0, fx_ref, ↓reduceIte, List.mem_cons, List.not_mem_nil, or_false, or_self, false_or, true_and, and_true, Nat.reduceEqDiff, reduceCtorEq, List.length_cons, List.length_nil, Nat.reduceAdd, Nat.reduceLeDiff, Nat.reduceSub, Nat.reduceLT, Nat.zero_le, Nat.zero_add, forall_const, not_true_eq_false, not_false_eq_true, false_implies, true_implies, implies_true, Nat.zero_lt_succ, am_z0, am_z1]
  simp (disch := omega) only [hs_at, hs_put, hs_63, ni_add, ni_mul, ni_clamp, ni_in, ni_eq, ni_lt, ni_le, ni_sub, Nat.reduceAdd, Nat.reduceMul, Nat.reduceSub]
  refine ⟨by omega, r_isIn (fun c => ?_) (fun c => ?_)⟩
  · exact ⟨Or.inr rfl, h1 ((isB_le hN).mp c)⟩
  · exact ⟨Or.inl rfl, h0 (fun z => c ((isB_le hN).mpr z))⟩
theorem r_isBridge {v : Int32} (hN : g 2 < 2147483648) (h1 : isB v (g 2) → Q (nI 1) (hs h g)) (h0 : ¬ isB v (g 2) → Q (nI 0) (hs h g)) : am_C tT E (d + 1) mX12_isBridge [.inr 63, .inl v] (hs h g) Q := by
  refine am_C.of (by decide) (Nat.le_of_ble_eq_true rfl) ?_
  show am_R tT E _ mX12_isBridge _ 0 [some (.inr 63), some (.inl v)] [] (hs h g)
  refine am_goS gX12_isBridge [] 400 ?_
  simp only [am_eqs, am_eqk, am_eqv, lX12_isBridge_0, fx_ref, ↓reduceIte, List.mem_cons, List.not_mem_nil, or_false, or_self, false_or, true_and, and_true, Nat.reduceEqDiff, reduceCtorEq, List.length_cons, List.length_nil, Nat.reduceAdd, Nat.reduceLeDiff, Nat.reduceSub, Nat.reduceLT, Nat.zero_le, Nat.zero_add, forall_const, not_true_eq_false, not_false_eq_true, false_implies, true_implies, implies_true, Nat.zero_lt_succ, am_z0, am_z1]
  simp (disch := omega) only [hs_at, hs_put, hs_63, ni_add, ni_mul, ni_clamp, ni_in, ni_eq, ni_lt, ni_le, ni_sub, Nat.reduceAdd, Nat.reduceMul, Nat.reduceSub]
  refine ⟨by omega, r_isIn (fun c => ?_) (fun c => ?_)⟩
  · exact ⟨Or.inr rfl, h1 ((isB_le hN).mp c)⟩
  · exact ⟨Or.inl rfl, h0 (fun z => c ((isB_le hN).mpr z))⟩
theorem r_isPlace {v : Int32} (h1 : isB v 8 → Q (nI 1) h) (h0 : ¬ isB v 8 → Q (nI 0) h) : am_C tT E (d + 1) mX12_isPlace [.inl v] h Q := by
  refine am_C.of (by decide) (Nat.le_of_ble_eq_true rfl) ?_
  show am_R tT E _ mX12_isPlace _ 0 [some (.inl v)] [] h
  refine am_goS gX12_isPlace [] 400 ?_
  simp only [am_eqs, am_eqk, am_eqv, lX12_isPlace_0, fx_ref, ↓reduceIte, List.mem_cons, List.not_mem_nil, or_false, or_self, false_or, true_and, and_true, Nat.reduceEqDiff, reduceCtorEq, List.length_cons, List.length_nil, Nat.reduceAdd, Nat.reduceLeDiff, Nat.reduceSub, Nat.reduceLT, Nat.zero_le, Nat.zero_add, forall_const, not_true_eq_false, not_false_eq_true, false_implies, true_implies, implies_true, Nat.zero_lt_succ, am_z0, am_z1]
  refine r_isIn (fun c => ?_) (fun c => ?_)
  · exact ⟨Or.inr rfl, h1 ((isB_c (N := 7) (by decide)).mp c)⟩
  · exact ⟨Or.inl rfl, h0 (fun z => c ((isB_c (N := 7) (by decide)).mpr z))⟩
theorem r_forgets (hq : Q 0 (hs (am_upd h 63 4 (nI 0)) g)) : am_C tT E d mX12_forgets [.inr 63] (hs h g) Q := by
  refine am_C.of (by decide) (Nat.le_of_ble_eq_true rfl) ?_
  show am_R tT E _ mX12_forgets _ 0 [some (.inr 63)] [] (hs h g)
  refine am_goS gX12_forgets [] 400 ?_
  simp only [am_eqs, am_eqk, am_eqv, lX12_forgets_0, fx_ref, ↓reduceIte, List.mem_cons, List.not_mem_nil, or_false, or_self, false_or, true_and, and_true, Nat.reduceEqDiff, reduceCtorEq, List.length_cons, List.length_nil, Nat.reduceAdd, Nat.reduceLeDiff, Nat.reduceSub, Nat.reduceLT, Nat.zero_le, Nat.zero_add, forall_const, not_true_eq_false, not_false_eq_true, false_implies, true_implies, implies_true, Nat.zero_lt_succ, am_z0, am_z1]
  rw [hs_up63]
  exact hq
/-- one has the name n -/
def hasN (g : Nat → Nat) (p n : Nat) : Prop := ∃ i, i < og g p 2 ∧ og g p (5 + i) = n
theorem r_has {p n : Nat} (hp : p < 8) (hn : n < 2147483648) (hm : og g p 2 ≤ 9) (hb : ∀ i, i < og g p 2 → og g p (5 + i) < 2147483648) (h1 : hasN g p n → Q (nI 1) (hs h g)) (h0 : ¬ hasN g p n → Q (nI 0) (hs h g)) : am_C tT E (d + 1) mX12_has [.inr 63, .inl (nI p), .inl (nI n)] (hs h g) Q := by
  refine am_C.of (by decide) (Nat.le_of_ble_eq_true rfl) ?_
  show am_R tT E _ mX12_has _ 0 [some (.inr 63), some (.inl (nI p)), some (.inl (nI n)), none] [] (hs h g)
  refine am_goS gX12_has [2] 400 ?_
  simp only [am_eqs, am_eqk, am_eqv, lX12_has_0, fx_ref, ↓reduceIte, List.mem_cons, List.not_mem_nil, or_false, or_self, false_or, true_and, and_true, Nat.reduceEqDiff, reduceCtorEq, List.length_cons, List.length_nil, Nat.reduceAdd, Nat.reduceLeDiff, Nat.reduceSub, Nat.reduceLT, Nat.zero_le, Nat.zero_add, forall_const, not_true_eq_false, not_false_eq_true, false_implies, true_implies, implies_true, Nat.zero_lt_succ, am_z0, am_z1]
  have loop : ∀ k i, i + k = og g p 2 → (∀ j, j < i → ¬ og g p (5 + j) = n) → am_R tT E (d + 1) mX12_has Q 2 [some (.inr 63), some (.inl (nI p)), some (.inl (nI n)), some (.inl (nI i))] [] (hs h g) := by
    intro k
    induction k with
    | zero =>
      intro i hi hno
      refine am_goS gX12_has [2] 400 ?_
      simp only [am_eqs, am_eqk, am_eqv, lX12_has_0, fx_ref, ↓reduceIte, List.mem_cons, List.not_mem_nil, or_false, or_self, false_or, true_and, and_true, Nat.reduceEqDiff, reduceCtorEq, List.length_cons, List.length_nil, Nat.reduceAdd, Nat.reduceLeDiff, Nat.reduceSub, Nat.reduceLT, Nat.zero_le, Nat.zero_add, forall_const, not_true_eq_false, not_false_eq_true, false_implies, true_implies, implies_true, Nat.zero_lt_succ, am_z0, am_z1]
      refine r_own hp (by omega) ?_
      simp (disch := omega) only [hs_at, hs_put, hs_63, ni_add, ni_mul, ni_clamp, ni_in, ni_eq, ni_lt, ni_le, ni_sub, Nat.reduceAdd, Nat.reduceMul, Nat.reduceSub]
      refine ⟨fun _ => h0 fun ⟨j, h3, h4⟩ => hno j (by omega) h4, fun c => absurd c (by omega)⟩
    | succ k ih =>
      intro i hi hno
      refine am_goS gX12_has [2] 400 ?_
      simp only [am_eqs, am_eqk, am_eqv, lX12_has_0, fx_ref, ↓reduceIte, List.mem_cons, List.not_mem_nil, or_false, or_self, false_or, true_and, and_true, Nat.reduceEqDiff, reduceCtorEq, List.length_cons, List.length_nil, Nat.reduceAdd, Nat.reduceLeDiff, Nat.reduceSub, Nat.reduceLT, Nat.zero_le, Nat.zero_add, forall_const, not_true_eq_false, not_false_eq_true, false_implies, true_implies, implies_true, Nat.zero_lt_succ, am_z0, am_z1]
      refine r_own hp (by omega) ?_
      have hbi := hb i (by omega)
      simp (disch := omega) only [hs_at, hs_put, hs_63, ni_add, ni_mul, ni_clamp, ni_in, ni_eq, ni_lt, ni_le, ni_sub, Nat.reduceAdd, Nat.reduceMul, Nat.reduceSub]
      refine ⟨fun c => absurd c (by omega), fun _ => ?_⟩
      refine r_own hp (by omega) ?_
      simp (disch := omega) only [hs_at, hs_put, hs_63, ni_add, ni_mul, ni_clamp, ni_in, ni_eq, ni_lt, ni_le, ni_sub, Nat.reduceAdd, Nat.reduceMul, Nat.reduceSub]
      refine ⟨fun c => h1 ⟨i, by omega, c⟩, fun c => ih (i + 1) (by omega) fun j hj => ?_⟩
      by_cases hji : j = i
      · rw [hji]; exact c
      · exact hno j (by omega)
  exact loop (og g p 2) 0 (by omega) (fun j hj => absurd hj (by omega))
/-- the names that one has, as bits -/
def hadK (g : Nat → Nat) (p : Nat) : Nat → Nat
  | 0 => 0
  | k + 1 => hadK g p k ||| 1 <<< og g p (5 + k)
def had (g : Nat → Nat) (p : Nat) : Nat := hadK g p (og g p 2)
theorem r_had {p : Nat} (hp : p < 8) (hm : og g p 2 ≤ 9) (hb : ∀ i, i < og g p 2 → og g p (5 + i) < 20) (hq : Q (nI (had g p)) (hs h g)) : am_C tT E (d + 1) mX12_had [.inr 63, .inl (nI p)] (hs h g) Q := by
  refine am_C.of (by decide) (Nat.le_of_ble_eq_true rfl) ?_
  show am_R tT E _ mX12_had _ 0 [some (.inr 63), some (.inl (nI p)), none, none] [] (hs h g)
  refine am_goS gX12_had [4] 400 ?_
  simp only [am_eqs, am_eqk, am_eqv, lX12_had_0, lX12_had_1, fx_ref, ↓reduceIte, List.mem_cons, List.not_mem_nil, or_false, or_self, false_or, true_and, and_true, Nat.reduceEqDiff, reduceCtorEq, List.length_cons, List.length_nil, Nat.reduceAdd, Nat.reduceLeDiff, Nat.reduceSub, Nat.reduceLT, Nat.zero_le, Nat.zero_add, forall_const, not_true_eq_false, not_false_eq_true, false_implies, true_implies, implies_true, Nat.zero_lt_succ, am_z0, am_z1]
  have loop : ∀ k i, i + k = og g p 2 → am_R tT E (d + 1) mX12_had Q 4 [some (.inr 63), some (.inl (nI p)), some (.inl (nI (hadK g p i))), some (.inl (nI i))] [] (hs h g) := by
    intro k
    induction k with
    | zero =>
      intro i hi
      refine am_goS gX12_had [4] 400 ?_
      simp only [am_eqs, am_eqk, am_eqv, lX12_had_0, lX12_had_1, fx_ref, ↓reduceIte, List.mem_cons, List.not_mem_nil, or_false, or_self, false_or, true_and, and_true, Nat.reduceEqDiff, reduceCtorEq, List.length_cons, List.length_nil, Nat.reduceAdd, Nat.reduceLeDiff, Nat.reduceSub, Nat.reduceLT, Nat.zero_le, Nat.zero_add, forall_const, not_true_eq_false, not_false_eq_true, false_implies, true_implies, implies_true, Nat.zero_lt_succ, am_z0, am_z1]
      refine r_own hp (by omega) ?_
      simp (disch := omega) only [hs_at, hs_put, hs_63, ni_add, ni_mul, ni_clamp, ni_in, ni_eq, ni_lt, ni_le, ni_sub, Nat.reduceAdd, Nat.reduceMul, Nat.reduceSub]
      have e : i = og g p 2 := by omega
      refine ⟨fun _ => by rw [e]; exact hq, fun c => absurd c (by omega)⟩
    | succ k ih =>
      intro i hi
      refine am_goS gX12_had [4] 400 ?_
      simp only [am_eqs, am_eqk, am_eqv, lX12_had_0, lX12_had_1, fx_ref, ↓reduceIte, List.mem_cons, List.not_mem_nil, or_false, or_self, false_or, true_and, and_true, Nat.reduceEqDiff, reduceCtorEq, List.length_cons, List.length_nil, Nat.reduceAdd, Nat.reduceLeDiff, Nat.reduceSub, Nat.reduceLT, Nat.zero_le, Nat.zero_add, forall_const, not_true_eq_false, not_false_eq_true, false_implies, true_implies, implies_true, Nat.zero_lt_succ, am_z0, am_z1]
      refine r_own hp (by omega) ?_
      have hbi := hb i (by omega)
      simp (disch := omega) only [hs_at, hs_put, hs_63, ni_add, ni_mul, ni_clamp, ni_in, ni_eq, ni_lt, ni_le, ni_sub, Nat.reduceAdd, Nat.reduceMul, Nat.reduceSub]
      refine ⟨fun c => absurd c (by omega), fun _ => ?_⟩
      refine r_own hp (by omega) ?_
      simp (disch := omega) only [hs_at, hs_put, hs_63, ni_add, ni_mul, ni_clamp, ni_in, ni_eq, ni_lt, ni_le, ni_sub, Nat.reduceAdd, Nat.reduceMul, Nat.reduceSub, ni_shl, ni_or]
      exact ih (i + 1) (by omega)
  exact loop (og g p 2) 0 (by omega)
/-- the letters of one's names together -/
def letK (g : Nat → Nat) (p : Nat) : Nat → Nat
  | 0 => 0
  | k + 1 => letK g p k + g (30 + og g p (5 + k))
def letO (g : Nat → Nat) (p : Nat) : Nat := letK g p (og g p 2)
theorem r_lettersOf {p : Nat} (hp : p < 8) (hm : og g p 2 ≤ 9) (hb : ∀ i, i < og g p 2 → og g p (5 + i) < 20) (hq : Q (nI (letO g p)) (hs h g)) : am_C tT E (d + 1) mX12_lettersOf [.inr 63, .inl (nI p)] (hs h g) Q := by
  refine am_C.of (by decide) (Nat.le_of_ble_eq_true rfl) ?_
  show am_R tT E _ mX12_lettersOf _ 0 [some (.inr 63), some (.inl (nI p)), none, none] [] (hs h g)
  refine am_goS gX12_lettersOf [4] 400 ?_
  simp only [am_eqs, am_eqk, am_eqv, lX12_lettersOf_0, lX12_lettersOf_1, fx_ref, ↓reduceIte, List.mem_cons, List.not_mem_nil, or_false, or_self, false_or, true_and, and_true, Nat.reduceEqDiff, reduceCtorEq, List.length_cons, List.length_nil, Nat.reduceAdd, Nat.reduceLeDiff, Nat.reduceSub, Nat.reduceLT, Nat.zero_le, Nat.zero_add, forall_const, not_true_eq_false, not_false_eq_true, false_implies, true_implies, implies_true, Nat.zero_lt_succ, am_z0, am_z1]
  have loop : ∀ k i, i + k = og g p 2 → am_R tT E (d + 1) mX12_lettersOf Q 4 [some (.inr 63), some (.inl (nI p)), some (.inl (nI (letK g p i))), some (.inl (nI i))] [] (hs h g) := by
    intro k
    induction k with
    | zero =>
      intro i hi
      refine am_goS gX12_lettersOf [4] 400 ?_
      simp only [am_eqs, am_eqk, am_eqv, lX12_lettersOf_0, lX12_lettersOf_1, fx_ref, ↓reduceIte, List.mem_cons, List.not_mem_nil, or_false, or_self, false_or, true_and, and_true, Nat.reduceEqDiff, reduceCtorEq, List.length_cons, List.length_nil, Nat.reduceAdd, Nat.reduceLeDiff, Nat.reduceSub, Nat.reduceLT, Nat.zero_le, Nat.zero_add, forall_const, not_true_eq_false, not_false_eq_true, false_implies, true_implies, implies_true, Nat.zero_lt_succ, am_z0, am_z1]
      refine r_own hp (by omega) ?_
      simp (disch := omega) only [hs_at, hs_put, hs_63, ni_add, ni_mul, ni_clamp, ni_in, ni_eq, ni_lt, ni_le, ni_sub, Nat.reduceAdd, Nat.reduceMul, Nat.reduceSub]
      have e : i = og g p 2 := by omega
      refine ⟨fun _ => by rw [e]; exact hq, fun c => absurd c (by omega)⟩
    | succ k ih =>
      intro i hi
      refine am_goS gX12_lettersOf [4] 400 ?_
      simp only [am_eqs, am_eqk, am_eqv, lX12_lettersOf_0, lX12_lettersOf_1, fx_ref, ↓reduceIte, List.mem_cons, List.not_mem_nil, or_false, or_self, false_or, true_and, and_true, Nat.reduceEqDiff, reduceCtorEq, List.length_cons, List.length_nil, Nat.reduceAdd, Nat.reduceLeDiff, Nat.reduceSub, Nat.reduceLT, Nat.zero_le, Nat.zero_add, forall_const, not_true_eq_false, not_false_eq_true, false_implies, true_implies, implies_true, Nat.zero_lt_succ, am_z0, am_z1]
      refine r_own hp (by omega) ?_
      have hbi := hb i (by omega)
      simp (disch := omega) only [hs_at, hs_put, hs_63, ni_add, ni_mul, ni_clamp, ni_in, ni_eq, ni_lt, ni_le, ni_sub, Nat.reduceAdd, Nat.reduceMul, Nat.reduceSub]
      refine ⟨fun c => absurd c (by omega), fun _ => ?_⟩
      refine r_own hp (by omega) ?_
      simp (disch := omega) only [hs_at, hs_put, hs_63, ni_add, ni_mul, ni_clamp, ni_in, ni_eq, ni_lt, ni_le, ni_sub, Nat.reduceAdd, Nat.reduceMul, Nat.reduceSub]
      exact ⟨by omega, ih (i + 1) (by omega)⟩
  exact loop (og g p 2) 0 (by omega)
/-- the bridge b has an end at pl; its other end -/
def tou (g : Nat → Nat) (b pl : Nat) : Prop := g (50 + 2 * b) = pl ∨ g (51 + 2 * b) = pl
def oth (g : Nat → Nat) (b pl : Nat) : Nat := if g (50 + 2 * b) = pl then g (51 + 2 * b) else g (50 + 2 * b)
theorem r_otherEnd {b pl : Nat} (hb : b < 12) (hpl : pl < 8) (hs1 : g (50 + 2 * b) < 8) (hs2 : g (51 + 2 * b) < 8) (h1 : tou g b pl → Q (nI (oth g b pl)) (hs h g)) (h0 : ¬ tou g b pl → Q (-1) (hs h g)) : am_C tT E d mX12_otherEnd [.inr 63, .inl (nI b), .inl (nI pl)] (hs h g) Q := by
  refine am_C.of (by decide) (Nat.le_of_ble_eq_true rfl) ?_
  show am_R tT E _ mX12_otherEnd _ 0 [some (.inr 63), some (.inl (nI b)), some (.inl (nI pl)), none, none] [] (hs h g)
  refine am_goS gX12_otherEnd [] 400 ?_
  simp only [am_eqs, am_eqk, am_eqv, lX12_otherEnd_0, lX12_otherEnd_1, fx_ref, ↓reduceIte, List.mem_cons, List.not_mem_nil, or_false, or_self, false_or, true_and, and_true, Nat.reduceEqDiff, reduceCtorEq, List.length_cons, List.length_nil, Nat.reduceAdd, Nat.reduceLeDiff, Nat.reduceSub, Nat.reduceLT, Nat.zero_le, Nat.zero_add, forall_const, not_true_eq_false, not_false_eq_true, false_implies, true_implies, implies_true, Nat.zero_lt_succ, am_z0, am_z1]
  simp (disch := omega) only [hs_at, hs_put, hs_63, ni_add, ni_mul, ni_clamp, ni_in, ni_eq, ni_lt, ni_le, ni_sub, Nat.reduceAdd, Nat.reduceMul, Nat.reduceSub]
  rw [show 50 + 2 * b + 1 = 51 + 2 * b by omega]
  simp (disch := omega) only [hs_at, hs_put, hs_63, ni_add, ni_mul, ni_clamp, ni_in, ni_eq, ni_lt, ni_le, ni_sub, Nat.reduceAdd, Nat.reduceMul, Nat.reduceSub]
  refine ⟨by omega, by omega, fun c => ?_, fun c => ⟨fun c2 => ?_, fun c2 => h0 fun z => ?_⟩⟩
  · have := h1 (Or.inl c)
    rw [oth, if_pos c] at this
    exact this
  · have := h1 (Or.inr c2)
    rw [oth, if_neg c] at this
    exact this
  · rcases z with z | z
    · exact c z
    · exact c2 z
end RL
