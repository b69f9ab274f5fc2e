/-! ===== part 91: text of the reference ===== -/
def FL (f : Nat → Int32) : Lw → Nat → Nat → Prop
  | [], _, _ => True
  | l :: r, i, a => f (3 * i) = nI l.1 ∧ f (3 * i + 1) = nI a ∧ f (3 * i + 2) = nI (a + l.2.length) ∧ FL f r (i + 1) (a + l.2.length)
def stW : Lw → List (Nat × Nat)
  | [] => []
  | l :: r => l.2 ++ stW r
def mapL (lw : Lw) : List (Nat × List Nat) := lw.map (fun l => (l.1, tkL l.2))
noncomputable def txL (A : Nat → Nat) : Nat → Nat → Nat → (Nat × Nat) ⊕ List (Nat × List Nat)
  | 0, i, _ => .inl (1, i)
  | m + 1, i, k => if A i = tEND then .inr [] else match lnF A i k with
    | .inl e => .inl e
    | .inr x => match txL A m x.1 (k + 1) with
      | .inl e => .inl e
      | .inr ls => .inr ((x.2.1, x.2.2) :: ls)
def preL (a : List (Nat × List Nat)) (r : (Nat × Nat) ⊕ List (Nat × List Nat)) : (Nat × Nat) ⊕ List (Nat × List Nat) := match r with
  | .inl e => .inl e
  | .inr ls => .inr (a ++ ls)
theorem FL_snoc {f : Nat → Int32} {l : Nat × List (Nat × Nat)} : ∀ (lw : Lw) (i a : Nat), FL f lw i a → f (3 * (i + lw.length)) = nI l.1 → f (3 * (i + lw.length) + 1) = nI (a + (stW lw).length) → f (3 * (i + lw.length) + 2) = nI (a + (stW lw).length + l.2.length) → FL f (lw ++ [l]) i a
  | [], i, a, _, h1, h2, h3 => ⟨h1, h2, h3, trivial⟩
  | x :: r, i, a, h, h1, h2, h3 => by
    simp only [List.length_cons, stW, List.length_append] at h1 h2 h3
    refine ⟨h.1, h.2.1, h.2.2.1, FL_snoc r (i + 1) (a + x.2.length) h.2.2.2 ?_ ?_ ?_⟩
    · rw [show i + 1 + r.length = i + (r.length + 1) by omega]; exact h1
    · rw [show i + 1 + r.length = i + (r.length + 1) by omega, Nat.add_assoc]; exact h2
    · rw [show i + 1 + r.length = i + (r.length + 1) by omega, Nat.add_assoc a]; exact h3
theorem FL_cg {f f' : Nat → Int32} : ∀ (lw : Lw) (i a : Nat), (∀ j, j < 3 * (i + lw.length) → f' j = f j) → FL f lw i a → FL f' lw i a
  | [], _, _, _, _ => trivial
  | x :: r, i, a, hf, h => by
    simp only [List.length_cons] at hf
    exact ⟨by rw [hf _ (by omega)]; exact h.1, by rw [hf _ (by omega)]; exact h.2.1, by rw [hf _ (by omega)]; exact h.2.2.1, FL_cg r (i + 1) _ (fun j hj => hf j (by omega)) h.2.2.2⟩
theorem stW_snoc {l : Nat × List (Nat × Nat)} : ∀ (lw : Lw), stW (lw ++ [l]) = stW lw ++ l.2
  | [] => by simp [stW]
  | x :: r => by rw [List.cons_append, stW, stW, stW_snoc r, List.append_assoc]
theorem mapL_snoc {l : Nat × List (Nat × Nat)} (lw : Lw) : mapL (lw ++ [l]) = mapL lw ++ [(l.1, tkL l.2)] := by simp [mapL]
theorem hs_putv (h : am_H) (g : Nat → Nat) (i : Nat) (v : Int32) : am_upd (hs h g) 64 i v = hs h (nup g i (un v)) := by rw [← hs_put, ni_un]
section RTEXT
variable {E : am_E} {d : Nat} {h : am_H} {Q : Int32 → am_H → Prop} {g : Nat → Nat} {T : Nat → Nat} {n cnt : Nat}
theorem LR_of {g' : Nat → Nat} : ∀ (lw : Lw) (i a : Nat), FL (h 68) lw i a → SF (h 69) (stW lw) a → (∀ l ∈ lw, l.1 ≤ 1) → i + lw.length ≤ 16 → a + (stW lw).length ≤ 400 → g' 865 = i + lw.length → (∀ j, i ≤ j → j < i + lw.length → g' (870 + j) = un (h 68 (3 * j)) ∧ g' (890 + j) = un (h 68 (3 * j + 1)) ∧ g' (910 + j) = un (h 68 (3 * j + 2))) → (∀ j, 2 * a ≤ j → j < 2 * (a + (stW lw).length) → g' (930 + j) = un (h 69 j)) → LRl g' lw i a
  | [], i, a, _, _, _, hi, ha, h865, _, _ => by
    simp only [List.length_nil, Nat.add_zero] at h865 hi
    simp only [stW, List.length_nil] at ha
    exact ⟨h865, hi, by omega⟩
  | l :: r, i, a, hf, hsf, h1, hi, ha, h865, hg1, hg2 => by
    simp only [List.length_cons] at hi h865 hg1
    simp only [stW, List.length_append] at ha hg2 hsf
    have hsplit : ∀ (x y : List (Nat × Nat)) (k : Nat), SF (h 69) (x ++ y) k → SF (h 69) x k ∧ SF (h 69) y (k + x.length) := by
      intro x
      induction x with
      | nil => intro y k hk; exact ⟨trivial, hk⟩
      | cons q x ih =>
        intro y k hk
        obtain ⟨i1, i2⟩ := ih y (k + 1) hk.2.2.1
        refine ⟨⟨hk.1, hk.2.1, i1, hk.2.2.2⟩, ?_⟩
        simp only [List.length_cons]
        rw [show k + (x.length + 1) = k + 1 + x.length by omega]
        exact i2
    have hst : ∀ (x : List (Nat × Nat)) (k : Nat), SF (h 69) x k → (∀ j, 2 * k ≤ j → j < 2 * (k + x.length) → g' (930 + j) = un (h 69 j)) → ST g' x k := by
      intro x
      induction x with
      | nil => intro k _ _; trivial
      | cons q x ih =>
        intro k hk hg
        simp only [List.length_cons] at hg
        refine ⟨?_, ?_, ih (k + 1) hk.2.2.1 (fun j hj1 hj2 => hg j (by omega) (by omega))⟩
        · rw [hg (2 * k) (by omega) (by omega), hk.1, un_ni (by have := hk.2.2.2.1; omega)]
        · intro _
          have := hg (2 * k + 1) (by omega) (by omega)
          rw [show 931 + 2 * k = 930 + (2 * k + 1) by omega, this, hk.2.1, un_ni (by have := hk.2.2.2.2; omega)]
    obtain ⟨s1, s2⟩ := hsplit l.2 (stW r) a hsf
    obtain ⟨k1, k2, k3⟩ := hg1 i (Nat.le_refl _) (by omega)
    have hl1 := h1 l (List.mem_cons_self)
    refine ⟨?_, ?_, ?_, hst l.2 a s1 (fun j hj1 hj2 => hg2 j hj1 (by omega)), LR_of r (i + 1) (a + l.2.length) hf.2.2.2 s2 (fun x hx => h1 x (List.mem_cons_of_mem _ hx)) (by omega) (by omega) (by omega) (fun j hj1 hj2 => hg1 j (by omega) (by omega)) (fun j hj1 hj2 => hg2 j (by omega) (by omega))⟩
    · rw [k1, hf.1, un_ni (by omega)]
    · rw [k2, hf.2.1, un_ni (by omega)]
    · rw [k3, hf.2.2.1, un_ni (by omega)]
theorem r_store {k s : Nat} {v1 : Option am_V} (hk : k ≤ 16) (hs4 : s ≤ 400) (h11 : h 63 11 = nI k) (h12 : h 63 12 = nI s)
    (hq : ∀ g' : Nat → Nat, (∀ j, j < 865 → g' j = g j) → g' 865 = k → (∀ j, j < k → g' (870 + j) = un (h 68 (3 * j)) ∧ g' (890 + j) = un (h 68 (3 * j + 1)) ∧ g' (910 + j) = un (h 68 (3 * j + 2))) → (∀ j, j < 2 * s → g' (930 + j) = un (h 69 j)) → Q (nI k) (hs h g')) :
    am_R tT E d mX12_text Q 98 [some (.inr 63), v1, none] [] (hs h g) := by
  have l2 : ∀ m i (g1 : Nat → Nat), i + m = 2 * s → (∀ j, j < 865 → g1 j = g j) → g1 865 = k → (∀ j, j < k → g1 (870 + j) = un (h 68 (3 * j)) ∧ g1 (890 + j) = un (h 68 (3 * j + 1)) ∧ g1 (910 + j) = un (h 68 (3 * j + 2))) → (∀ j, j < i → g1 (930 + j) = un (h 69 j)) → am_R tT E d mX12_text Q 186 [some (.inr 63), v1, some (.inl (nI i))] [] (hs h g1) := by
    intro m
    induction m with
    | zero =>
      intro i g1 hi f1 f2 f3 f4
      have e : i = 2 * s := by omega
      refine am_goS gX12_text [186] 400 ?_
      simp only [am_eqs, am_eqk, am_eqv, lX12_text_0, lX12_text_1, lX12_text_2, lX12_text_3, lX12_text_4, lX12_text_5, fx_ref, ↓reduceIte, List.mem_cons, List.not_mem_nil, or_false, or_self, false_or, true_and, and_true, Nat.reduceEqDiff, reduceCtorEq, List.length_cons, List.length_nil, Nat.reduceAdd, Nat.reduceLeDiff, Nat.reduceSub, Nat.reduceLT, Nat.zero_le, Nat.zero_add, forall_const, not_true_eq_false, not_false_eq_true, false_implies, true_implies, implies_true, Nat.zero_lt_succ, am_z0, am_z1]
      try simp (disch := omega) only [hs_at, hs_put, hs_63, NH_at, NH_put, NH_cpy, ni_add, ni_mul, ni_clamp, ni_in, ni_eq, ni_lt, ni_le, ni_sub, Nat.reduceAdd, Nat.reduceMul, Nat.reduceSub, eq_self, true_implies, not_true_eq_false, false_implies, and_true, true_and, not_false_eq_true, Nat.reduceEqDiff, Nat.reduceLeDiff, Nat.reduceLT, implies_true, ite_true, ite_false, hs_63, h12, h11]
      exact ⟨fun _ => hq g1 f1 f2 f3 (fun j hj => f4 j (by omega)), fun z => absurd z (by omega)⟩
    | succ m ih =>
      intro i g1 hi f1 f2 f3 f4
      refine am_goS gX12_text [186] 400 ?_
      simp only [am_eqs, am_eqk, am_eqv, lX12_text_0, lX12_text_1, lX12_text_2, lX12_text_3, lX12_text_4, lX12_text_5, fx_ref, ↓reduceIte, List.mem_cons, List.not_mem_nil, or_false, or_self, false_or, true_and, and_true, Nat.reduceEqDiff, reduceCtorEq, List.length_cons, List.length_nil, Nat.reduceAdd, Nat.reduceLeDiff, Nat.reduceSub, Nat.reduceLT, Nat.zero_le, Nat.zero_add, forall_const, not_true_eq_false, not_false_eq_true, false_implies, true_implies, implies_true, Nat.zero_lt_succ, am_z0, am_z1]
      try simp (disch := omega) only [hs_at, hs_put, hs_63, NH_at, NH_put, NH_cpy, ni_add, ni_mul, ni_clamp, ni_in, ni_eq, ni_lt, ni_le, ni_sub, Nat.reduceAdd, Nat.reduceMul, Nat.reduceSub, eq_self, true_implies, not_true_eq_false, false_implies, and_true, true_and, not_false_eq_true, Nat.reduceEqDiff, Nat.reduceLeDiff, Nat.reduceLT, implies_true, ite_true, ite_false, hs_63, h12, h11, hs_off, hs_putv]
      refine ⟨fun z => absurd z (by omega), fun _ => ⟨by omega, by omega, ?_⟩⟩
      refine ih (i + 1) _ (by omega) (fun j hj => ?_) ?_ (fun j hj => ?_) (fun j hj => ?_)
      · rw [nup_ne _ _ (by omega)]; exact f1 j hj
      · rw [nup_ne _ _ (by omega)]; exact f2
      · rw [nup_ne _ _ (by omega), nup_ne _ _ (by omega), nup_ne _ _ (by omega)]; exact f3 j hj
      · by_cases e : j = i
        · rw [e, nup_self]
        · rw [nup_ne _ _ (by omega)]; exact f4 j (by omega)
  have l1 : ∀ m i (g1 : Nat → Nat), i + m = k → (∀ j, j < 865 → g1 j = g j) → g1 865 = k → (∀ j, j < i → g1 (870 + j) = un (h 68 (3 * j)) ∧ g1 (890 + j) = un (h 68 (3 * j + 1)) ∧ g1 (910 + j) = un (h 68 (3 * j + 2))) → am_R tT E d mX12_text Q 112 [some (.inr 63), v1, some (.inl (nI i))] [] (hs h g1) := by
    intro m
    induction m with
    | zero =>
      intro i g1 hi f1 f2 f3
      have e : i = k := by omega
      refine am_goS gX12_text [112, 186] 400 ?_
      simp only [am_eqs, am_eqk, am_eqv, lX12_text_0, lX12_text_1, lX12_text_2, lX12_text_3, lX12_text_4, lX12_text_5, fx_ref, ↓reduceIte, List.mem_cons, List.not_mem_nil, or_false, or_self, false_or, true_and, and_true, Nat.reduceEqDiff, reduceCtorEq, List.length_cons, List.length_nil, Nat.reduceAdd, Nat.reduceLeDiff, Nat.reduceSub, Nat.reduceLT, Nat.zero_le, Nat.zero_add, forall_const, not_true_eq_false, not_false_eq_true, false_implies, true_implies, implies_true, Nat.zero_lt_succ, am_z0, am_z1]
      try simp (disch := omega) only [hs_at, hs_put, hs_63, NH_at, NH_put, NH_cpy, ni_add, ni_mul, ni_clamp, ni_in, ni_eq, ni_lt, ni_le, ni_sub, Nat.reduceAdd, Nat.reduceMul, Nat.reduceSub, eq_self, true_implies, not_true_eq_false, false_implies, and_true, true_and, not_false_eq_true, Nat.reduceEqDiff, Nat.reduceLeDiff, Nat.reduceLT, implies_true, ite_true, ite_false, hs_63, h11]
      exact ⟨fun _ => l2 (2 * s) 0 g1 (by omega) f1 f2 (fun j hj => f3 j (by omega)) (fun j hj => absurd hj (by omega)), fun z => absurd z (by omega)⟩
    | succ m ih =>
      intro i g1 hi f1 f2 f3
      refine am_goS gX12_text [112, 186] 400 ?_
      simp only [am_eqs, am_eqk, am_eqv, lX12_text_0, lX12_text_1, lX12_text_2, lX12_text_3, lX12_text_4, lX12_text_5, fx_ref, ↓reduceIte, List.mem_cons, List.not_mem_nil, or_false, or_self, false_or, true_and, and_true, Nat.reduceEqDiff, reduceCtorEq, List.length_cons, List.length_nil, Nat.reduceAdd, Nat.reduceLeDiff, Nat.reduceSub, Nat.reduceLT, Nat.zero_le, Nat.zero_add, forall_const, not_true_eq_false, not_false_eq_true, false_implies, true_implies, implies_true, Nat.zero_lt_succ, am_z0, am_z1]
      try simp (disch := omega) only [hs_at, hs_put, hs_63, NH_at, NH_put, NH_cpy, ni_add, ni_mul, ni_clamp, ni_in, ni_eq, ni_lt, ni_le, ni_sub, Nat.reduceAdd, Nat.reduceMul, Nat.reduceSub, eq_self, true_implies, not_true_eq_false, false_implies, and_true, true_and, not_false_eq_true, Nat.reduceEqDiff, Nat.reduceLeDiff, Nat.reduceLT, implies_true, ite_true, ite_false, hs_63, h11, hs_off, hs_putv]
      refine ⟨fun z => absurd z (by omega), fun _ => ⟨by omega, by omega, by omega, by omega, by omega, by omega, ?_⟩⟩
      refine ih (i + 1) _ (by omega) (fun j hj => ?_) ?_ (fun j hj => ?_)
      · rw [nup_ne _ _ (by omega), nup_ne _ _ (by omega), nup_ne _ _ (by omega)]; exact f1 j hj
      · rw [nup_ne _ _ (by omega), nup_ne _ _ (by omega), nup_ne _ _ (by omega)]; exact f2
      · by_cases e : j = i
        · subst e
          refine ⟨?_, ?_, ?_⟩
          · rw [nup_ne _ _ (by omega), nup_ne _ _ (by omega), nup_self]
          · rw [nup_ne _ _ (by omega), nup_self]
          · rw [nup_self]
        · obtain ⟨a1, a2, a3⟩ := f3 j (by omega)
          refine ⟨?_, ?_, ?_⟩ <;> rw [nup_ne _ _ (by omega), nup_ne _ _ (by omega), nup_ne _ _ (by omega)]
          · exact a1
          · exact a2
          · exact a3
  refine am_goS gX12_text [112] 400 ?_
  simp only [am_eqs, am_eqk, am_eqv, lX12_text_0, lX12_text_1, lX12_text_2, lX12_text_3, lX12_text_4, lX12_text_5, fx_ref, ↓reduceIte, List.mem_cons, List.not_mem_nil, or_false, or_self, false_or, true_and, and_true, Nat.reduceEqDiff, reduceCtorEq, List.length_cons, List.length_nil, Nat.reduceAdd, Nat.reduceLeDiff, Nat.reduceSub, Nat.reduceLT, Nat.zero_le, Nat.zero_add, forall_const, not_true_eq_false, not_false_eq_true, false_implies, true_implies, implies_true, Nat.zero_lt_succ, am_z0, am_z1]
  try simp (disch := omega) only [hs_at, hs_put, hs_63, NH_at, NH_put, NH_cpy, ni_add, ni_mul, ni_clamp, ni_in, ni_eq, ni_lt, ni_le, ni_sub, Nat.reduceAdd, Nat.reduceMul, Nat.reduceSub, eq_self, true_implies, not_true_eq_false, false_implies, and_true, true_and, not_false_eq_true, Nat.reduceEqDiff, Nat.reduceLeDiff, Nat.reduceLT, implies_true, ite_true, ite_false, hs_63, h11]
  exact l1 k 0 _ (by omega) (fun j hj => nup_ne _ _ (by omega)) (nup_self _ _ _) (fun j hj => absurd hj (by omega))
end RTEXT
