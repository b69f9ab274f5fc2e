/-! ===== part 60: image, both sides ===== -/
section IMG2
variable {E : am_E} {d : Nat} {h : am_H} {Q : Int32 → am_H → Prop} {g g0 : Nat → Nat} {c : Nat → Nat → Nat} {t : Nat}
def shW (c : Nat → Nat → Nat) : Nat → Nat → Nat := fun o => c (o + 26)
def EQW (c1 c2 : Nat → Nat → Nat) : Prop := (∀ k, k = 0 ∨ k = 1 ∨ k = 2 ∨ k = 3 ∨ k = 4 ∨ k = 7 ∨ k = 9 → c2 1 k = c1 1 k) ∧ (∀ j, j < 20 → c2 2 j = c1 2 j ∧ c2 3 j = c1 3 j) ∧ (∀ j, j < 400 → c2 4 j = c1 4 j) ∧ (∀ j, j < 12 → c2 5 j = c1 5 j) ∧ c2 6 0 = c1 6 0 ∧ (∀ o j, 7 ≤ o → o ≤ 12 → j < 8 → c2 o j = c1 o j) ∧ (∀ j, j < 72 → c2 13 j = c1 13 j) ∧ c2 14 0 = c1 14 0 ∧ (∀ j, j < 24 → c2 15 j = c1 15 j) ∧ (∀ j, j < 240 → c2 16 j = c1 16 j) ∧ (∀ j, j < 2 → c2 17 j = c1 17 j) ∧ ∀ j, j < 400 → c2 18 j = c1 18 j
theorem eqw_O {c' : Nat → Nat → Nat} (h : CPW 27 1 c c') : EQW c (shW c') := by
  obtain ⟨-, a1, a2, a3, a4, a5, a6, a7, a8, a9, a10, a11, a12⟩ := h
  refine ⟨a1, a2, a3, a4, a5, fun o j h1 h2 hj => ?_, a7, a8, a9, a10, a11, a12⟩
  have := a6 (o - 6) j (by omega) (by omega) hj
  rw [show 27 + 5 + (o - 6) = o + 26 by omega, show 1 + 5 + (o - 6) = o by omega] at this
  exact this
theorem eqw_N {c' : Nat → Nat → Nat} (h : CPW 1 27 c c') : EQW (shW c) c' := by
  obtain ⟨-, a1, a2, a3, a4, a5, a6, a7, a8, a9, a10, a11, a12⟩ := h
  refine ⟨a1, a2, a3, a4, a5, fun o j h1 h2 hj => ?_, a7, a8, a9, a10, a11, a12⟩
  have := a6 (o - 6) j (by omega) (by omega) hj
  rw [show 27 + 5 + (o - 6) = o + 26 by omega, show 1 + 5 + (o - 6) = o by omega] at this
  exact this
theorem ra_eqw {c2 : Nat → Nat → Nat} (h : EQW c c2) (hm9 : ∀ q, q < 8 → og g q 2 ≤ 9) (hA : RA g c) : RA g c2 := by
  obtain ⟨a1, a2, a3, a4, a5, a6, a7, a8, a9, a10, -, -⟩ := h
  obtain ⟨⟨b1, b2, b3, b4, b5, b6, b7⟩, ⟨p1, p2⟩, hk, he⟩ := hA
  refine ⟨⟨?_, fun i hi => ?_, fun i hi => ?_, fun j hj => ?_, fun j hj => ?_, ?_, fun j hj => ?_⟩, ⟨?_, fun p hp => ?_⟩, fun b n hb hn => ?_, fun p hp => ?_⟩
  · rw [a1 0 (by omega), a1 1 (by omega), a1 2 (by omega), a1 3 (by omega), a1 4 (by omega), a1 7 (by omega), a1 9 (by omega)]; exact b1
  · rw [(a2 i hi).1]; exact b2 i hi
  · rw [(a2 i hi).2]; exact b3 i hi
  · rw [a3 j hj]; exact b4 j hj
  · rw [a4 j hj]; exact b5 j hj
  · rw [a8]; exact b6
  · rw [a9 j hj]; exact b7 j hj
  · rw [a5]; exact p1
  · have h9 := hm9 p hp
    rw [a6 7 p (by omega) (by omega) hp, a6 8 p (by omega) (by omega) hp, a6 9 p (by omega) (by omega) hp, a6 11 p (by omega) (by omega) hp, a6 12 p (by omega) (by omega) hp]
    obtain ⟨r0, r1, r3, r6, r2, r5⟩ := p2 p hp
    refine ⟨r0, r1, r3, r6, r2, fun i hi => ?_⟩
    rw [a7 _ (by omega)]; exact r5 i hi
  · rw [a10 _ (by omega)]; exact hk b n hb hn
  · rw [a6 10 p (by omega) (by omega) hp]; exact he p hp
theorem CS_eq {f f' : Nat → Nat} : ∀ (l : List Nat) (a : Nat), (∀ j, a ≤ j → j < a + l.length → f' j = f j) → CS f l a → CS f' l a
  | [], _, _, _ => trivial
  | x :: r, a, h, hc => by
    simp only [List.length_cons] at h
    refine ⟨?_, CS_eq r (a + 1) (fun j h1 h2 => h j (by omega) (by omega)) hc.2⟩
    rw [h a (by omega) (by omega)]; exact hc.1
theorem lc_eqw {lw : Lw} {c2 : Nat → Nat → Nat} (h : EQW c c2) (hL : LC c lw) : LC c2 lw := by
  obtain ⟨-, -, -, -, -, -, -, -, -, -, a11, a12⟩ := h
  obtain ⟨l0, l1, l2, l3⟩ := hL
  refine ⟨by rw [a11 0 (by omega)]; exact l0, by rw [a11 1 (by omega)]; exact l1, l2, CS_eq _ _ (fun j h1 h2 => a12 j (by omega)) l3⟩
theorem ci_image {v : Nat} (hv : v ≤ 1) (hb : c 0 2 ≤ 1)
    (h1 : v = 1 → ∀ c', (∀ o, o ≠ 0 → o < 27 ∨ 44 < o → c' o = c o) → (∀ k, k ≠ 2 → c' 0 k = c 0 k) → c' 0 2 = 1 → EQW c (shW c') → Q (nI 1) (NH c'))
    (h0 : v = 0 → c 0 2 = 0 → Q (nI 0) (NH c))
    (h2 : v = 0 → c 0 2 = 1 → ∀ c', (∀ o, o ≠ 53 → o < 1 ∨ 18 < o → c' o = c o) → c' 53 0 = 0 → EQW (shW c) c' → Q (nI 1) (NH c')) :
    am_C tT E (d + 3) mX11_image [.inr 0, .inl (nI v)] (NH c) Q := by
  refine am_C.of (by decide) (Nat.le_of_ble_eq_true rfl) ?_
  show am_R tT E _ mX11_image _ 0 [some (.inr 0), some (.inl (nI v))] [] (NH c)
  refine am_goS gX11_image [] 400 ?_
  simp only [am_eqs, am_eqk, am_eqv, lX11_image_0, lX11_image_1, fx_class, NH_at, NH_put, ↓reduceIte, List.mem_cons, List.not_mem_nil, or_false, or_self, false_or, true_and, and_true, Nat.reduceEqDiff, reduceCtorEq, List.length_cons, List.length_nil, Nat.reduceAdd, Nat.reduceLeDiff, Nat.reduceSub, Nat.reduceLT, Nat.zero_le, Nat.zero_add, forall_const, not_true_eq_false, not_false_eq_true, false_implies, true_implies, implies_true, Nat.zero_lt_succ, am_z0, am_z1]
  simp (disch := omega) only [hs_at, hs_put, hs_63, NH_at, NH_put, NH_cpy, ni_add, ni_mul, ni_clamp, ni_in, ni_eq, ni_lt, ni_le, ni_sub, Nat.reduceAdd, Nat.reduceMul, Nat.reduceSub, eq_self, true_implies, not_true_eq_false, false_implies, and_true, true_and, not_false_eq_true, Nat.reduceEqDiff, Nat.reduceLeDiff, Nat.reduceLT, implies_true, ite_true, ite_false]
  refine ⟨fun e => ⟨fun e0 => ?_, fun e0 => ?_⟩, fun e => ?_⟩
  · exact h0 e (by omega)
  · refine c_cpWN (fun c' hc => ?_)
    refine c_tforget ?_
    refine h2 e (by omega) _ (fun o x y => ?_) ?_ ?_
    · rw [cup_ne _ _ _ x]; exact hc.1 o (by omega)
    · rw [cup_self, nup_self]
    · have := eqw_N hc
      unfold EQW at *
      simp (disch := omega) only [cup_ne]
      obtain ⟨a1, a2, a3, a4, a5, a6, a7⟩ := this
      exact ⟨a1, a2, a3, a4, a5, fun o j x y hj => by rw [cup_ne _ _ _ (by omega)]; exact a6 o j x y hj, a7⟩
  · refine c_cpWO (fun c' hc => ?_)
    simp (disch := omega) only [hs_at, hs_put, hs_63, NH_at, NH_put, NH_cpy, ni_add, ni_mul, ni_clamp, ni_in, ni_eq, ni_lt, ni_le, ni_sub, Nat.reduceAdd, Nat.reduceMul, Nat.reduceSub, eq_self, true_implies, not_true_eq_false, false_implies, and_true, true_and, not_false_eq_true, Nat.reduceEqDiff, Nat.reduceLeDiff, Nat.reduceLT, implies_true, ite_true, ite_false]
    have := eqw_O hc
    refine h1 (by omega) _ (fun o x y => ?_) (fun k hk => ?_) ?_ ?_
    · rw [cup_ne _ _ _ x]; exact hc.1 o (by omega)
    · rw [cup_self, nup_ne _ _ hk, hc.1 0 (by omega)]
    · rw [cup_self, nup_self]
    · have e2 : ∀ o, shW (cup c' 0 2 1) o = shW c' o := fun o => cup_ne _ _ _ (by omega)
      unfold EQW at *
      simp only [e2]
      exact this
theorem ri_image {v : Nat} {gk : Nat → Nat} (hv : v ≤ 1) (hi : Nat) (hb : hi ≤ 1) (h5 : h 63 5 = nI hi) (hk : hi = 1 → ∀ j, j < 1750 → h 65 j = nI (gk j))
    (h1 : v = 1 → ∀ h' : am_H, (∀ o, o ≠ 63 → o ≠ 65 → h' o = h o) → (∀ k, k ≠ 5 → h' 63 k = h 63 k) → h' 63 5 = nI 1 → (∀ j, j < 1750 → h' 65 j = nI (g j)) → Q (nI 1) (hs h' g))
    (h0 : v = 0 → hi = 0 → Q (nI 0) (hs h g))
    (h2 : v = 0 → hi = 1 → ∀ h' : am_H, (∀ o, o ≠ 63 → h' o = h o) → (∀ k, k ≠ 5 → k ≠ 4 → h' 63 k = h 63 k) → h' 63 5 = nI 1 → h' 63 4 = nI 0 → Q (nI 1) (hs h' (fun j => if j < 1750 then gk j else g j))) :
    am_C tT E (d + 1) mX12_image [.inr 63, .inl (nI v)] (hs h g) Q := by
  have loop1 : v = 1 → ∀ n k (h' : am_H), k + n = 1750 → (∀ o, o ≠ 65 → h' o = h o) → (∀ j, j < k → h' 65 j = nI (g j)) → am_R tT E (d + 1) mX12_image Q 15 [some (.inr 63), some (.inl (nI v)), some (.inl (nI k))] [] (hs h' g) := by
    intro hv1 n
    subst hv1
    induction n with
    | zero =>
      intro k h' hk f1 f2
      refine am_goS gX12_image [15] 400 ?_
      simp only [am_eqs, am_eqk, am_eqv, lX12_image_0, lX12_image_1, fx_ref, ↓reduceIte, List.mem_cons, List.not_mem_nil, or_false, or_self, false_or, true_and, and_true, Nat.reduceEqDiff, reduceCtorEq, List.length_cons, List.length_nil, Nat.reduceAdd, Nat.reduceLeDiff, Nat.reduceSub, Nat.reduceLT, Nat.zero_le, Nat.zero_add, forall_const, not_true_eq_false, not_false_eq_true, false_implies, true_implies, implies_true, Nat.zero_lt_succ, am_z0, am_z1]
      simp (disch := omega) only [hs_at, hs_put, hs_63, NH_at, NH_put, NH_cpy, ni_add, ni_mul, ni_clamp, ni_in, ni_eq, ni_lt, ni_le, ni_sub, Nat.reduceAdd, Nat.reduceMul, Nat.reduceSub, eq_self, true_implies, not_true_eq_false, false_implies, and_true, true_and, not_false_eq_true, Nat.reduceEqDiff, Nat.reduceLeDiff, Nat.reduceLT, implies_true, ite_true, ite_false, hs_up63]
      refine ⟨fun _ => ?_, fun z => absurd z (by omega)⟩
      refine h1 rfl _ (fun o x y => ?_) (fun j hj => ?_) (am_upd_at _ _ _ _) (fun j hj => ?_)
      · rw [am_upd_ne _ _ _ x]; exact f1 o y
      · rw [am_upd_self]; simp only [upd, if_neg hj]; rw [f1 63 (by omega)]
      · rw [am_upd_ne _ _ _ (by omega)]; exact f2 j (by omega)
    | succ n ih =>
      intro k h' hk f1 f2
      refine am_goS gX12_image [15] 400 ?_
      simp only [am_eqs, am_eqk, am_eqv, lX12_image_0, lX12_image_1, fx_ref, ↓reduceIte, List.mem_cons, List.not_mem_nil, or_false, or_self, false_or, true_and, and_true, Nat.reduceEqDiff, reduceCtorEq, List.length_cons, List.length_nil, Nat.reduceAdd, Nat.reduceLeDiff, Nat.reduceSub, Nat.reduceLT, Nat.zero_le, Nat.zero_add, forall_const, not_true_eq_false, not_false_eq_true, false_implies, true_implies, implies_true, Nat.zero_lt_succ, am_z0, am_z1]
      simp (disch := omega) only [hs_at, hs_put, hs_63, NH_at, NH_put, NH_cpy, ni_add, ni_mul, ni_clamp, ni_in, ni_eq, ni_lt, ni_le, ni_sub, Nat.reduceAdd, Nat.reduceMul, Nat.reduceSub, eq_self, true_implies, not_true_eq_false, false_implies, and_true, true_and, not_false_eq_true, Nat.reduceEqDiff, Nat.reduceLeDiff, Nat.reduceLT, implies_true, ite_true, ite_false, hs_upo]
      refine ⟨fun z => absurd z (by omega), fun _ => ⟨by omega, by omega, ?_⟩⟩
      refine ih (k + 1) _ (by omega) (fun o x => ?_) (fun j hj => ?_)
      · rw [am_upd_ne _ _ _ x]; exact f1 o x
      · rw [am_upd_self]
        by_cases e : j = k
        · rw [e]; simp [upd]
        · simp only [upd, if_neg e]; exact f2 j (by omega)
  have loop0 : v = 0 → hi = 1 → ∀ n k, k + n = 1750 → am_R tT E (d + 1) mX12_image Q 15 [some (.inr 63), some (.inl (nI v)), some (.inl (nI k))] [] (hs h (fun j => if j < k then gk j else g j)) := by
    intro hv0 hi1 n
    subst hv0
    induction n with
    | zero =>
      intro k hkn
      have e : k = 1750 := by omega
      subst e
      refine am_goS gX12_image [15] 400 ?_
      simp only [am_eqs, am_eqk, am_eqv, lX12_image_0, lX12_image_1, fx_ref, ↓reduceIte, List.mem_cons, List.not_mem_nil, or_false, or_self, false_or, true_and, and_true, Nat.reduceEqDiff, reduceCtorEq, List.length_cons, List.length_nil, Nat.reduceAdd, Nat.reduceLeDiff, Nat.reduceSub, Nat.reduceLT, Nat.zero_le, Nat.zero_add, forall_const, not_true_eq_false, not_false_eq_true, false_implies, true_implies, implies_true, Nat.zero_lt_succ, am_z0, am_z1]
      simp (disch := omega) only [hs_at, hs_put, hs_63, NH_at, NH_put, NH_cpy, ni_add, ni_mul, ni_clamp, ni_in, ni_eq, ni_lt, ni_le, ni_sub, Nat.reduceAdd, Nat.reduceMul, Nat.reduceSub, eq_self, true_implies, not_true_eq_false, false_implies, and_true, true_and, not_false_eq_true, Nat.reduceEqDiff, Nat.reduceLeDiff, Nat.reduceLT, implies_true, ite_true, ite_false]
      refine r_forgets ?_
      rw [hs_up63]
      refine h2 rfl hi1 _ (fun o x => ?_) (fun j x y => ?_) (am_upd_at _ _ _ _) ?_
      · rw [am_upd_ne _ _ _ x, am_upd_ne _ _ _ x]
      · rw [am_upd_self]; simp only [upd, if_neg x]; rw [am_upd_self]; simp only [upd, if_neg y]
      · rw [am_upd_self]; simp only [upd]; rw [am_upd_self]; simp [upd]
    | succ n ih =>
      intro k hkn
      have hx := hk hi1 k (by omega)
      have hnx := ih (k + 1) (by omega)
      refine am_goS gX12_image [15] 400 ?_
      simp only [am_eqs, am_eqk, am_eqv, lX12_image_0, lX12_image_1, fx_ref, ↓reduceIte, List.mem_cons, List.not_mem_nil, or_false, or_self, false_or, true_and, and_true, Nat.reduceEqDiff, reduceCtorEq, List.length_cons, List.length_nil, Nat.reduceAdd, Nat.reduceLeDiff, Nat.reduceSub, Nat.reduceLT, Nat.zero_le, Nat.zero_add, forall_const, not_true_eq_false, not_false_eq_true, false_implies, true_implies, implies_true, Nat.zero_lt_succ, am_z0, am_z1]
      simp (disch := omega) only [hs_at, hs_put, hs_63, NH_at, NH_put, NH_cpy, ni_add, ni_mul, ni_clamp, ni_in, ni_eq, ni_lt, ni_le, ni_sub, Nat.reduceAdd, Nat.reduceMul, Nat.reduceSub, eq_self, true_implies, not_true_eq_false, false_implies, and_true, true_and, not_false_eq_true, Nat.reduceEqDiff, Nat.reduceLeDiff, Nat.reduceLT, implies_true, ite_true, ite_false, hs_off, hx]
      refine ⟨fun z => absurd z (by omega), fun _ => ⟨by omega, by omega, ?_⟩⟩
      have e : nup (fun j => if j < k then gk j else g j) k (gk k) = (fun j => if j < k + 1 then gk j else g j) := by
        funext j
        rw [nup_app]
        grind
      rw [e]
      exact hnx
  refine am_C.of (by decide) (Nat.le_of_ble_eq_true rfl) ?_
  show am_R tT E _ mX12_image _ 0 [some (.inr 63), some (.inl (nI v)), none] [] (hs h g)
  refine am_goS gX12_image [15] 400 ?_
  simp only [am_eqs, am_eqk, am_eqv, lX12_image_0, lX12_image_1, fx_ref, ↓reduceIte, List.mem_cons, List.not_mem_nil, or_false, or_self, false_or, true_and, and_true, Nat.reduceEqDiff, reduceCtorEq, List.length_cons, List.length_nil, Nat.reduceAdd, Nat.reduceLeDiff, Nat.reduceSub, Nat.reduceLT, Nat.zero_le, Nat.zero_add, forall_const, not_true_eq_false, not_false_eq_true, false_implies, true_implies, implies_true, Nat.zero_lt_succ, am_z0, am_z1]
  simp (disch := omega) only [hs_at, hs_put, hs_63, NH_at, NH_put, NH_cpy, ni_add, ni_mul, ni_clamp, ni_in, ni_eq, ni_lt, ni_le, ni_sub, Nat.reduceAdd, Nat.reduceMul, Nat.reduceSub, eq_self, true_implies, not_true_eq_false, false_implies, and_true, true_and, not_false_eq_true, Nat.reduceEqDiff, Nat.reduceLeDiff, Nat.reduceLT, implies_true, ite_true, ite_false, hs_off, h5]
  refine ⟨fun e => ⟨fun e0 => h0 e e0, fun e0 => ?_⟩, fun e => ?_⟩
  · have := loop0 e (by omega) 1750 0 (by omega)
    have eg : (fun j => if j < 0 then gk j else g j) = g := by funext j; rw [if_neg (by omega)]
    rw [eg] at this
    exact this
  · exact loop1 (by omega) 1750 0 h (by omega) (fun _ _ => rfl) (fun j hj => absurd hj (by omega))
end IMG2
