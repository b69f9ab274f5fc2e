/-! ===== part 49: cross of the class ===== -/
section CCROSS
variable {E : am_E} {d : Nat} {h : am_H} {Q : Int32 → am_H → Prop} {g : Nat → Nat} {c : Nat → Nat → Nat} {t : Nat}
def en4 (n p b dy k : Nat) (f : Nat → Nat) : Nat → Nat := nup (nup (nup (nup f (4 * k) p) (4 * k + 1) b) (4 * k + 2) n) (4 * k + 3) dy
theorem c_enter {p b n : Nat} (h7 : c 1 7 ≤ 100) (h1 : c 1 7 < 100 → ∀ c', (∀ o, o ≠ 1 → o ≠ 4 → c' o = c o) → c' 1 = nup (c 1) 7 (c 1 7 + 1) → c' 4 = en4 n p b (c 1 3) (c 1 7) (c 4) → Q (nI 1) (NH c')) (h0 : c 1 7 = 100 → Q (nI 0) (NH c)) : am_C tT E d mX10_enter [.inr 1, .inl (nI p), .inl (nI b), .inl (nI n)] (NH c) Q := by
  refine am_C.of (by decide) (Nat.le_of_ble_eq_true rfl) ?_
  show am_R tT E _ mX10_enter _ 0 [some (.inr 1), some (.inl (nI p)), some (.inl (nI b)), some (.inl (nI n)), none] [] (NH c)
  refine am_goS gX10_enter [] 400 ?_
  simp only [am_eqs, am_eqk, am_eqv, lX10_enter_0, lX10_enter_1, fx_class, NH_at, NH_put, ↓reduceIte, List.mem_cons, List.not_mem_nil, or_false, or_self, false_or, true_and, and_true, Nat.reduceEqDiff, reduceCtorEq, List.length_cons, List.length_nil, Nat.reduceAdd, Nat.reduceLeDiff, Nat.reduceSub, Nat.reduceLT, Nat.zero_le, Nat.zero_add, forall_const, not_true_eq_false, not_false_eq_true, false_implies, true_implies, implies_true, Nat.zero_lt_succ, am_z0, am_z1]
  simp (disch := omega) only [hs_at, hs_put, hs_63, NH_at, NH_put, NH_cpy, ni_add, ni_mul, ni_clamp, ni_in, ni_eq, ni_lt, ni_le, ni_sub, Nat.reduceAdd, Nat.reduceMul, Nat.reduceSub, eq_self, true_implies, not_true_eq_false, false_implies, and_true, true_and, not_false_eq_true, Nat.reduceEqDiff, Nat.reduceLeDiff, Nat.reduceLT, implies_true, ite_true, ite_false, nup_self, nup_ne, cup_self, cup_ne]
  refine ⟨fun e => ?_, fun e => h0 (by omega)⟩
  rw [Nat.mul_comm (c 1 7) 4]
  refine ⟨by omega, by omega, by omega, by omega, ?_⟩
  refine h1 e _ (fun o x1 x4 => ?_) ?_ ?_
  · rw [cup_ne _ _ _ x1, cup_ne _ _ _ x4, cup_ne _ _ _ x4, cup_ne _ _ _ x4, cup_ne _ _ _ x4]
  · simp (disch := omega) only [hs_at, hs_put, hs_63, NH_at, NH_put, NH_cpy, ni_add, ni_mul, ni_clamp, ni_in, ni_eq, ni_lt, ni_le, ni_sub, Nat.reduceAdd, Nat.reduceMul, Nat.reduceSub, eq_self, true_implies, not_true_eq_false, false_implies, and_true, true_and, not_false_eq_true, Nat.reduceEqDiff, Nat.reduceLeDiff, Nat.reduceLT, implies_true, ite_true, ite_false, nup_self, nup_ne, cup_self, cup_ne]
  · unfold en4
    simp (disch := omega) only [hs_at, hs_put, hs_63, NH_at, NH_put, NH_cpy, ni_add, ni_mul, ni_clamp, ni_in, ni_eq, ni_lt, ni_le, ni_sub, Nat.reduceAdd, Nat.reduceMul, Nat.reduceSub, eq_self, true_implies, not_true_eq_false, false_implies, and_true, true_and, not_false_eq_true, Nat.reduceEqDiff, Nat.reduceLeDiff, Nat.reduceLT, implies_true, ite_true, ite_false, nup_self, nup_ne, cup_self, cup_ne]
theorem c_tadd {p b du n lf bk m : Nat} (hm : m ≤ 8) (h53 : c 53 0 = m) (hbk : bk ≤ 1) (hq : ∀ (c' : Nat → Nat → Nat) (mk : Nat), mk = (if m = 8 then 7 else m) → (∀ o, o ≠ 53 → o ≠ 54 → c' o = c o) → c' 53 0 = mk + 1 → (c' 54 (6 * mk) = p ∧ c' 54 (6 * mk + 1) = b ∧ c' 54 (6 * mk + 2) = du ∧ c' 54 (6 * mk + 3) = n ∧ c' 54 (6 * mk + 4) = lf ∧ c' 54 (6 * mk + 5) = bk) → (∀ j, j < 6 * mk → c' 54 j = c 54 (if m = 8 then j + 6 else j)) → Q 0 (NH c')) : am_C tT E (d + 1) mX8_add [.inr 53, .inl (nI p), .inl (nI b), .inl (nI du), .inl (nI n), .inl (nI lf), .inl (nI bk)] (NH c) Q := by
  have tail : ∀ (c1 : Nat → Nat → Nat) (mk : Nat), mk = (if m = 8 then 7 else m) → mk < 8 → c1 53 0 = mk → (∀ o, o ≠ 53 → o ≠ 54 → c1 o = c o) → (∀ j, j < 6 * mk → c1 54 j = c 54 (if m = 8 then j + 6 else j)) → am_R tT E (d + 1) mX8_add Q 31 [some (.inr 53), some (.inl (nI p)), some (.inl (nI b)), some (.inl (nI du)), some (.inl (nI n)), some (.inl (nI lf)), some (.inl (nI bk)), none] [] (NH c1) := by
    intro c1 mk hmk hlt e53 hfr h54
    refine am_goS gX8_add [111] 400 ?_
    simp only [am_eqs, am_eqk, am_eqv, lX8_add_0, lX8_add_1, lX8_add_2, lX8_add_3, fx_class, NH_at, NH_put, ↓reduceIte, List.mem_cons, List.not_mem_nil, or_false, or_self, false_or, true_and, and_true, Nat.reduceEqDiff, reduceCtorEq, List.length_cons, List.length_nil, Nat.reduceAdd, Nat.reduceLeDiff, Nat.reduceSub, Nat.reduceLT, Nat.zero_le, Nat.zero_add, forall_const, not_true_eq_false, not_false_eq_true, false_implies, true_implies, implies_true, Nat.zero_lt_succ, am_z0, am_z1]
    simp (disch := omega) only [hs_at, hs_put, hs_63, NH_at, NH_put, NH_cpy, ni_add, ni_mul, ni_clamp, ni_in, ni_eq, ni_lt, ni_le, ni_sub, Nat.reduceAdd, Nat.reduceMul, Nat.reduceSub, eq_self, true_implies, not_true_eq_false, false_implies, and_true, true_and, not_false_eq_true, Nat.reduceEqDiff, Nat.reduceLeDiff, Nat.reduceLT, implies_true, ite_true, ite_false, nup_self, nup_ne, cup_self, cup_ne, e53]
    rw [Nat.mul_comm mk 6]
    refine ⟨by omega, by omega, by omega, by omega, by omega, fun e => ⟨by omega, ?_⟩, fun e => ⟨by omega, ?_⟩⟩
    all_goals
      refine am_goS gX8_add [] 400 ?_
      simp only [am_eqs, am_eqk, am_eqv, lX8_add_0, lX8_add_1, lX8_add_2, lX8_add_3, fx_class, NH_at, NH_put, ↓reduceIte, List.mem_cons, List.not_mem_nil, or_false, or_self, false_or, true_and, and_true, Nat.reduceEqDiff, reduceCtorEq, List.length_cons, List.length_nil, Nat.reduceAdd, Nat.reduceLeDiff, Nat.reduceSub, Nat.reduceLT, Nat.zero_le, Nat.zero_add, forall_const, not_true_eq_false, not_false_eq_true, false_implies, true_implies, implies_true, Nat.zero_lt_succ, am_z0, am_z1]
    all_goals
      simp (disch := omega) only [hs_at, hs_put, hs_63, NH_at, NH_put, NH_cpy, ni_add, ni_mul, ni_clamp, ni_in, ni_eq, ni_lt, ni_le, ni_sub, Nat.reduceAdd, Nat.reduceMul, Nat.reduceSub, eq_self, true_implies, not_true_eq_false, false_implies, and_true, true_and, not_false_eq_true, Nat.reduceEqDiff, Nat.reduceLeDiff, Nat.reduceLT, implies_true, ite_true, ite_false, nup_self, nup_ne, cup_self, cup_ne, e53]
    all_goals
      refine hq _ mk hmk (fun o x53 x54 => ?_) ?_ ⟨?_, ?_, ?_, ?_, ?_, ?_⟩ (fun j hj => ?_)
    all_goals (first | (rw [cup_ne _ _ _ x53, cup_ne _ _ _ x54, cup_ne _ _ _ x54, cup_ne _ _ _ x54, cup_ne _ _ _ x54, cup_ne _ _ _ x54, cup_ne _ _ _ x54]; exact hfr o x53 x54) | skip)
    all_goals (try simp (disch := omega) only [hs_at, hs_put, hs_63, NH_at, NH_put, NH_cpy, ni_add, ni_mul, ni_clamp, ni_in, ni_eq, ni_lt, ni_le, ni_sub, Nat.reduceAdd, Nat.reduceMul, Nat.reduceSub, eq_self, true_implies, not_true_eq_false, false_implies, and_true, true_and, not_false_eq_true, Nat.reduceEqDiff, Nat.reduceLeDiff, Nat.reduceLT, implies_true, ite_true, ite_false, nup_self, nup_ne, cup_self, cup_ne])
    all_goals (first | omega | exact h54 j hj | exact nup_self _ _ _ | skip)
  refine am_C.of (by decide) (Nat.le_of_ble_eq_true rfl) ?_
  show am_R tT E _ mX8_add _ 0 [some (.inr 53), some (.inl (nI p)), some (.inl (nI b)), some (.inl (nI du)), some (.inl (nI n)), some (.inl (nI lf)), some (.inl (nI bk)), none] [] (NH c)
  refine am_goS gX8_add [31] 400 ?_
  simp only [am_eqs, am_eqk, am_eqv, lX8_add_0, lX8_add_1, lX8_add_2, lX8_add_3, fx_class, NH_at, NH_put, ↓reduceIte, List.mem_cons, List.not_mem_nil, or_false, or_self, false_or, true_and, and_true, Nat.reduceEqDiff, reduceCtorEq, List.length_cons, List.length_nil, Nat.reduceAdd, Nat.reduceLeDiff, Nat.reduceSub, Nat.reduceLT, Nat.zero_le, Nat.zero_add, forall_const, not_true_eq_false, not_false_eq_true, false_implies, true_implies, implies_true, Nat.zero_lt_succ, am_z0, am_z1]
  simp (disch := omega) only [hs_at, hs_put, hs_63, NH_at, NH_put, NH_cpy, ni_add, ni_mul, ni_clamp, ni_in, ni_eq, ni_lt, ni_le, ni_sub, Nat.reduceAdd, Nat.reduceMul, Nat.reduceSub, eq_self, true_implies, not_true_eq_false, false_implies, and_true, true_and, not_false_eq_true, Nat.reduceEqDiff, Nat.reduceLeDiff, Nat.reduceLT, implies_true, ite_true, ite_false, h53]
  refine ⟨fun e => ?_, fun e => ?_⟩
  · exact tail c m (by rw [if_neg (by omega)]) e h53 (fun _ _ _ => rfl) (fun j hj => by rw [if_neg (by omega)])
  · refine ⟨by first | decide | omega, by first | decide | omega, by first | decide | omega, ?_⟩
    refine tail _ 7 (by rw [if_pos (by omega)]) (by omega) ?_ (fun o x53 x54 => ?_) (fun j hj => ?_)
    · simp (disch := omega) only [hs_at, hs_put, hs_63, NH_at, NH_put, NH_cpy, ni_add, ni_mul, ni_clamp, ni_in, ni_eq, ni_lt, ni_le, ni_sub, Nat.reduceAdd, Nat.reduceMul, Nat.reduceSub, eq_self, true_implies, not_true_eq_false, false_implies, and_true, true_and, not_false_eq_true, Nat.reduceEqDiff, Nat.reduceLeDiff, Nat.reduceLT, implies_true, ite_true, ite_false, nup_self, nup_ne, cup_self, cup_ne]
    · funext j
      rw [cup_ne _ _ _ x53, ccp_app, if_neg x54]
    · rw [cup_ne _ _ _ (by omega), ccp_app, if_pos (by omega)]
      rw [if_pos (by omega), if_pos (by omega)]
      congr 1
      omega
def FX (c c' : Nat → Nat → Nat) : Prop := ∀ o, o = 0 ∨ o = 17 ∨ o = 18 ∨ o = 20 ∨ 22 < o → o ≠ 53 → o ≠ 54 → c' o = c o
def TP (c c' : Nat → Nat → Nat) (m mk p b du n lf bk : Nat) : Prop := mk = (if m = 8 then 7 else m) ∧ c' 53 0 = mk + 1 ∧ (c' 54 (6 * mk) = p ∧ c' 54 (6 * mk + 1) = b ∧ c' 54 (6 * mk + 2) = du ∧ c' 54 (6 * mk + 3) = n ∧ c' 54 (6 * mk + 4) = lf ∧ c' 54 (6 * mk + 5) = bk) ∧ ∀ j, j < 6 * mk → c' 54 j = c 54 (if m = 8 then j + 6 else j)
theorem wr_off {p b n j : Nat} (h4 : g 4 ≤ 100) (hj : j ≠ 4) (hj2 : j < 460 ∨ 860 ≤ j) : wrG g p b n j = g j := by
  unfold wrG
  split
  · rfl
  · rw [nup_ne _ _ hj, nup_ne _ _ (by omega), nup_ne _ _ (by omega), nup_ne _ _ (by omega), nup_ne _ _ (by omega)]
theorem ra_peo {g' : Nat → Nat} {c' : Nat → Nat → Nat} (hA : RA g c) (hw : RW g' c') (hm9 : ∀ q, q < 8 → og g q 2 ≤ 9) (hg : ∀ j, j = 1 ∨ 90 ≤ j ∧ j < 460 → g' j = g j) (hc : ∀ o, 6 ≤ o → o ≤ 13 → c' o = c o) (h16 : c' 16 = c 16) : RA g' c' := by
  have ho : ∀ q f, q < 8 → f < 16 → og g' q f = og g q f := fun q f hq hf => hg _ (by omega)
  refine ⟨hw, ?_, ?_, ?_⟩
  · refine rp_same (rp_cell hA.2.1 (hc 6 (by omega) (by omega)) (hc 7 (by omega) (by omega)) (hc 8 (by omega) (by omega)) (hc 9 (by omega) (by omega)) (hc 11 (by omega) (by omega)) (hc 12 (by omega) (by omega)) (hc 13 (by omega) (by omega))) (hg 1 (by omega)) (fun q hq => ?_)
    have := hm9 q hq
    exact ⟨ho q 0 hq (by omega), ho q 1 hq (by omega), ho q 2 hq (by omega), ho q 3 hq (by omega), fun i hi => ho q _ hq (by omega)⟩
  · intro b n hb hn
    rw [h16, hg _ (by omega)]
    exact hA.2.2.1 b n hb hn
  · intro q hq
    rw [hc 10 (by omega) (by omega), ho q 4 hq (by omega)]
    exact hA.2.2.2 q hq
theorem ra_wr {p b n : Nat} {c' : Nat → Nat → Nat} (hA : RA g c) (hm9 : ∀ q, q < 8 → og g q 2 ≤ 9) (h4 : g 4 < 100) (hc : ∀ o, o ≠ 1 → o ≠ 4 → c' o = c o) (h1 : c' 1 = nup (c 1) 7 (c 1 7 + 1)) (h44 : c' 4 = en4 n p b (c 1 3) (c 1 7) (c 4)) : RA (wrG g p b n) c' := by
  have hoff : ∀ j, j ≠ 4 → (j < 460 ∨ 860 ≤ j) → wrG g p b n j = g j := fun j a b => wr_off (by omega) a b
  refine ra_peo hA ?_ hm9 (fun j hj => hoff j (by omega) (by omega)) (fun o x y => hc o (by omega) (by omega)) (hc 16 (by omega) (by omega))
  obtain ⟨⟨a0, a1, a2, a3, a4, a7, a9⟩, b2, b3, b4, b5, b14, b15⟩ := hA.1
  have w4 : wrG g p b n 4 = g 4 + 1 := by unfold wrG; rw [if_neg (by omega), nup_self]
  refine ⟨?_, fun i hi => ?_, fun i hi => ?_, fun j hj => ?_, fun j hj => ?_, ?_, fun j hj => ?_⟩
  · rw [h1]
    simp (disch := omega) only [nup_ne, nup_self, hoff, w4]
    exact ⟨a0, a1, a2, a3, a4, by rw [a7], a9⟩
  · rw [hc 2 (by omega) (by omega), hoff _ (by omega) (by omega)]; exact b2 i hi
  · rw [hc 3 (by omega) (by omega), hoff _ (by omega) (by omega)]; exact b3 i hi
  · rw [h44, a3, a7]
    have := b4 j hj
    unfold en4 wrG
    rw [if_neg (by omega)]
    simp only [nup_app]
    grind
  · rw [hc 5 (by omega) (by omega), hoff _ (by omega) (by omega)]; exact b5 j hj
  · rw [hc 14 (by omega) (by omega), hoff _ (by omega) (by omega)]; exact b14
  · rw [hc 15 (by omega) (by omega), hoff _ (by omega) (by omega)]; exact b15 j hj
theorem rat_cell {c' : Nat → Nat → Nat} (hA : RAt g c) (hc : ∀ o, 1 ≤ o → o ≤ 16 → o ≠ 10 → c' o = c o) : RAt g c' := by
  refine ⟨rw_congr hA.1 (fun _ _ => rfl) (hc 1 (by omega) (by omega) (by omega)) (hc 2 (by omega) (by omega) (by omega)) (hc 3 (by omega) (by omega) (by omega)) (hc 4 (by omega) (by omega) (by omega)) (hc 5 (by omega) (by omega) (by omega)) (hc 14 (by omega) (by omega) (by omega)) (hc 15 (by omega) (by omega) (by omega)), rp_cell hA.2.1 (hc 6 (by omega) (by omega) (by omega)) (hc 7 (by omega) (by omega) (by omega)) (hc 8 (by omega) (by omega) (by omega)) (hc 9 (by omega) (by omega) (by omega)) (hc 11 (by omega) (by omega) (by omega)) (hc 12 (by omega) (by omega) (by omega)) (hc 13 (by omega) (by omega) (by omega)), ?_⟩
  intro b n hb hn
  rw [hc 16 (by omega) (by omega) (by omega)]
  exact hA.2.2 b n hb hn
theorem ra_cell {c' : Nat → Nat → Nat} (hA : RA g c) (hc : ∀ o, 1 ≤ o → o ≤ 16 → c' o = c o) : RA g c' := by
  have h := rat_cell (c' := c') ⟨hA.1, hA.2.1, hA.2.2.1⟩ (fun o x y _ => hc o x y)
  refine ⟨h.1, h.2.1, h.2.2, fun q hq => ?_⟩
  rw [hc 10 (by omega) (by omega)]
  exact hA.2.2.2 q hq
theorem ci_cross {vp vb : Int32} {lw : Lw} {m : Nat} (hW : WF g t) (ht : t < 1000000) (hA : RA g c) (hL : LC c lw) (hok : LOK lw) (h20 : c 20 3 = 0) (hm : m ≤ 8) (h53 : c 53 0 = m)
    (hN : ¬ okCr g vp vb → Q (-1) (NH c))
    (hB : ∀ p b, p < g 1 → b < g 2 → vp = nI p → vb = nI b → tou g b (og g p 0) → duG g lw p b = 200 → ∀ c', FT c c' → Q (-2) (NH c'))
    (hF : ∀ p b, p < g 1 → b < g 2 → vp = nI p → vb = nI b → tou g b (og g p 0) → duG g lw p b = 100 → ∀ c' mk, RA (mvG g p b) c' → FX c c' → TP c c' m mk p b 100 100 (og g p 4) 0 → Q (nI 100) (NH c'))
    (hO : ∀ p b o, p < g 1 → b < g 2 → vp = nI p → vb = nI b → tou g b (og g p 0) → o < og g p 2 → duG g lw p b = o → ∀ c' mk, RA (wrG (lvG g p b o) p b (og g p (5 + o))) c' → FX c c' → TP c c' m mk p b o (og g p (5 + o)) (og g p 4) (if g 4 = 100 then 0 else 1) → Q (nI (og g p (5 + o))) (NH c')) :
    am_C tT E (d + 4) mX11_cross [.inr 0, .inl vp, .inl vb] (NH c) Q := by
  have hW2 := hW
  have e1 : c 6 0 = g 1 := hA.2.1.1
  have hm9 : ∀ p, p < 8 → og g p 2 ≤ 9 := fun p hp => (hW2.p hp).2.2.1
  have hAt : RAt g c := ⟨hA.1, hA.2.1, hA.2.2.1⟩
  obtain ⟨⟨w0, w1, w2, w3, w4, w5, w6, w7, w8⟩, -, a3, -⟩ := hW
  have hp20 := pow_20 w0
  refine am_C.of (by decide) (Nat.le_of_ble_eq_true rfl) ?_
  show am_R tT E _ mX11_cross _ 0 [some (.inr 0), some (.inl vp), some (.inl vb), none, none, none, none] [] (NH c)
  refine am_goS gX11_cross [44] 400 ?_
  simp only [am_eqs, am_eqk, am_eqv, lX11_cross_0, lX11_cross_1, lX11_cross_2, lX11_cross_3, fx_class, NH_at, NH_put, ↓reduceIte, List.mem_cons, List.not_mem_nil, or_false, or_self, false_or, true_and, and_true, Nat.reduceEqDiff, reduceCtorEq, List.length_cons, List.length_nil, Nat.reduceAdd, Nat.reduceLeDiff, Nat.reduceSub, Nat.reduceLT, Nat.zero_le, Nat.zero_add, forall_const, not_true_eq_false, not_false_eq_true, false_implies, true_implies, implies_true, Nat.zero_lt_succ, am_z0, am_z1]
  refine c_isPerson (by omega) (fun z1 => ?_) (fun z1 => ?_)
  · simp (disch := omega) only [hs_at, hs_put, hs_63, NH_at, NH_put, NH_cpy, ni_add, ni_mul, ni_clamp, ni_in, ni_eq, ni_lt, ni_le, ni_sub, Nat.reduceAdd, Nat.reduceMul, Nat.reduceSub, eq_self, true_implies, not_true_eq_false, false_implies, and_true, true_and, not_false_eq_true, Nat.reduceEqDiff, Nat.reduceLeDiff, Nat.reduceLT, implies_true, ite_true, ite_false]
    rw [e1] at z1
    obtain ⟨p, hp, rfl⟩ := z1
    have hpe := hW2.p (show p < 8 by omega)
    have h4b := hpe.2.2.2.2.1
    refine c_standsAt (by omega) hW2 hA (fun z2 => ?_) (fun z2 => ?_)
    · simp (disch := omega) only [hs_at, hs_put, hs_63, NH_at, NH_put, NH_cpy, ni_add, ni_mul, ni_clamp, ni_in, ni_eq, ni_lt, ni_le, ni_sub, Nat.reduceAdd, Nat.reduceMul, Nat.reduceSub, eq_self, true_implies, not_true_eq_false, false_implies, and_true, true_and, not_false_eq_true, Nat.reduceEqDiff, Nat.reduceLeDiff, Nat.reduceLT, implies_true, ite_true, ite_false]
      obtain ⟨⟨b, hb, rfl⟩, htou⟩ := z2
      rw [ni_clamp (by omega)] at htou
      refine c_due (V := fun _ _ _ _ => True) hp (by omega) hW2 ht hAt hL hok (Or.inl h20) (fun z => absurd z (by omega)) (fun hd => ?_) (fun hd c1 f1 _ => ?_) (fun o ho hd c1 f1 _ => ?_)
      · simp (disch := omega) only [hs_at, hs_put, hs_63, NH_at, NH_put, NH_cpy, ni_add, ni_mul, ni_clamp, ni_in, ni_eq, ni_lt, ni_le, ni_sub, Nat.reduceAdd, Nat.reduceMul, Nat.reduceSub, eq_self, true_implies, not_true_eq_false, false_implies, and_true, true_and, not_false_eq_true, Nat.reduceEqDiff, Nat.reduceLeDiff, Nat.reduceLT, implies_true, ite_true, ite_false, ni_m2]
        refine am_goS gX11_cross [] 400 ?_
        simp only [am_eqs, am_eqk, am_eqv, lX11_cross_0, lX11_cross_1, lX11_cross_2, lX11_cross_3, fx_class, NH_at, NH_put, ↓reduceIte, List.mem_cons, List.not_mem_nil, or_false, or_self, false_or, true_and, and_true, Nat.reduceEqDiff, reduceCtorEq, List.length_cons, List.length_nil, Nat.reduceAdd, Nat.reduceLeDiff, Nat.reduceSub, Nat.reduceLT, Nat.zero_le, Nat.zero_add, forall_const, not_true_eq_false, not_false_eq_true, false_implies, true_implies, implies_true, Nat.zero_lt_succ, am_z0, am_z1]
        have q10 : c 10 p = og g p 4 := hA.2.2.2 p (by omega)
        simp (disch := omega) only [hs_at, hs_put, hs_63, NH_at, NH_put, NH_cpy, ni_add, ni_mul, ni_clamp, ni_in, ni_eq, ni_lt, ni_le, ni_sub, Nat.reduceAdd, Nat.reduceMul, Nat.reduceSub, eq_self, true_implies, not_true_eq_false, false_implies, and_true, true_and, not_false_eq_true, Nat.reduceEqDiff, Nat.reduceLeDiff, Nat.reduceLT, implies_true, ite_true, ite_false, q10]
        refine ⟨by omega, ?_⟩
        refine c_passF hp hb hW2 hAt (fun c1 r1 f1 => ?_)
        refine c_tadd (m := m) hm (by rw [f1 53 (by omega) (by omega) (by omega) (by omega) (by omega)]; exact h53) (by omega) (fun c2 mk k0 k1 k2 k3 k4 => ?_)
        refine hF p b hp hb rfl rfl htou hd c2 mk ?_ (fun o x53 x54 x55 => ?_) ⟨k0, k2, k3, fun j hj => ?_⟩
        · refine ra_cell (c := c1) ⟨r1.1, r1.2.1, r1.2.2, fun q hq => ?_⟩ (fun o x y => k1 o (by omega) (by omega))
          rw [f1 10 (by omega) (by omega) (by omega) (by omega) (by omega), og_mv (by omega) hq (by omega), if_neg (by omega)]
          exact hA.2.2.2 q hq
        · rw [k1 o (by omega) (by omega)]
          exact f1 o (by omega) (by omega) (by omega) (by omega) (by omega)
        · rw [k4 j hj, f1 54 (by omega) (by omega) (by omega) (by omega) (by omega)]
      · simp (disch := omega) only [hs_at, hs_put, hs_63, NH_at, NH_put, NH_cpy, ni_add, ni_mul, ni_clamp, ni_in, ni_eq, ni_lt, ni_le, ni_sub, Nat.reduceAdd, Nat.reduceMul, Nat.reduceSub, eq_self, true_implies, not_true_eq_false, false_implies, and_true, true_and, not_false_eq_true, Nat.reduceEqDiff, Nat.reduceLeDiff, Nat.reduceLT, implies_true, ite_true, ite_false]
        exact hB p b hp hb rfl rfl htou hd c1 f1
      · have hn := hpe.2.2.2.2.2.1 o ho
        have hmp := hm9 p (by omega)
        have hA1 := hAt.ft f1
        have q10 : c1 10 p = og g p 4 := by rw [f1 10 (by omega) (by omega) (by omega)]; exact hA.2.2.2 p (by omega)
        have hfin := hO p b o hp hb rfl rfl htou ho hd
        have hl4 : lvG g p b o 4 = g 4 := by rw [lv_off (by omega) (hm9 p (by omega)) (by omega), if_neg (by omega)]
        have hl1 : ∀ q f, q < 8 → f < 16 → og (lvG g p b o) q f = if q = p then (if f = 0 then oth g b (og g p 0) else if f = 2 then og g p 2 - 1 else if f = 4 then og g p 4 ||| 1 <<< og g p (5 + o) else if 5 + o ≤ f ∧ f < 5 + (og g p 2 - 1) then og g p (f + 1) else og g p f) else og g q f := fun q f hq hf => og_lv (by omega) hq hf (hm9 p (by omega))
        have hm9' : ∀ q, q < 8 → og (lvG g p b o) q 2 ≤ 9 := by
          intro q hq
          have := hm9 q hq
          rw [hl1 q 2 hq (by omega)]
          split
          · rename_i e; subst e; simp; omega
          · exact this
        generalize hnn : og g p (5 + o) = n at hn hfin hl1
        simp (disch := omega) only [hs_at, hs_put, hs_63, NH_at, NH_put, NH_cpy, ni_add, ni_mul, ni_clamp, ni_in, ni_eq, ni_lt, ni_le, ni_sub, Nat.reduceAdd, Nat.reduceMul, Nat.reduceSub, eq_self, true_implies, not_true_eq_false, false_implies, and_true, true_and, not_false_eq_true, Nat.reduceEqDiff, Nat.reduceLeDiff, Nat.reduceLT, implies_true, ite_true, ite_false, ni_m2]
        refine ⟨fun z => absurd z (by omega), fun _ => ?_⟩
        refine am_goS gX11_cross [98] 400 ?_
        simp only [am_eqs, am_eqk, am_eqv, lX11_cross_0, lX11_cross_1, lX11_cross_2, lX11_cross_3, fx_class, NH_at, NH_put, ↓reduceIte, List.mem_cons, List.not_mem_nil, or_false, or_self, false_or, true_and, and_true, Nat.reduceEqDiff, reduceCtorEq, List.length_cons, List.length_nil, Nat.reduceAdd, Nat.reduceLeDiff, Nat.reduceSub, Nat.reduceLT, Nat.zero_le, Nat.zero_add, forall_const, not_true_eq_false, not_false_eq_true, false_implies, true_implies, implies_true, Nat.zero_lt_succ, am_z0, am_z1]
        simp (disch := omega) only [hs_at, hs_put, hs_63, NH_at, NH_put, NH_cpy, ni_add, ni_mul, ni_clamp, ni_in, ni_eq, ni_lt, ni_le, ni_sub, Nat.reduceAdd, Nat.reduceMul, Nat.reduceSub, eq_self, true_implies, not_true_eq_false, false_implies, and_true, true_and, not_false_eq_true, Nat.reduceEqDiff, Nat.reduceLeDiff, Nat.reduceLT, implies_true, ite_true, ite_false, q10]
        refine ⟨by omega, ?_⟩
        refine c_passO hp hb ho hW2 hA1 (fun c2 r2 f2 => ?_)
        rw [hnn]
        have q10' : c2 10 p = og g p 4 := by rw [f2 10 (by omega) (by omega) (by omega) (by omega) (by omega)]; exact q10
        simp (disch := omega) only [hs_at, hs_put, hs_63, NH_at, NH_put, NH_cpy, ni_add, ni_mul, ni_clamp, ni_in, ni_eq, ni_lt, ni_le, ni_sub, Nat.reduceAdd, Nat.reduceMul, Nat.reduceSub, eq_self, true_implies, not_true_eq_false, false_implies, and_true, true_and, not_false_eq_true, Nat.reduceEqDiff, Nat.reduceLeDiff, Nat.reduceLT, implies_true, ite_true, ite_false, q10', ni_shl, ni_or]
        refine ⟨fun z => absurd z (by omega), fun _ => ⟨by omega, by omega, ?_⟩⟩
        have r3 : RA (lvG g p b o) (cup c2 10 p (og g p 4 ||| 1 <<< n)) := by
          have r3' := rat_cell (c' := cup c2 10 p (og g p 4 ||| 1 <<< n)) r2 (fun o _ _ x => cup_ne _ _ _ x)
          refine ⟨r3'.1, r3'.2.1, r3'.2.2, fun q hq => ?_⟩
          rw [cup_self, nup_app, hl1 q 4 hq (by omega)]
          by_cases e : q = p
          · rw [if_pos e, if_pos e, if_neg (by omega), if_neg (by omega), if_pos rfl]
          · rw [if_neg e, if_neg e, f2 10 (by omega) (by omega) (by omega) (by omega) (by omega), f1 10 (by omega) (by omega) (by omega)]
            exact hA.2.2.2 q hq
        have f3 : ∀ o, o ≠ 7 → o ≠ 10 → o ≠ 11 → o ≠ 12 → o ≠ 13 → o ≠ 16 → o ≠ 19 → o ≠ 21 → o ≠ 22 → cup c2 10 p (og g p 4 ||| 1 <<< n) o = c o := fun o x7 x10 x11 x12 x13 x16 x19 x21 x22 => by
          rw [cup_ne _ _ _ x10, f2 o x7 x11 x12 x13 x16, f1 o x19 x21 x22]
        generalize cup c2 10 p (og g p 4 ||| 1 <<< n) = c3 at r3 f3
        have e17 : c3 1 7 = g 4 := by rw [r3.1.1.2.2.2.2.2.1, hl4]
        refine am_goS gX11_cross [] 400 ?_
        simp only [am_eqs, am_eqk, am_eqv, lX11_cross_0, lX11_cross_1, lX11_cross_2, lX11_cross_3, fx_class, NH_at, NH_put, ↓reduceIte, List.mem_cons, List.not_mem_nil, or_false, or_self, false_or, true_and, and_true, Nat.reduceEqDiff, reduceCtorEq, List.length_cons, List.length_nil, Nat.reduceAdd, Nat.reduceLeDiff, Nat.reduceSub, Nat.reduceLT, Nat.zero_le, Nat.zero_add, forall_const, not_true_eq_false, not_false_eq_true, false_implies, true_implies, implies_true, Nat.zero_lt_succ, am_z0, am_z1]
        refine c_enter (by omega) (fun e4 c4 f4 g4 g5 => ?_) (fun e4 => ?_)
        · have r4 := ra_wr r3 hm9' (by omega) f4 g4 g5
          refine c_tadd (m := m) hm (by rw [f4 53 (by omega) (by omega), f3 53 (by omega) (by omega) (by omega) (by omega) (by omega) (by omega) (by omega) (by omega) (by omega)]; exact h53) (by omega) (fun c5 mk k0 k1 k2 k3 k4 => ?_)
          refine hfin c5 mk (ra_cell r4 (fun o x y => k1 o (by omega) (by omega))) (fun o x53 x54 x55 => ?_) ⟨k0, k2, ?_, fun j hj => ?_⟩
          · rw [k1 o x54 x55, f4 o (by omega) (by omega)]
            exact f3 o (by omega) (by omega) (by omega) (by omega) (by omega) (by omega) (by omega) (by omega) (by omega)
          · rw [if_neg (by omega)]; exact k3
          · rw [k4 j hj, f4 54 (by omega) (by omega), f3 54 (by omega) (by omega) (by omega) (by omega) (by omega) (by omega) (by omega) (by omega) (by omega)]
        · have e5 : wrG (lvG g p b o) p b n = lvG g p b o := by unfold wrG; rw [if_pos (by omega)]
          rw [e5] at hfin
          refine c_tadd (m := m) hm (by rw [f3 53 (by omega) (by omega) (by omega) (by omega) (by omega) (by omega) (by omega) (by omega) (by omega)]; exact h53) (by omega) (fun c5 mk k0 k1 k2 k3 k4 => ?_)
          refine hfin c5 mk (ra_cell r3 (fun o x y => k1 o (by omega) (by omega))) (fun o x53 x54 x55 => ?_) ⟨k0, k2, ?_, fun j hj => ?_⟩
          · rw [k1 o x54 x55]
            exact f3 o (by omega) (by omega) (by omega) (by omega) (by omega) (by omega) (by omega) (by omega) (by omega)
          · rw [if_pos (by omega)]; exact k3
          · rw [k4 j hj, f3 54 (by omega) (by omega) (by omega) (by omega) (by omega) (by omega) (by omega) (by omega) (by omega)]
    · simp (disch := omega) only [hs_at, hs_put, hs_63, NH_at, NH_put, NH_cpy, ni_add, ni_mul, ni_clamp, ni_in, ni_eq, ni_lt, ni_le, ni_sub, Nat.reduceAdd, Nat.reduceMul, Nat.reduceSub, eq_self, true_implies, not_true_eq_false, false_implies, and_true, true_and, not_false_eq_true, Nat.reduceEqDiff, Nat.reduceLeDiff, Nat.reduceLT, implies_true, ite_true, ite_false]
      refine hN (fun ⟨p', b', hp', hb', x1, x2, ht'⟩ => z2 ⟨⟨b', hb', x2⟩, ?_⟩)
      rw [ni_eq (by omega) (by omega)] at x1
      rw [x2, ni_clamp (by omega), x1]
      exact ht'
  · simp (disch := omega) only [hs_at, hs_put, hs_63, NH_at, NH_put, NH_cpy, ni_add, ni_mul, ni_clamp, ni_in, ni_eq, ni_lt, ni_le, ni_sub, Nat.reduceAdd, Nat.reduceMul, Nat.reduceSub, eq_self, true_implies, not_true_eq_false, false_implies, and_true, true_and, not_false_eq_true, Nat.reduceEqDiff, Nat.reduceLeDiff, Nat.reduceLT, implies_true, ite_true, ite_false]
    rw [e1] at z1
    exact hN (fun ⟨p', b', hp', hb', x1, x2, ht'⟩ => z1 ⟨p', hp', x1⟩)
end CCROSS
