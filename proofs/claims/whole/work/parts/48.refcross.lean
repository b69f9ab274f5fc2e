/-! ===== part 48: cross and undo of the reference ===== -/
section RCROSS
variable {E : am_E} {d : Nat} {h : am_H} {Q : Int32 → am_H → Prop} {g : Nat → Nat} {c : Nat → Nat → Nat} {t : Nat}
def KP (h h' : am_H) (g : Nat → Nat) (m mk : Nat) : Prop := mk = (if m = 8 then 7 else m) ∧ (∀ o, o ≠ 63 → o ≠ 66 → o ≠ 67 → o ≠ 71 → o ≠ 72 → h' o = h o) ∧ (∀ k, k ≠ 4 → h' 63 k = h 63 k) ∧ h' 63 4 = nI (mk + 1) ∧ h' 66 (371 * mk) = nI (g 4) ∧ (∀ k, k < 370 → h' 66 (371 * mk + 1 + k) = nI (g (90 + k))) ∧ ∀ j, j < 371 * mk → h' 66 j = h 66 (if m = 8 then j + 371 else j)
def okCr (g : Nat → Nat) (vp vb : Int32) : Prop := ∃ p b, p < g 1 ∧ b < g 2 ∧ vp = nI p ∧ vb = nI b ∧ tou g b (og g p 0)
theorem res_mv {p b : Nat} (hp : p < 8) : resM (mvG g p b) g = g := by
  funext j
  unfold resM mvG
  rw [nup_app]
  split
  · rfl
  · rw [if_neg (by omega)]
theorem res_lv {p b o : Nat} (hp : p < 8) (hb : b < 12) (hm : og g p 2 ≤ 9) (hn : og g p (5 + o) < 20) : resM (lvG g p b o) g = g := by
  funext j
  unfold resM
  split
  · rfl
  · rw [lv_off hp hm (by omega), if_neg (by omega)]
theorem ri_cross {vp vb : Int32} {lw : Lw} {m : Nat} (hW : WF g t) (hL : LRl g lw 0 0) (hok : LOK lw) (hm : m ≤ 8) (h4 : h 63 4 = nI m)
    (hN : ¬ okCr g vp vb → Q (-1) (hs h g))
    (hB : ∀ p b, p < g 1 → b < g 2 → vp = nI p → vb = nI b → tou g b (og g p 0) → duG g lw p b = 200 → ∀ h' : am_H, (∀ o, o ≠ 67 → o ≠ 71 → o ≠ 72 → h' o = h o) → Q (-2) (hs h' g))
    (hF : ∀ p b, p < g 1 → b < g 2 → vp = nI p → vb = nI b → tou g b (og g p 0) → duG g lw p b = 100 → ∀ (h' : am_H) (mk : Nat), KP h h' g m mk → Q (nI 100) (hs h' (mvG g p b)))
    (hO : ∀ p b o, p < g 1 → b < g 2 → vp = nI p → vb = nI b → tou g b (og g p 0) → o < og g p 2 → duG g lw p b = o → ∀ (h' : am_H) (mk : Nat), KP h h' g m mk → Q (nI (og g p (5 + o))) (hs h' (wrG (lvG g p b o) p b (og g p (5 + o))))) :
    am_C tT E (d + 4) mX12_cross [.inr 63, .inl vp, .inl vb] (hs h g) Q := by
  have hW2 := hW
  obtain ⟨⟨w0, w1, w2, w3, w4, w5, w6, w7, w8⟩, -, a3, -⟩ := hW
  refine am_C.of (by decide) (Nat.le_of_ble_eq_true rfl) ?_
  show am_R tT E _ mX12_cross _ 0 [some (.inr 63), some (.inl vp), some (.inl vb), none] [] (hs h g)
  refine am_goS gX12_cross [] 400 ?_
  simp only [am_eqs, am_eqk, am_eqv, lX12_cross_0, lX12_cross_1, lX12_cross_2, fx_ref, ↓reduceIte, List.mem_cons, List.not_mem_nil, or_false, or_self, false_or, true_and, and_true, Nat.reduceEqDiff, reduceCtorEq, List.length_cons, List.length_nil, Nat.reduceAdd, Nat.reduceLeDiff, Nat.reduceSub, Nat.reduceLT, Nat.zero_le, Nat.zero_add, forall_const, not_true_eq_false, not_false_eq_true, false_implies, true_implies, implies_true, Nat.zero_lt_succ, am_z0, am_z1]
  refine r_isPerson (by omega) (fun z1 => ?_) (fun z1 => ?_)
  · simp (disch := omega) only [hs_at, hs_put, hs_63, NH_at, NH_put, NH_cpy, ni_add, ni_mul, ni_clamp, ni_in, ni_eq, ni_lt, ni_le, ni_sub, Nat.reduceAdd, Nat.reduceMul, Nat.reduceSub, eq_self, true_implies, not_true_eq_false, false_implies, and_true, true_and, not_false_eq_true, Nat.reduceEqDiff, Nat.reduceLeDiff, Nat.reduceLT, implies_true, ite_true, ite_false]
    obtain ⟨p, hp, rfl⟩ := z1
    refine r_isBridge (by omega) (fun z2 => ?_) (fun z2 => ?_)
    · simp (disch := omega) only [hs_at, hs_put, hs_63, NH_at, NH_put, NH_cpy, ni_add, ni_mul, ni_clamp, ni_in, ni_eq, ni_lt, ni_le, ni_sub, Nat.reduceAdd, Nat.reduceMul, Nat.reduceSub, eq_self, true_implies, not_true_eq_false, false_implies, and_true, true_and, not_false_eq_true, Nat.reduceEqDiff, Nat.reduceLeDiff, Nat.reduceLT, implies_true, ite_true, ite_false]
      obtain ⟨b, hb, rfl⟩ := z2
      have hpe := hW2.p (show p < 8 by omega)
      have hm9 := hpe.2.2.1
      have hs := a3 b (by omega)
      refine r_own (by omega) (by omega) ?_
      refine r_otherEnd (by omega) hpe.1 hs.1 hs.2 (fun z3 => ?_) (fun z3 => ?_)
      · have hoth : oth g b (og g p 0) < 8 := by unfold oth; split <;> omega
        simp (disch := omega) only [hs_at, hs_put, hs_63, NH_at, NH_put, NH_cpy, ni_add, ni_mul, ni_clamp, ni_in, ni_eq, ni_lt, ni_le, ni_sub, Nat.reduceAdd, Nat.reduceMul, Nat.reduceSub, eq_self, true_implies, not_true_eq_false, false_implies, and_true, true_and, not_false_eq_true, Nat.reduceEqDiff, Nat.reduceLeDiff, Nat.reduceLT, implies_true, ite_true, ite_false, ni_m1]
        refine ⟨fun z => absurd z (by omega), fun _ => ?_⟩
        refine r_laysAside (by omega) (fun h1 f1 f2 _ => ?_)
        simp only [Nat.mul_zero, Nat.zero_add] at f2
        refine r_crosses hp hb z3 hW2 hL hok (fun hd => ?_) (fun hd h2 e2 => ?_) (fun o ho hd h2 e2 => ?_)
        · have hp67 := res_mv (g := g) (b := b) (show p < 8 by omega)
          simp (disch := omega) only [hs_at, hs_put, hs_63, NH_at, NH_put, NH_cpy, ni_add, ni_mul, ni_clamp, ni_in, ni_eq, ni_lt, ni_le, ni_sub, Nat.reduceAdd, Nat.reduceMul, Nat.reduceSub, eq_self, true_implies, not_true_eq_false, false_implies, and_true, true_and, not_false_eq_true, Nat.reduceEqDiff, Nat.reduceLeDiff, Nat.reduceLT, implies_true, ite_true, ite_false, ni_m2]
          refine r_putsBack (g0 := g) (by omega) (by simpa using f2) ?_
          rw [hp67]
          refine r_keeps hm (by rw [f1 63 (by omega)]; exact h4) (fun mk h3 k0 k1 k2 k3 k4 k5 k6 => ?_)
          refine r_crosses hp hb z3 hW2 hL hok (fun hd => ?_) (fun hd2 => absurd hd2 (by omega)) (fun o ho hd2 => absurd hd2 (by omega))
          refine hF p b hp hb rfl rfl z3 hd h3 mk ⟨k0, fun o x63 x66 x67 _ _ => ?_, fun k hk => ?_, k3, k4, k5, fun j hj => ?_⟩
          · rw [k1 o x63 x66]; exact f1 o x67
          · rw [k2 k hk, f1 63 (by omega)]
          · rw [k6 j hj, f1 66 (by omega)]
        · simp (disch := omega) only [hs_at, hs_put, hs_63, NH_at, NH_put, NH_cpy, ni_add, ni_mul, ni_clamp, ni_in, ni_eq, ni_lt, ni_le, ni_sub, Nat.reduceAdd, Nat.reduceMul, Nat.reduceSub, eq_self, true_implies, not_true_eq_false, false_implies, and_true, true_and, not_false_eq_true, Nat.reduceEqDiff, Nat.reduceLeDiff, Nat.reduceLT, implies_true, ite_true, ite_false]
          refine hB p b hp hb rfl rfl z3 hd h2 (fun o x67 x71 x72 => ?_)
          rw [e2 o x71 x72]; exact f1 o x67
        · have hn := hpe.2.2.2.2.2.1 o ho
          have hp67 := res_lv (g := g) (b := b) (o := o) (show p < 8 by omega) (by omega) hm9 (by omega)
          simp (disch := omega) only [hs_at, hs_put, hs_63, NH_at, NH_put, NH_cpy, ni_add, ni_mul, ni_clamp, ni_in, ni_eq, ni_lt, ni_le, ni_sub, Nat.reduceAdd, Nat.reduceMul, Nat.reduceSub, eq_self, true_implies, not_true_eq_false, false_implies, and_true, true_and, not_false_eq_true, Nat.reduceEqDiff, Nat.reduceLeDiff, Nat.reduceLT, implies_true, ite_true, ite_false, ni_m2]
          refine ⟨fun z => absurd z (by omega), fun _ => ?_⟩
          refine r_putsBack (g0 := g) (by omega) (by intro k hk; rw [e2 67 (by omega) (by omega)]; simpa using f2 k hk) ?_
          rw [hp67]
          refine r_keeps hm (by rw [e2 63 (by omega) (by omega), f1 63 (by omega)]; exact h4) (fun mk h3 k0 k1 k2 k3 k4 k5 k6 => ?_)
          refine r_crosses hp hb z3 hW2 hL hok (fun hd2 => absurd hd2 (by omega)) (fun hd2 => absurd hd2 (by omega)) (fun o' ho' hd2 h5 e5 => ?_)
          have e : o' = o := by omega
          subst e
          have l4 : lvG g p b o' 4 = g 4 := by rw [lv_off (by omega) hm9 (by omega), if_neg (by omega)]
          refine ⟨fun z => absurd z (by omega), fun _ => ?_⟩
          refine r_writes (by omega) ?_
          refine hO p b o' hp hb rfl rfl z3 ho hd h5 mk ⟨k0, fun o x63 x66 x67 x71 x72 => ?_, fun k hk => ?_, ?_, ?_, fun k hk => ?_, fun j hj => ?_⟩
          · rw [e5 o x71 x72, k1 o x63 x66, e2 o x71 x72]; exact f1 o x67
          · rw [e5 63 (by omega) (by omega), k2 k hk, e2 63 (by omega) (by omega), f1 63 (by omega)]
          · rw [e5 63 (by omega) (by omega)]; exact k3
          · rw [e5 66 (by omega) (by omega)]; exact k4
          · rw [e5 66 (by omega) (by omega)]; exact k5 k hk
          · rw [e5 66 (by omega) (by omega), k6 j hj, e2 66 (by omega) (by omega), f1 66 (by omega)]
      · simp (disch := omega) only [hs_at, hs_put, hs_63, NH_at, NH_put, NH_cpy, ni_add, ni_mul, ni_clamp, ni_in, ni_eq, ni_lt, ni_le, ni_sub, Nat.reduceAdd, Nat.reduceMul, Nat.reduceSub, eq_self, true_implies, not_true_eq_false, false_implies, and_true, true_and, not_false_eq_true, Nat.reduceEqDiff, Nat.reduceLeDiff, Nat.reduceLT, implies_true, ite_true, ite_false]
        refine hN (fun q => ?_)
        obtain ⟨p', b', hp', hb', e1, e2, ht'⟩ := q
        rw [ni_eq (by omega) (by omega)] at e1 e2
        subst e1 e2
        exact z3 ht'
    · simp (disch := omega) only [hs_at, hs_put, hs_63, NH_at, NH_put, NH_cpy, ni_add, ni_mul, ni_clamp, ni_in, ni_eq, ni_lt, ni_le, ni_sub, Nat.reduceAdd, Nat.reduceMul, Nat.reduceSub, eq_self, true_implies, not_true_eq_false, false_implies, and_true, true_and, not_false_eq_true, Nat.reduceEqDiff, Nat.reduceLeDiff, Nat.reduceLT, implies_true, ite_true, ite_false]
      exact hN (fun ⟨p', b', hp', hb', e1, e2, ht'⟩ => z2 ⟨b', hb', e2⟩)
  · simp (disch := omega) only [hs_at, hs_put, hs_63, NH_at, NH_put, NH_cpy, ni_add, ni_mul, ni_clamp, ni_in, ni_eq, ni_lt, ni_le, ni_sub, Nat.reduceAdd, Nat.reduceMul, Nat.reduceSub, eq_self, true_implies, not_true_eq_false, false_implies, and_true, true_and, not_false_eq_true, Nat.reduceEqDiff, Nat.reduceLeDiff, Nat.reduceLT, implies_true, ite_true, ite_false]
    exact hN (fun ⟨p', b', hp', hb', e1, e2, ht'⟩ => z1 ⟨p', hp', e1⟩)
/-- what undo puts back -/
def unG (g g0 : Nat → Nat) : Nat → Nat := fun j => if j = 4 then g0 4 else if 90 ≤ j ∧ j < 460 then g0 j else g j
theorem ri_undo {m : Nat} {g0 : Nat → Nat} (hm : m ≤ 8) (h4 : h 63 4 = nI m) (hN : m = 0 → Q (nI 0) (hs h g)) (h66 : ∀ k, m = k + 1 → h 66 (371 * k) = nI (g0 4) ∧ ∀ j, j < 370 → h 66 (371 * k + 1 + j) = nI (g0 (90 + j)))
    (hq : ∀ k, m = k + 1 → Q (nI 1) (hs (am_upd h 63 4 (nI k)) (unG g g0))) : am_C tT E d mX12_undo [.inr 63] (hs h g) Q := by
  refine am_C.of (by decide) (Nat.le_of_ble_eq_true rfl) ?_
  show am_R tT E _ mX12_undo _ 0 [some (.inr 63), none] [] (hs h g)
  refine am_goS gX12_undo [40] 400 ?_
  simp only [am_eqs, am_eqk, am_eqv, lX12_undo_0, lX12_undo_1, fx_ref, ↓reduceIte, List.mem_cons, List.not_mem_nil, or_false, or_self, false_or, true_and, and_true, Nat.reduceEqDiff, reduceCtorEq, List.length_cons, List.length_nil, Nat.reduceAdd, Nat.reduceLeDiff, Nat.reduceSub, Nat.reduceLT, Nat.zero_le, Nat.zero_add, forall_const, not_true_eq_false, not_false_eq_true, false_implies, true_implies, implies_true, Nat.zero_lt_succ, am_z0, am_z1]
  simp (disch := omega) only [hs_at, hs_put, hs_63, NH_at, NH_put, NH_cpy, ni_add, ni_mul, ni_clamp, ni_in, ni_eq, ni_lt, ni_le, ni_sub, Nat.reduceAdd, Nat.reduceMul, Nat.reduceSub, eq_self, true_implies, not_true_eq_false, false_implies, and_true, true_and, not_false_eq_true, Nat.reduceEqDiff, Nat.reduceLeDiff, Nat.reduceLT, implies_true, ite_true, ite_false, hs_off, h4, hs_up63]
  refine ⟨fun e => hN e, fun e => ?_⟩
  obtain ⟨k, rfl⟩ : ∃ k, m = k + 1 := ⟨m - 1, by omega⟩
  obtain ⟨x1, x2⟩ := h66 k rfl
  have hf := hq k rfl
  have hup4 : am_upd h 63 4 (nI k) 63 4 = nI k := am_upd_at _ _ _ _
  have hup : ∀ j, am_upd h 63 4 (nI k) 66 j = h 66 j := fun j => by rw [am_upd_ne _ _ _ (by omega)]
  simp (disch := omega) only [hs_at, hs_put, hs_63, NH_at, NH_put, NH_cpy, ni_add, ni_mul, ni_clamp, ni_in, ni_eq, ni_lt, ni_le, ni_sub, Nat.reduceAdd, Nat.reduceMul, Nat.reduceSub, eq_self, true_implies, not_true_eq_false, false_implies, and_true, true_and, not_false_eq_true, Nat.reduceEqDiff, Nat.reduceLeDiff, Nat.reduceLT, implies_true, ite_true, ite_false, Nat.add_sub_cancel, hup4, hup, x1]
  refine ⟨by omega, ?_⟩
  have loop : ∀ n i, i + n = 370 → am_R tT E d mX12_undo Q 40 [some (.inr 63), some (.inl (nI i))] [] (hs (am_upd h 63 4 (nI k)) (fun j => if j = 4 then g0 4 else if 90 ≤ j ∧ j < 90 + i then g0 j else g j)) := by
    intro n
    induction n with
    | zero =>
      intro i hi
      refine am_goS gX12_undo [40] 400 ?_
      simp only [am_eqs, am_eqk, am_eqv, lX12_undo_0, lX12_undo_1, fx_ref, ↓reduceIte, List.mem_cons, List.not_mem_nil, or_false, or_self, false_or, true_and, and_true, Nat.reduceEqDiff, reduceCtorEq, List.length_cons, List.length_nil, Nat.reduceAdd, Nat.reduceLeDiff, Nat.reduceSub, Nat.reduceLT, Nat.zero_le, Nat.zero_add, forall_const, not_true_eq_false, not_false_eq_true, false_implies, true_implies, implies_true, Nat.zero_lt_succ, am_z0, am_z1]
      simp (disch := omega) only [hs_at, hs_put, hs_63, NH_at, NH_put, NH_cpy, ni_add, ni_mul, ni_clamp, ni_in, ni_eq, ni_lt, ni_le, ni_sub, Nat.reduceAdd, Nat.reduceMul, Nat.reduceSub, eq_self, true_implies, not_true_eq_false, false_implies, and_true, true_and, not_false_eq_true, Nat.reduceEqDiff, Nat.reduceLeDiff, Nat.reduceLT, implies_true, ite_true, ite_false]
      refine ⟨fun _ => ?_, fun z => absurd z (by omega)⟩
      have e : (fun j => if j = 4 then g0 4 else if 90 ≤ j ∧ j < 90 + i then g0 j else g j) = unG g g0 := by
        funext j
        unfold unG
        rw [show 90 + i = 460 by omega]
      rw [e]
      exact hf
    | succ n ih =>
      intro i hi
      have hx := x2 i (by omega)
      have hnx := ih (i + 1) (by omega)
      refine am_goS gX12_undo [40] 400 ?_
      simp only [am_eqs, am_eqk, am_eqv, lX12_undo_0, lX12_undo_1, fx_ref, ↓reduceIte, List.mem_cons, List.not_mem_nil, or_false, or_self, false_or, true_and, and_true, Nat.reduceEqDiff, reduceCtorEq, List.length_cons, List.length_nil, Nat.reduceAdd, Nat.reduceLeDiff, Nat.reduceSub, Nat.reduceLT, Nat.zero_le, Nat.zero_add, forall_const, not_true_eq_false, not_false_eq_true, false_implies, true_implies, implies_true, Nat.zero_lt_succ, am_z0, am_z1]
      simp (disch := omega) only [hs_at, hs_put, hs_63, NH_at, NH_put, NH_cpy, ni_add, ni_mul, ni_clamp, ni_in, ni_eq, ni_lt, ni_le, ni_sub, Nat.reduceAdd, Nat.reduceMul, Nat.reduceSub, eq_self, true_implies, not_true_eq_false, false_implies, and_true, true_and, not_false_eq_true, Nat.reduceEqDiff, Nat.reduceLeDiff, Nat.reduceLT, implies_true, ite_true, ite_false, hs_off, hup4, hup, hx]
      refine ⟨fun z => absurd z (by omega), fun _ => ⟨by omega, by omega, ?_⟩⟩
      have e : nup (fun j => if j = 4 then g0 4 else if 90 ≤ j ∧ j < 90 + i then g0 j else g j) (90 + i) (g0 (90 + i)) = (fun j => if j = 4 then g0 4 else if 90 ≤ j ∧ j < 90 + (i + 1) then g0 j else g j) := by
        funext j
        rw [nup_app]
        grind
      rw [e]
      exact hnx
  have := loop 370 0 (by omega)
  have e : (fun j => if j = 4 then g0 4 else if 90 ≤ j ∧ j < 90 + 0 then g0 j else g j) = nup g 4 (g0 4) := by
    funext j
    rw [nup_app]
    grind
  rw [e] at this
  exact this
end RCROSS
