/-! ===== part 74: best of the class ===== -/
section CIBEST
variable {E : am_E} {d : Nat} {h : am_H} {Q : Int32 → am_H → Prop} {g g0 : Nat → Nat} {c : Nat → Nat → Nat} {t : Nat}
theorem c_bfind {lw : Lw} {p to : Nat} (hp : p < g 1) (hto : to < 8) (hW : WF g t) (ht : t + 12 < 1000000) (hA : RAt g c) (hL : LC c lw) (hok : LOK lw) (h20 : c 20 3 = 0) (hne : og g p 0 ≠ to)
    (h1 : ∀ x, bstG g lw p to = some x → ∀ c', RAt g c' → BC c' (some x) → FB c' c' → (∀ o, o ≠ 7 → o ≠ 11 → o ≠ 12 → o ≠ 13 → o ≠ 16 → o ≠ 19 → o ≠ 21 → o ≠ 22 → o ≠ 55 → o ≠ 56 → o ≠ 57 → c' o = c o) → Q (nI 1) (NH c')) (h0 : bstG g lw p to = none → ∀ c', RAt g c' → (∀ o, o ≠ 7 → o ≠ 11 → o ≠ 12 → o ≠ 13 → o ≠ 16 → o ≠ 19 → o ≠ 21 → o ≠ 22 → o ≠ 55 → o ≠ 56 → o ≠ 57 → c' o = c o) → Q (nI 0) (NH c')) :
    am_C tT E (d + 13) mX1_find [.inr 55, .inl (nI p), .inl (nI to)] (NH c) Q := by
  have w1 := hW.1.2.1
  have hpl := (hW.p (show p < 8 by omega)).1
  have q7 : c 7 p = og g p 0 := (hA.2.1.2 p (by omega)).1
  refine am_C.of (by decide) (Nat.le_of_ble_eq_true rfl) ?_
  show am_R tT E _ mX1_find _ 0 [some (.inr 55), some (.inl (nI p)), some (.inl (nI to))] [] (NH c)
  refine am_goS gX1_find [] 400 ?_
  simp only [am_eqs, am_eqk, am_eqv, lX1_find_0, lX1_find_1, fx_class, NH_at, NH_put, ↓reduceIte, List.mem_cons, List.not_mem_nil, or_false, or_self, false_or, true_and, and_true, Nat.reduceEqDiff, reduceCtorEq, List.length_cons, List.length_nil, Nat.reduceAdd, Nat.reduceLeDiff, Nat.reduceSub, Nat.reduceLT, Nat.zero_le, Nat.zero_add, forall_const, not_true_eq_false, not_false_eq_true, false_implies, true_implies, implies_true, Nat.zero_lt_succ, am_z0, am_z1]
  generalize hc2 : cup (cup (cup (cup c 55 2 p) 55 3 to) 55 4 10) 55 5 0 = c2
  have f2 : ∀ o, o ≠ 55 → c2 o = c o := fun o ho => by rw [← hc2, cup_ne _ _ _ ho, cup_ne _ _ _ ho, cup_ne _ _ _ ho, cup_ne _ _ _ ho]
  have e2 : c2 55 2 = p ∧ c2 55 3 = to ∧ c2 55 4 = 10 ∧ c2 55 5 = 0 := by
    rw [← hc2]
    refine ⟨?_, ?_, ?_, ?_⟩ <;> simp [cup_app]
  have q72 : c2 7 p = og g p 0 := by rw [f2 7 (by omega)]; exact q7
  have hA2 : RAt g c2 := rat_cell hA (fun o x y _ => f2 o (by omega))
  have hL2 : LC c2 lw := by
    unfold LC at *
    rw [f2 17 (by omega), f2 18 (by omega)]
    exact hL
  try simp (disch := omega) only [hs_at, hs_put, hs_63, NH_at, NH_put, NH_cpy, ni_add, ni_mul, ni_clamp, ni_in, ni_eq, ni_lt, ni_le, ni_sub, Nat.reduceAdd, Nat.reduceMul, Nat.reduceSub, eq_self, true_implies, not_true_eq_false, false_implies, and_true, true_and, not_false_eq_true, Nat.reduceEqDiff, Nat.reduceLeDiff, Nat.reduceLT, implies_true, ite_true, ite_false, q72, ni_shl]
  refine ⟨by omega, ?_⟩
  have hr := c_seek (E := E) (d := d) (p := p) hok hto 8 g (1 <<< og g p 0) 0 t (d + 12) [] none c2
  refine hr _ (by omega) hp hW (by omega) hA2 hL2 (by rw [f2 20 (by omega)]; exact h20) e2.1 e2.2.1 (by have := or_256 (s := 0) (by omega) hpl; rwa [Nat.zero_or] at this) (by rw [cnt_one hpl]) (by simp) (by omega) trivial ⟨e2.2.2.1, e2.2.2.2⟩ hne (fun c3 r3 b3 f3 _ => ?_)
  have hfr : ∀ o, o ≠ 7 → o ≠ 11 → o ≠ 12 → o ≠ 13 → o ≠ 16 → o ≠ 19 → o ≠ 21 → o ≠ 22 → o ≠ 55 → o ≠ 56 → o ≠ 57 → c3 o = c o := fun o x1 x2 x3 x4 x5 x6 x7 x8 x9 x10 x11 => by rw [f3.1 o x1 x2 x3 x4 x5 x6 x7 x8 x9 x10 x11]; exact f2 o x9
  unfold bstG at h1 h0
  generalize skF lw p to 8 g (1 <<< og g p 0) [] 0 none = R at h1 h0 b3
  cases R with
  | none =>
    have e5 : c3 55 5 = 0 := b3.2
    try simp (disch := omega) only [hs_at, hs_put, hs_63, NH_at, NH_put, NH_cpy, ni_add, ni_mul, ni_clamp, ni_in, ni_eq, ni_lt, ni_le, ni_sub, Nat.reduceAdd, Nat.reduceMul, Nat.reduceSub, eq_self, true_implies, not_true_eq_false, false_implies, and_true, true_and, not_false_eq_true, Nat.reduceEqDiff, Nat.reduceLeDiff, Nat.reduceLT, implies_true, ite_true, ite_false, e5]
    exact h0 rfl c3 r3 hfr
  | some x =>
    have e5 : c3 55 5 = x.2.length := b3.2.1
    have e1 := b3.2.2.2.2.1
    have e7 := b3.2.2.2.2.2
    try simp (disch := omega) only [hs_at, hs_put, hs_63, NH_at, NH_put, NH_cpy, ni_add, ni_mul, ni_clamp, ni_in, ni_eq, ni_lt, ni_le, ni_sub, Nat.reduceAdd, Nat.reduceMul, Nat.reduceSub, eq_self, true_implies, not_true_eq_false, false_implies, and_true, true_and, not_false_eq_true, Nat.reduceEqDiff, Nat.reduceLeDiff, Nat.reduceLT, implies_true, ite_true, ite_false, e5]
    refine ⟨fun z => absurd z (by omega), fun _ => h1 x rfl c3 r3 b3 (FB.refl _) hfr⟩
theorem ci_best {lw : Lw} {vp vt vw : Int32} (hW : WF g t) (ht : t + 12 < 1000000) (hA : RA g c) (hL : LC c lw) (hok : LOK lw) (h20 : c 20 3 = 0) (hq : ∀ c2, RA g c2 → (∀ o, o = 0 ∨ o = 17 ∨ o = 18 ∨ o = 20 ∨ (22 < o ∧ o ≠ 55 ∧ o ≠ 56 ∧ o ≠ 57) → c2 o = c o) → Q (sp_best g lw vp vt vw) (NH c2)) : am_C tT E (d + 14) mX11_best [.inr 0, .inl vp, .inl vt, .inl vw] (NH c) Q := by
  have e1 : c 6 0 = g 1 := hA.2.1.1
  have w1 := hW.1.2.1
  have hAt : RAt g c := ⟨hA.1, hA.2.1, hA.2.2.1⟩
  have hq0 := hq c hA (fun _ _ => rfl)
  have hno : ¬ okBe g vp vt → Q (-1) (NH c) := fun z => by unfold sp_best at hq0; rw [cif_neg z] at hq0; exact hq0
  refine am_C.of (by decide) (Nat.le_of_ble_eq_true rfl) ?_
  show am_R tT E _ mX11_best _ 0 [some (.inr 0), some (.inl vp), some (.inl vt), some (.inl vw)] [] (NH c)
  refine am_goS gX11_best [] 400 ?_
  simp only [am_eqs, am_eqk, am_eqv, lX11_best_0, lX11_best_1, lX11_best_2, fx_class, NH_at, NH_put, ↓reduceIte, List.mem_cons, List.not_mem_nil, or_false, or_self, false_or, true_and, and_true, Nat.reduceEqDiff, reduceCtorEq, List.length_cons, List.length_nil, Nat.reduceAdd, Nat.reduceLeDiff, Nat.reduceSub, Nat.reduceLT, Nat.zero_le, Nat.zero_add, forall_const, not_true_eq_false, not_false_eq_true, false_implies, true_implies, implies_true, Nat.zero_lt_succ, am_z0, am_z1]
  refine c_isPerson (by omega) (fun z1 => ?_) (fun z1 => ?_)
  · rw [e1] at z1
    obtain ⟨p, hp, rfl⟩ := z1
    have hpl := (hW.p (show p < 8 by omega)).1
    have q7 : c 7 p = og g p 0 := (hA.2.1.2 p (by omega)).1
    try simp (disch := omega) only [hs_at, hs_put, hs_63, NH_at, NH_put, NH_cpy, ni_add, ni_mul, ni_clamp, ni_in, ni_eq, ni_lt, ni_le, ni_sub, Nat.reduceAdd, Nat.reduceMul, Nat.reduceSub, eq_self, true_implies, not_true_eq_false, false_implies, and_true, true_and, not_false_eq_true, Nat.reduceEqDiff, Nat.reduceLeDiff, Nat.reduceLT, implies_true, ite_true, ite_false]
    refine c_isPlace (fun z2 => ?_) (fun z2 => ?_)
    · obtain ⟨to, hto, rfl⟩ := z2
      try simp (disch := omega) only [hs_at, hs_put, hs_63, NH_at, NH_put, NH_cpy, ni_add, ni_mul, ni_clamp, ni_in, ni_eq, ni_lt, ni_le, ni_sub, Nat.reduceAdd, Nat.reduceMul, Nat.reduceSub, eq_self, true_implies, not_true_eq_false, false_implies, and_true, true_and, not_false_eq_true, Nat.reduceEqDiff, Nat.reduceLeDiff, Nat.reduceLT, implies_true, ite_true, ite_false, q7]
      refine ⟨by omega, fun z3 => ?_, fun z3 => ?_⟩
      · refine hno (fun q => ?_)
        have := q.2.2
        rw [ni_clamp (by omega), ni_clamp (by omega)] at this
        exact this z3
      · have hokb : okBe g (nI p) (nI to) := ⟨⟨p, hp, rfl⟩, ⟨to, hto, rfl⟩, by rw [ni_clamp (by omega), ni_clamp (by omega)]; exact z3⟩
        unfold sp_best at hq
        rw [cif_pos hokb, ni_clamp (by omega), ni_clamp (by omega)] at hq
        have fin : ∀ c3, RAt g c3 → (∀ o, o ≠ 7 → o ≠ 11 → o ≠ 12 → o ≠ 13 → o ≠ 16 → o ≠ 19 → o ≠ 21 → o ≠ 22 → o ≠ 55 → o ≠ 56 → o ≠ 57 → c3 o = c o) → RA g c3 ∧ (∀ o, o = 0 ∨ o = 17 ∨ o = 18 ∨ o = 20 ∨ (22 < o ∧ o ≠ 55 ∧ o ≠ 56 ∧ o ≠ 57) → c3 o = c o) := by
          intro c3 r3 f3
          refine ⟨⟨r3.1, r3.2.1, r3.2.2, fun q hq => ?_⟩, fun o ho => f3 o (by omega) (by omega) (by omega) (by omega) (by omega) (by omega) (by omega) (by omega) (by omega) (by omega) (by omega)⟩
          rw [f3 10 (by omega) (by omega) (by omega) (by omega) (by omega) (by omega) (by omega) (by omega) (by omega) (by omega) (by omega)]
          exact hA.2.2.2 q hq
        refine c_bfind hp hto hW ht hAt hL hok h20 z3 (fun x hx c3 r3 b3 _ f3 => ?_) (fun hx c3 r3 f3 => ?_)
        · obtain ⟨a1, a2⟩ := fin c3 r3 f3
          have hans := hq c3 a1 a2
          rw [hx] at hans
          simp only at hans
          obtain ⟨e4, e5, k56, x8, x1, x7⟩ := b3
          try simp (disch := omega) only [hs_at, hs_put, hs_63, NH_at, NH_put, NH_cpy, ni_add, ni_mul, ni_clamp, ni_in, ni_eq, ni_lt, ni_le, ni_sub, Nat.reduceAdd, Nat.reduceMul, Nat.reduceSub, eq_self, true_implies, not_true_eq_false, false_implies, and_true, true_and, not_false_eq_true, Nat.reduceEqDiff, Nat.reduceLeDiff, Nat.reduceLT, implies_true, ite_true, ite_false, e4, e5]
          refine ⟨fun e => ?_, fun e => ⟨fun e1 => ?_, fun e1 => ?_⟩⟩
          · rw [if_pos e] at hans; exact hans
          · rw [if_neg e, if_pos e1] at hans; exact hans
          · rw [if_neg e, if_neg e1] at hans
            refine c_isPart (by omega) (fun y => ?_) (fun y => ?_)
            · rw [cif_pos y] at hans
              obtain ⟨k, hk, rfl⟩ := y
              rw [ni_clamp (by omega), Nat.add_sub_cancel_left] at hans
              have hk56 := WA_get (A := fun i => nI (c3 56 i)) x.2 0 k hk (CS_WA x.2 0 k56)
              rw [Nat.zero_add] at hk56
              try simp (disch := omega) only [hs_at, hs_put, hs_63, NH_at, NH_put, NH_cpy, ni_add, ni_mul, ni_clamp, ni_in, ni_eq, ni_lt, ni_le, ni_sub, Nat.reduceAdd, Nat.reduceMul, Nat.reduceSub, eq_self, true_implies, not_true_eq_false, false_implies, and_true, true_and, not_false_eq_true, Nat.reduceEqDiff, Nat.reduceLeDiff, Nat.reduceLT, implies_true, ite_true, ite_false, Nat.add_sub_cancel_left]
              refine ⟨by omega, ?_⟩
              rw [hk56]
              exact hans
            · rw [cif_neg y] at hans
              try simp (disch := omega) only [hs_at, hs_put, hs_63, NH_at, NH_put, NH_cpy, ni_add, ni_mul, ni_clamp, ni_in, ni_eq, ni_lt, ni_le, ni_sub, Nat.reduceAdd, Nat.reduceMul, Nat.reduceSub, eq_self, true_implies, not_true_eq_false, false_implies, and_true, true_and, not_false_eq_true, Nat.reduceEqDiff, Nat.reduceLeDiff, Nat.reduceLT, implies_true, ite_true, ite_false]
              exact hans
        · obtain ⟨a1, a2⟩ := fin c3 r3 f3
          have hans := hq c3 a1 a2
          rw [hx] at hans
          try simp (disch := omega) only [hs_at, hs_put, hs_63, NH_at, NH_put, NH_cpy, ni_add, ni_mul, ni_clamp, ni_in, ni_eq, ni_lt, ni_le, ni_sub, Nat.reduceAdd, Nat.reduceMul, Nat.reduceSub, eq_self, true_implies, not_true_eq_false, false_implies, and_true, true_and, not_false_eq_true, Nat.reduceEqDiff, Nat.reduceLeDiff, Nat.reduceLT, implies_true, ite_true, ite_false]
          exact hans
    · try simp (disch := omega) only [hs_at, hs_put, hs_63, NH_at, NH_put, NH_cpy, ni_add, ni_mul, ni_clamp, ni_in, ni_eq, ni_lt, ni_le, ni_sub, Nat.reduceAdd, Nat.reduceMul, Nat.reduceSub, eq_self, true_implies, not_true_eq_false, false_implies, and_true, true_and, not_false_eq_true, Nat.reduceEqDiff, Nat.reduceLeDiff, Nat.reduceLT, implies_true, ite_true, ite_false]
      exact hno (fun q => z2 q.2.1)
  · try simp (disch := omega) only [hs_at, hs_put, hs_63, NH_at, NH_put, NH_cpy, ni_add, ni_mul, ni_clamp, ni_in, ni_eq, ni_lt, ni_le, ni_sub, Nat.reduceAdd, Nat.reduceMul, Nat.reduceSub, eq_self, true_implies, not_true_eq_false, false_implies, and_true, true_and, not_false_eq_true, Nat.reduceEqDiff, Nat.reduceLeDiff, Nat.reduceLT, implies_true, ite_true, ite_false]
    rw [e1] at z1
    exact hno (fun q => z1 q.1)
end CIBEST
