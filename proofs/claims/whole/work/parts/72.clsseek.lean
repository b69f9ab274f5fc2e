/-! ===== part 72: the class's search for the best way ===== -/
def BC (c : Nat → Nat → Nat) (B : Option (Nat × List Nat)) : Prop := match B with
  | none => c 55 4 = 10 ∧ c 55 5 = 0
  | some x => c 55 4 = x.1 ∧ c 55 5 = x.2.length ∧ CS (c 56) x.2 0 ∧ x.1 ≤ 8 ∧ 1 ≤ x.2.length ∧ x.2.length ≤ 7
def FB (c c' : Nat → Nat → Nat) : Prop := (∀ o, o ≠ 7 → o ≠ 11 → o ≠ 12 → o ≠ 13 → o ≠ 16 → o ≠ 19 → o ≠ 21 → o ≠ 22 → o ≠ 55 → o ≠ 56 → o ≠ 57 → c' o = c o) ∧ ∀ k, k ≠ 4 → k ≠ 5 → c' 55 k = c 55 k
section CSEEK
variable {E : am_E} {d : Nat} {h : am_H} {Q : Int32 → am_H → Prop} {g g0 : Nat → Nat} {c : Nat → Nat → Nat} {t : Nat}
theorem FB.refl (c : Nat → Nat → Nat) : FB c c := ⟨fun _ _ _ _ _ _ _ _ _ _ _ _ => rfl, fun _ _ _ => rfl⟩
theorem FB.trans {c c1 c2 : Nat → Nat → Nat} (a : FB c c1) (b : FB c1 c2) : FB c c2 := ⟨fun o x1 x2 x3 x4 x5 x6 x7 x8 x9 x10 x11 => (b.1 o x1 x2 x3 x4 x5 x6 x7 x8 x9 x10 x11).trans (a.1 o x1 x2 x3 x4 x5 x6 x7 x8 x9 x10 x11), fun k x y => (b.2 k x y).trans (a.2 k x y)⟩
theorem FB.ft {c c1 : Nat → Nat → Nat} (h : FT c c1) : FB c c1 := ⟨fun o _ _ _ _ _ x6 x7 x8 _ _ _ => h o x6 x7 x8, fun k _ _ => by rw [h 55 (by omega) (by omega) (by omega)]⟩
theorem FB.fp {c c1 : Nat → Nat → Nat} (h : FP c c1) : FB c c1 := ⟨fun o x1 x2 x3 x4 x5 _ _ _ _ _ _ => h o x1 x2 x3 x4 x5, fun k _ _ => by rw [h 55 (by omega) (by omega) (by omega) (by omega) (by omega)]⟩
theorem BC.cg {c c' : Nat → Nat → Nat} {B : Option (Nat × List Nat)} (h : BC c B) (h55 : c' 55 = c 55) (h56 : c' 56 = c 56) : BC c' B := by
  unfold BC at *
  rw [h55, h56]
  exact h
theorem CS_cp {f f' : Nat → Nat} : ∀ (ch : List Nat) (k : Nat), (∀ i, i < ch.length → f' (k + i) = f (k + i)) → CS f ch k → CS f' ch k
  | [], _, _, _ => trivial
  | m :: r, k, hl, h => by
    simp only [List.length_cons] at hl
    refine ⟨?_, CS_cp r (k + 1) (fun i hi => ?_) h.2⟩
    · have := hl 0 (by omega)
      rw [Nat.add_zero] at this
      rw [this]; exact h.1
    · have := hl (i + 1) (by omega)
      rw [show k + 1 + i = k + (i + 1) by omega]
      exact this
theorem c_consider {ws : List Nat} {lf : Nat} {B : Option (Nat × List Nat)} (hl1 : 1 ≤ ws.length) (hl : ws.length ≤ 7) (hlf : lf ≤ 8) (hcs : CS (c 57) ws 0) (hB : BC c B) (hle : ∀ x, B = some x → lf ≤ x.1) (hq : ∀ c', BC c' (upB B lf ws) → (∀ o, o ≠ 55 → o ≠ 56 → c' o = c o) → (∀ k, k ≠ 4 → k ≠ 5 → c' 55 k = c 55 k) → Q 0 (NH c')) :
    am_C tT E (d + 1) mX1_consider [.inr 55, .inl (nI ws.length), .inl (nI lf)] (NH c) Q := by
  have hyes : upB B lf ws = some (lf, ws) → Q 0 (NH (ccp (cup (cup c 55 4 lf) 55 5 ws.length) 57 0 56 0 ws.length)) := by
    intro e
    refine hq _ ?_ (fun o x y => ?_) (fun k x y => ?_)
    · rw [e]
      refine ⟨?_, ?_, ?_, hlf, hl1, hl⟩
      · grind [cup_app, ccp_app]
      · grind [cup_app, ccp_app]
      · refine CS_cp ws 0 (fun i hi => ?_) hcs
        grind [cup_app, ccp_app]
    · funext j; grind [cup_app, ccp_app]
    · grind [cup_app, ccp_app]
  have hno : upB B lf ws = B → Q 0 (NH c) := fun e => hq c (by rw [e]; exact hB) (fun _ _ _ => rfl) (fun _ _ _ => rfl)
  refine am_C.of (by decide) (Nat.le_of_ble_eq_true rfl) ?_
  show am_R tT E _ mX1_consider _ 0 [some (.inr 55), some (.inl (nI ws.length)), some (.inl (nI lf))] [] (NH c)
  cases B with
  | none =>
    obtain ⟨e4, e5⟩ := hB
    refine am_goS gX1_consider [] 400 ?_
    simp only [am_eqs, am_eqk, am_eqv, lX1_consider_0, fx_class, NH_at, NH_put, ↓reduceIte, List.mem_cons, List.not_mem_nil, or_false, or_self, false_or, true_and, and_true, Nat.reduceEqDiff, reduceCtorEq, List.length_cons, List.length_nil, Nat.reduceAdd, Nat.reduceLeDiff, Nat.reduceSub, Nat.reduceLT, Nat.zero_le, Nat.zero_add, forall_const, not_true_eq_false, not_false_eq_true, false_implies, true_implies, implies_true, Nat.zero_lt_succ, am_z0, am_z1]
    try simp (disch := omega) only [hs_at, hs_put, hs_63, NH_at, NH_put, NH_cpy, ni_add, ni_mul, ni_clamp, ni_in, ni_eq, ni_lt, ni_le, ni_sub, Nat.reduceAdd, Nat.reduceMul, Nat.reduceSub, eq_self, true_implies, not_true_eq_false, false_implies, and_true, true_and, not_false_eq_true, Nat.reduceEqDiff, Nat.reduceLeDiff, Nat.reduceLT, implies_true, ite_true, ite_false, nup_self, nup_ne, cup_self, cup_ne, e4, e5, ni_n0]
    refine ⟨fun _ => ⟨by omega, by omega, hyes rfl⟩, fun z => absurd z (by omega)⟩
  | some x =>
    obtain ⟨e4, e5, h56, x8, x1, x7⟩ := hB
    have hx := hle x rfl
    simp only [upB] at hyes hno
    refine am_goS gX1_consider [] 400 ?_
    simp only [am_eqs, am_eqk, am_eqv, lX1_consider_0, fx_class, NH_at, NH_put, ↓reduceIte, List.mem_cons, List.not_mem_nil, or_false, or_self, false_or, true_and, and_true, Nat.reduceEqDiff, reduceCtorEq, List.length_cons, List.length_nil, Nat.reduceAdd, Nat.reduceLeDiff, Nat.reduceSub, Nat.reduceLT, Nat.zero_le, Nat.zero_add, forall_const, not_true_eq_false, not_false_eq_true, false_implies, true_implies, implies_true, Nat.zero_lt_succ, am_z0, am_z1]
    try simp (disch := omega) only [hs_at, hs_put, hs_63, NH_at, NH_put, NH_cpy, ni_add, ni_mul, ni_clamp, ni_in, ni_eq, ni_lt, ni_le, ni_sub, Nat.reduceAdd, Nat.reduceMul, Nat.reduceSub, eq_self, true_implies, not_true_eq_false, false_implies, and_true, true_and, not_false_eq_true, Nat.reduceEqDiff, Nat.reduceLeDiff, Nat.reduceLT, implies_true, ite_true, ite_false, nup_self, nup_ne, cup_self, cup_ne, e4, e5, ni_n0]
    refine ⟨fun z => ⟨by omega, by omega, hyes (if_neg (by omega))⟩, fun z => ⟨fun y => hno (if_pos (by omega)), fun y => ⟨by omega, by omega, hyes (if_neg (by omega))⟩⟩⟩
noncomputable def nmL (g : Nat → Nat) (lw : Lw) (p b : Nat) : Nat := if duG g lw p b = 100 then 100 else og g p (5 + duG g lw p b)
theorem c_passG {lw : Lw} {p b : Nat} (hp : p < g 1) (hb : b < g 2) (hW : WF g t) (hd : duG g lw p b ≠ 200) (hA : RAt g c) (hq : ∀ c', RAt (stG g lw p b) c' → FP c c' → Q (nI (nmL g lw p b)) (NH c')) : am_C tT E (d + 2) mX7_pass [.inr 20, .inl (nI p), .inl (nI b), .inl (nI (duG g lw p b))] (NH c) Q := by
  have w1 := hW.1.2.1
  unfold stG nmL at hq
  by_cases e : duG g lw p b = 100
  · rw [if_pos e, if_pos e] at hq
    rw [e]
    exact c_passF hp hb hW hA hq
  · rw [if_neg e, if_neg e] at hq
    exact c_passO hp hb (duG_o (hW.p (show p < 8 by omega)).2.2.1 e hd) hW hA hq
theorem c_backG {lw : Lw} {p b : Nat} (hp : p < g 1) (hb : b < g 2) (htou : tou g b (og g p 0)) (hW : WF g t) (hd : duG g lw p b ≠ 200) (hA : RAt (stG g lw p b) c) (hq : ∀ c', RAt g c' → FP c c' → Q 0 (NH c')) : am_C tT E (d + 2) mX7_back [.inr 20, .inl (nI p), .inl (nI b), .inl (nI (duG g lw p b)), .inl (nI (nmL g lw p b))] (NH c) Q := by
  have w1 := hW.1.2.1
  unfold stG at hA
  unfold nmL
  by_cases e : duG g lw p b = 100
  · rw [if_pos e] at hA
    rw [if_pos e, e]
    exact c_backF hp hb htou hW hA hq
  · rw [if_neg e] at hA
    rw [if_neg e]
    exact c_backO hp hb (duG_o (hW.p (show p < 8 by omega)).2.2.1 e hd) rfl htou hW hA hq
theorem c_dueG {lw : Lw} {p b : Nat} (hp : p < g 1) (hb : b < 12) (hW : WF g t) (ht : t < 1000000) (hA : RAt g c) (hL : LC c lw) (hok : LOK lw) (h20 : c 20 3 = 0)
    (hB : duG g lw p b = 200 → ∀ c', FT c c' → Q (-2) (NH c')) (hO : duG g lw p b ≠ 200 → ∀ c', FT c c' → Q (nI (duG g lw p b)) (NH c')) :
    am_C tT E (d + 3) mX7_due [.inr 20, .inl (nI p), .inl (nI b)] (NH c) Q := by
  have w1 := hW.1.2.1
  have h9 := (hW.p (show p < 8 by omega)).2.2.1
  refine c_due (V := fun _ _ _ _ => True) hp hb hW ht hA hL hok (Or.inl h20) (fun z => absurd z (by omega)) (fun hd => ?_) (fun hd c' f _ => hB hd c' f) (fun o ho hd c' f _ => ?_)
  · have := hO (by omega) c (fun _ _ _ _ => rfl)
    rw [hd] at this
    exact this
  · have := hO (by omega) c' f
    rw [hd] at this
    exact this
end CSEEK
