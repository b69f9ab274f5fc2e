/-! ===== part 43: the class's law ===== -/
def un (v : Int32) : Nat := v.toBitVec.toNat
theorem ni_un (v : Int32) : nI (un v) = v := by
  apply ni_ext
  rw [ni_bv]
  simp [un]
theorem NH_putv (c : Nat → Nat → Nat) (o k : Nat) (v : Int32) : am_upd (NH c) o k v = NH (cup c o k (un v)) := by
  rw [← NH_put, ni_un]
def SC (f : Nat → Nat) : List Int32 → Prop
  | [] => True
  | x :: r => nI (f r.length) = x ∧ SC f r
theorem SC_upd {f : Nat → Nat} {k v : Nat} : ∀ (r : List Int32), r.length ≤ k → SC f r → SC (nup f k v) r
  | [], _, _ => trivial
  | x :: r, h, hs => by
    have hl : r.length + 1 ≤ k := h
    refine ⟨?_, SC_upd r (by omega) hs.2⟩
    rw [nup_ne _ _ (by omega)]
    exact hs.1
def jn (x : Nat) (a b : Int32) : Int32 := if x = 20043 then a + b else if x = 20045 then a - b else if x = 20042 then a * b else if x = 20047 then (if b = nI 0 then nI 0 else a / b) else if x = 20060 then (if a < b then nI 1 else nI 0) else if x = 20061 then (if a = b then nI 1 else nI 0) else if x = 20062 then (if b < a then nI 1 else nI 0) else if x = 10004 then a &&& b else a ||| b
def isJ (x : Nat) : Prop := x = 20043 ∨ x = 20045 ∨ x = 20042 ∨ x = 20047 ∨ x = 20060 ∨ x = 20061 ∨ x = 20062 ∨ x = 10004 ∨ x = 10003
section CLAW
variable {E : am_E} {d : Nat} {h : am_H} {Q : Int32 → am_H → Prop} {g : Nat → Nat} {c : Nat → Nat → Nat} {t : Nat}
theorem c_joined {x : Nat} {a b : Int32} (hx : isJ x) (hq : Q (jn x a b) h) : am_C tT E d mX3_joined [.inl (nI x), .inl a, .inl b] h Q := by
  refine am_C.of (by decide) (Nat.le_of_ble_eq_true rfl) ?_
  show am_R tT E _ mX3_joined _ 0 [some (.inl (nI x)), some (.inl a), some (.inl b)] [] h
  have hb : x < 30000 := by unfold isJ at hx; omega
  unfold isJ at hx
  unfold jn at hq
  rcases hx with rfl | rfl | rfl | rfl | rfl | rfl | rfl | rfl | rfl
  all_goals simp only [Nat.reduceEqDiff, if_true, if_false, ↓reduceIte] at hq
  all_goals
    refine am_goS gX3_joined [] 400 ?_
    simp only [am_eqs, am_eqk, am_eqv, lX3_joined_0, lX3_joined_1, lX3_joined_2, fx_class, NH_at, NH_put, ↓reduceIte, List.mem_cons, List.not_mem_nil, or_false, or_self, false_or, true_and, and_true, Nat.reduceEqDiff, reduceCtorEq, List.length_cons, List.length_nil, Nat.reduceAdd, Nat.reduceLeDiff, Nat.reduceSub, Nat.reduceLT, Nat.zero_le, Nat.zero_add, forall_const, not_true_eq_false, not_false_eq_true, false_implies, true_implies, implies_true, Nat.zero_lt_succ, am_z0, am_z1]
  all_goals (try simp (disch := omega) only [hs_at, hs_put, hs_63, NH_at, NH_put, NH_cpy, ni_add, ni_mul, ni_clamp, ni_in, ni_eq, ni_lt, ni_le, ni_sub, Nat.reduceAdd, Nat.reduceMul, Nat.reduceSub, eq_self, true_implies, not_true_eq_false, false_implies, and_true, true_and, not_false_eq_true, Nat.reduceEqDiff, Nat.reduceLeDiff, Nat.reduceLT, implies_true, ite_true, ite_false])
  all_goals (first | exact hq | skip)
  · refine ⟨fun z => by rw [if_pos z] at hq; exact hq, fun z => ⟨z, by rw [if_neg z] at hq; exact hq⟩⟩
  all_goals grind
theorem c_isFact {x : Nat} (hx : x < 2147483648) (h1 : 10006 ≤ x ∧ x < 10014 → Q (nI 1) h) (h0 : ¬ (10006 ≤ x ∧ x < 10014) → Q (nI 0) h) : am_C tT E d mX11_isFact [.inl (nI x)] h Q := by
  refine am_C.of (by decide) (Nat.le_of_ble_eq_true rfl) ?_
  show am_R tT E _ mX11_isFact _ 0 [some (.inl (nI x))] [] h
  refine am_goS gX11_isFact [] 400 ?_
  simp only [am_eqs, am_eqk, am_eqv, lX11_isFact_0, fx_class, NH_at, NH_put, ↓reduceIte, List.mem_cons, List.not_mem_nil, or_false, or_self, false_or, true_and, and_true, Nat.reduceEqDiff, reduceCtorEq, List.length_cons, List.length_nil, Nat.reduceAdd, Nat.reduceLeDiff, Nat.reduceSub, Nat.reduceLT, Nat.zero_le, Nat.zero_add, forall_const, not_true_eq_false, not_false_eq_true, false_implies, true_implies, implies_true, Nat.zero_lt_succ, am_z0, am_z1]
  simp (disch := omega) only [hs_at, hs_put, hs_63, NH_at, NH_put, NH_cpy, ni_add, ni_mul, ni_clamp, ni_in, ni_eq, ni_lt, ni_le, ni_sub, Nat.reduceAdd, Nat.reduceMul, Nat.reduceSub, eq_self, true_implies, not_true_eq_false, false_implies, and_true, true_and, not_false_eq_true, Nat.reduceEqDiff, Nat.reduceLeDiff, Nat.reduceLT, implies_true, ite_true, ite_false]
  refine ⟨fun z => h0 (by omega), fun z => ⟨fun y => h0 (by omega), fun y => h1 (by omega)⟩⟩
theorem c_tok {x i tp : Nat} {stk : List Int32} {v4 : Option am_V} (hfr : c 18 i = x) (hi : i < c 17 1) (h400 : c 17 1 ≤ 400) (hs : SC (c 19) stk) (htp : tp = stk.length)
    (hk : (x < 10000 ∧ stk.length < 22 ∧ ∀ c', (∀ o, o ≠ 19 → c' o = c o) → SC (c' 19) (nI x :: stk) → am_R tT E (d + 1) mX3_allows Q 4 [some (.inr 17), some (.inr 21), some (.inl (nI (stk.length + 1))), some (.inl (nI (i + 1))), some (.inl (nI x))] [] (NH c'))
      ∨ (10006 ≤ x ∧ x < 10014 ∧ stk.length < 22 ∧ ∀ c', (∀ o, o ≠ 19 → c' o = c o) → SC (c' 19) (nI (c 21 (x - 10006)) :: stk) → am_R tT E (d + 1) mX3_allows Q 4 [some (.inr 17), some (.inr 21), some (.inl (nI (stk.length + 1))), some (.inl (nI (i + 1))), some (.inl (nI x))] [] (NH c'))
      ∨ (x = 10005 ∧ stk.length ≤ 22 ∧ ∃ a r, stk = a :: r ∧ ∀ c', (∀ o, o ≠ 19 → c' o = c o) → SC (c' 19) ((nI 1 - a) :: r) → am_R tT E (d + 1) mX3_allows Q 4 [some (.inr 17), some (.inr 21), some (.inl (nI (r.length + 1))), some (.inl (nI (i + 1))), some (.inl (nI x))] [] (NH c'))
      ∨ (isJ x ∧ stk.length ≤ 22 ∧ ∃ a b r, stk = a :: b :: r ∧ ∀ c', (∀ o, o ≠ 19 → c' o = c o) → SC (c' 19) (jn x b a :: r) → am_R tT E (d + 1) mX3_allows Q 4 [some (.inr 17), some (.inr 21), some (.inl (nI (r.length + 1))), some (.inl (nI (i + 1))), some (.inl (nI x))] [] (NH c'))) :
    am_R tT E (d + 1) mX3_allows Q 4 [some (.inr 17), some (.inr 21), some (.inl (nI tp)), some (.inl (nI i)), v4] [] (NH c) := by
  subst htp
  have hx : x < 30000 := by
    unfold isJ at hk
    rcases hk with h | h | h | h
    all_goals omega
  have hc19 : ∀ k v o, o ≠ 19 → cup c 19 k v o = c o := fun k v o ho => cup_ne _ _ _ ho
  refine am_goS gX3_allows [4] 400 ?_
  simp only [am_eqs, am_eqk, am_eqv, lX3_allows_0, lX3_allows_1, lX3_allows_2, lX3_allows_3, lX3_allows_4, fx_class, NH_at, NH_put, ↓reduceIte, List.mem_cons, List.not_mem_nil, or_false, or_self, false_or, true_and, and_true, Nat.reduceEqDiff, reduceCtorEq, List.length_cons, List.length_nil, Nat.reduceAdd, Nat.reduceLeDiff, Nat.reduceSub, Nat.reduceLT, Nat.zero_le, Nat.zero_add, forall_const, not_true_eq_false, not_false_eq_true, false_implies, true_implies, implies_true, Nat.zero_lt_succ, am_z0, am_z1]
  simp (disch := omega) only [hs_at, hs_put, hs_63, NH_at, NH_put, NH_cpy, ni_add, ni_mul, ni_clamp, ni_in, ni_eq, ni_lt, ni_le, ni_sub, Nat.reduceAdd, Nat.reduceMul, Nat.reduceSub, eq_self, true_implies, not_true_eq_false, false_implies, and_true, true_and, not_false_eq_true, Nat.reduceEqDiff, Nat.reduceLeDiff, Nat.reduceLT, implies_true, ite_true, ite_false, hfr]
  refine ⟨fun z => absurd z (by omega), fun _ => ⟨by omega, ?_⟩⟩
  rcases hk with ⟨k1, k2, kq⟩ | ⟨k1, k2, k3, kq⟩ | ⟨k1, k2, a, r, rfl, kq⟩ | ⟨k1, k2, a, b, r, rfl, kq⟩
  · refine ⟨fun z => absurd z (by omega), fun _ => ⟨fun z => absurd z (by omega), fun _ => ⟨fun z => absurd z (by omega), fun _ => ⟨fun z => absurd z (by omega), fun _ => ⟨fun z => absurd z (by omega), fun _ => ⟨fun _ => ⟨fun z => ?_, fun _ => ?_⟩, fun z => absurd (show x < 20000 by omega) z⟩⟩⟩⟩⟩⟩
    · exfalso
      have z2 : nI 22 ≤ nI stk.length := z
      rw [ni_le (by omega) (by omega)] at z2
      omega
    · refine c_isFact (by omega) (fun y => absurd y (by omega)) (fun y => ?_)
      simp (disch := omega) only [hs_at, hs_put, hs_63, NH_at, NH_put, NH_cpy, ni_add, ni_mul, ni_clamp, ni_in, ni_eq, ni_lt, ni_le, ni_sub, Nat.reduceAdd, Nat.reduceMul, Nat.reduceSub, eq_self, true_implies, not_true_eq_false, false_implies, and_true, true_and, not_false_eq_true, Nat.reduceEqDiff, Nat.reduceLeDiff, Nat.reduceLT, implies_true, ite_true, ite_false]
      refine ⟨by omega, kq _ (hc19 _ _) ⟨?_, ?_⟩⟩
      · rw [cup_self, nup_self]
      · rw [cup_self]; exact SC_upd _ (Nat.le_refl _) hs
  · refine ⟨fun z => absurd z (by omega), fun _ => ⟨fun z => absurd z (by omega), fun _ => ⟨fun z => absurd z (by omega), fun _ => ⟨fun z => absurd z (by omega), fun _ => ⟨fun z => absurd z (by omega), fun _ => ⟨fun _ => ⟨fun z => ?_, fun _ => ?_⟩, fun z => absurd (show x < 20000 by omega) z⟩⟩⟩⟩⟩⟩
    · exfalso
      have z2 : nI 22 ≤ nI stk.length := z
      rw [ni_le (by omega) (by omega)] at z2
      omega
    · refine c_isFact (by omega) (fun y => ?_) (fun y => absurd ⟨k1, k2⟩ y)
      simp (disch := omega) only [hs_at, hs_put, hs_63, NH_at, NH_put, NH_cpy, ni_add, ni_mul, ni_clamp, ni_in, ni_eq, ni_lt, ni_le, ni_sub, Nat.reduceAdd, Nat.reduceMul, Nat.reduceSub, eq_self, true_implies, not_true_eq_false, false_implies, and_true, true_and, not_false_eq_true, Nat.reduceEqDiff, Nat.reduceLeDiff, Nat.reduceLT, implies_true, ite_true, ite_false]
      refine ⟨by omega, by omega, kq _ (hc19 _ _) ⟨?_, ?_⟩⟩
      · rw [cup_self, nup_self]
      · rw [cup_self]; exact SC_upd _ (Nat.le_refl _) hs
  · simp only [List.length_cons] at k2 ⊢
    have htop : nI (c 19 r.length) = a := hs.1
    refine ⟨fun z => absurd z (by omega), fun _ => ⟨fun z => absurd z (by omega), fun _ => ⟨fun _ => ⟨fun z => absurd z (by omega), fun _ => ?_⟩, fun z => absurd k1 z⟩⟩⟩
    simp (disch := omega) only [hs_at, hs_put, hs_63, NH_at, NH_put, NH_cpy, ni_add, ni_mul, ni_clamp, ni_in, ni_eq, ni_lt, ni_le, ni_sub, Nat.reduceAdd, Nat.reduceMul, Nat.reduceSub, eq_self, true_implies, not_true_eq_false, false_implies, and_true, true_and, not_false_eq_true, Nat.reduceEqDiff, Nat.reduceLeDiff, Nat.reduceLT, implies_true, ite_true, ite_false, Nat.add_sub_cancel, htop, NH_putv]
    refine ⟨by omega, by omega, kq _ (hc19 _ _) ⟨?_, ?_⟩⟩
    · rw [cup_self, nup_self, ni_un]
    · rw [cup_self]; exact SC_upd _ (Nat.le_refl _) hs.2
  · simp only [List.length_cons] at k2 ⊢
    have htop : nI (c 19 (r.length + 1)) = a := hs.1
    have htop2 : nI (c 19 r.length) = b := hs.2.1
    have hj : am_C tT E d mX3_joined [Sum.inl (nI x), Sum.inl (nI (c 19 r.length)), Sum.inl (nI (c 19 (r.length + 1)))] (NH c) fun v h' => vp_in (nI r.length) 22 ∧ am_R tT E (d + 1) mX3_allows Q 4 [some (Sum.inr 17), some (Sum.inr 21), some (Sum.inl (nI (r.length + 1))), some (Sum.inl (nI (i + 1))), some (Sum.inl (nI x))] [] (am_upd h' 19 r.length v) := by
      refine c_joined k1 ?_
      rw [htop, htop2, NH_putv, ni_in (by omega)]
      refine ⟨by omega, kq _ (hc19 _ _) ⟨?_, ?_⟩⟩
      · rw [cup_self, nup_self, ni_un]
      · rw [cup_self]; exact SC_upd _ (Nat.le_refl _) hs.2.2
    have hu : isJ x := k1
    unfold isJ at hu
    simp (disch := omega) only [hs_at, hs_put, hs_63, NH_at, NH_put, NH_cpy, ni_add, ni_mul, ni_clamp, ni_in, ni_eq, ni_lt, ni_le, ni_sub, Nat.reduceAdd, Nat.reduceMul, Nat.reduceSub, eq_self, true_implies, not_true_eq_false, false_implies, and_true, true_and, not_false_eq_true, Nat.reduceEqDiff, Nat.reduceLeDiff, Nat.reduceLT, implies_true, ite_true, ite_false, ni_addm1, Nat.add_sub_cancel]
    rw [ni_in (by omega)] at hj
    refine ⟨fun z => absurd z (by omega), fun _ => ⟨fun z => absurd z (by omega), fun _ => ⟨fun z => absurd z (by omega), fun _ => ⟨fun _ => ⟨by omega, by omega, hj⟩, fun y1 => ⟨fun _ => ⟨by omega, by omega, hj⟩, fun y2 => ⟨fun z => absurd z (by omega), fun _ => ⟨by omega, by omega, hj⟩⟩⟩⟩⟩⟩⟩
end CLAW
