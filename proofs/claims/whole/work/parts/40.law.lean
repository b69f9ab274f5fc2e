/-! ===== part 40: what a law's code comes to; the reference's evaluation ===== -/
def bth (s : Nat) (a b : Int32) : Int32 := if s = 13 then a + b else if s = 14 then a - b else if s = 15 then a * b else if s = 17 then (if a < b then nI 1 else nI 0) else if s = 18 then (if a = b then nI 1 else nI 0) else if s = 19 then (if b < a then nI 1 else nI 0) else if s = 21 then a &&& b else a ||| b
def ev1 (fc : Nat → Int32) (q : Nat × Nat) (stk : List Int32) : List Int32 :=
  if q.1 < 13 then (if q.1 = 0 then nI q.2 else fc q.1) :: stk
  else match stk with
    | [] => []
    | a :: r => if q.1 = 16 then (a / nI q.2) :: r else if q.1 = 20 then (nI 1 - a) :: r else match r with
      | [] => []
      | b :: r' => bth q.1 b a :: r'
def evL (fc : Nat → Int32) : List (Nat × Nat) → List Int32 → List Int32
  | [], stk => stk
  | q :: st, stk => evL fc st (ev1 fc q stk)
def ty1 (q : Nat × Nat) (T : List Bool) : Option (List Bool) :=
  if q.1 < 13 then (if q.1 ≤ 8 ∧ q.2 ≤ 9999 ∧ T.length < 22 then some (false :: T) else none)
  else match T with
    | [] => none
    | x :: r => if q.1 = 16 then (if x = false ∧ 1 ≤ q.2 ∧ q.2 ≤ 9999 ∧ r.length < 21 then some (x :: r) else none)
      else if q.1 = 20 then (if x = true then some (x :: r) else none)
      else match r with
        | [] => none
        | y :: r' => if q.1 = 13 ∨ q.1 = 14 ∨ q.1 = 15 then (if x = false ∧ y = false then some (false :: r') else none)
          else if q.1 = 17 ∨ q.1 = 18 ∨ q.1 = 19 then (if x = false ∧ y = false then some (true :: r') else none)
          else if q.1 = 21 ∨ q.1 = 22 then (if x = true ∧ y = true then some (true :: r') else none) else none
def tyL : List (Nat × Nat) → List Bool → Option (List Bool)
  | [], T => some T
  | q :: st, T => match ty1 q T with
    | none => none
    | some T' => tyL st T'
def TM : List Bool → List Int32 → Prop
  | [], [] => True
  | b :: T, v :: s => (b = true → v = nI 0 ∨ v = nI 1) ∧ TM T s
  | _, _ => False
def SR (f : Nat → Int32) : List Int32 → Prop
  | [] => True
  | x :: r => f r.length = x ∧ SR f r
theorem TM_len : ∀ (T : List Bool) (s : List Int32), TM T s → T.length = s.length
  | [], [], _ => rfl
  | _ :: T, _ :: s, h => congrArg (· + 1) (TM_len T s h.2)
  | [], _ :: _, h => h.elim
  | _ :: _, [], h => h.elim
theorem SR_upd {f : Nat → Int32} {k : Nat} {v : Int32} : ∀ (r : List Int32), r.length ≤ k → SR f r → SR (upd f k v) r
  | [], _, _ => trivial
  | x :: r, h, hs => by
    have hl : r.length + 1 ≤ k := h
    refine ⟨?_, SR_upd r (by omega) hs.2⟩
    simp only [upd, if_neg (show ¬ r.length = k by omega)]
    exact hs.1
theorem bth_bool {s : Nat} {a b : Int32} (hs : s = 17 ∨ s = 18 ∨ s = 19) : bth s a b = nI 0 ∨ bth s a b = nI 1 := by
  rcases hs with rfl | rfl | rfl
  · show (if a < b then nI 1 else nI 0) = nI 0 ∨ (if a < b then nI 1 else nI 0) = nI 1
    by_cases h : a < b
    · exact Or.inr (if_pos h)
    · exact Or.inl (if_neg h)
  · show (if a = b then nI 1 else nI 0) = nI 0 ∨ (if a = b then nI 1 else nI 0) = nI 1
    by_cases h : a = b
    · exact Or.inr (if_pos h)
    · exact Or.inl (if_neg h)
  · show (if b < a then nI 1 else nI 0) = nI 0 ∨ (if b < a then nI 1 else nI 0) = nI 1
    by_cases h : b < a
    · exact Or.inr (if_pos h)
    · exact Or.inl (if_neg h)
theorem bth_log {s : Nat} {a b : Int32} (hs : s = 21 ∨ s = 22) (ha : a = nI 0 ∨ a = nI 1) (hb : b = nI 0 ∨ b = nI 1) : bth s a b = nI 0 ∨ bth s a b = nI 1 := by
  rcases hs with rfl | rfl <;> rcases ha with rfl | rfl <;> rcases hb with rfl | rfl <;> simp only [bth] <;> decide
theorem ty_ev1 {fc : Nat → Int32} {q : Nat × Nat} {T T' : List Bool} {stk : List Int32} (ht : ty1 q T = some T') (hm : TM T stk) : TM T' (ev1 fc q stk) := by
  unfold ty1 at ht
  unfold ev1
  by_cases h13 : q.1 < 13
  · rw [if_pos h13] at ht ⊢
    split at ht
    · cases ht; exact ⟨fun h => (by cases h), hm⟩
    · cases ht
  · rw [if_neg h13] at ht ⊢
    match T, stk, hm with
    | [], [], _ => cases ht
    | x :: r, a :: s, hm =>
      dsimp only at ht ⊢
      by_cases h16 : q.1 = 16
      · rw [if_pos h16] at ht ⊢
        split at ht
        · rename_i hc
          cases ht
          exact ⟨fun h => (by rw [hc.1] at h; cases h), hm.2⟩
        · cases ht
      · rw [if_neg h16] at ht ⊢
        by_cases h20 : q.1 = 20
        · rw [if_pos h20] at ht ⊢
          split at ht
          · rename_i hc
            cases ht
            refine ⟨fun _ => ?_, hm.2⟩
            rcases hm.1 hc with rfl | rfl
            · right; decide
            · left; decide
          · cases ht
        · rw [if_neg h20] at ht ⊢
          match r, s, hm with
          | [], [], _ => cases ht
          | y :: r', b :: s', hm =>
            dsimp only at ht ⊢
            split at ht
            · split at ht
              · cases ht; exact ⟨fun h => (by cases h), hm.2.2⟩
              · cases ht
            · split at ht
              · rename_i hc
                split at ht
                · cases ht; exact ⟨fun _ => bth_bool hc, hm.2.2⟩
                · cases ht
              · split at ht
                · rename_i hc
                  split at ht
                  · rename_i hxy
                    cases ht; exact ⟨fun _ => bth_log hc (hm.2.1 hxy.2) (hm.1 hxy.1), hm.2.2⟩
                  · cases ht
                · cases ht
section LAW
variable {E : am_E} {d : Nat} {h : am_H} {Q : Int32 → am_H → Prop} {g : Nat → Nat} {c : Nat → Nat → Nat} {t : Nat}
theorem r_both {s : Nat} {a b : Int32} (hs : 13 ≤ s ∧ s ≤ 22 ∧ s ≠ 16 ∧ s ≠ 20) (hq : Q (bth s a b) h) : am_C tT E d mX12_both [.inl (nI s), .inl a, .inl b] h Q := by
  refine am_C.of (by decide) (Nat.le_of_ble_eq_true rfl) ?_
  show am_R tT E _ mX12_both _ 0 [some (.inl (nI s)), some (.inl a), some (.inl b)] [] h
  refine am_goS gX12_both [] 400 ?_
  simp only [am_eqs, am_eqk, am_eqv, lX12_both_0, lX12_both_1, fx_ref, ↓reduceIte, List.mem_cons, List.not_mem_nil, or_false, or_self, false_or, true_and, and_true, Nat.reduceEqDiff, reduceCtorEq, List.length_cons, List.length_nil, Nat.reduceAdd, Nat.reduceLeDiff, Nat.reduceSub, Nat.reduceLT, Nat.zero_le, Nat.zero_add, forall_const, not_true_eq_false, not_false_eq_true, false_implies, true_implies, implies_true, Nat.zero_lt_succ, am_z0, am_z1]
  simp (disch := omega) only [hs_at, hs_put, hs_63, NH_at, NH_put, NH_cpy, ni_add, ni_mul, ni_clamp, ni_in, ni_eq, ni_lt, ni_le, ni_sub, Nat.reduceAdd, Nat.reduceMul, Nat.reduceSub, eq_self, true_implies, not_true_eq_false, false_implies, and_true, true_and, not_false_eq_true, Nat.reduceEqDiff, Nat.reduceLeDiff, Nat.reduceLT, implies_true, ite_true, ite_false]
  unfold bth at hq
  refine ⟨fun e => ?_, fun n13 => ⟨fun e => ?_, fun n14 => ⟨fun e => ?_, fun n15 => ⟨fun e => by omega, fun _ => ⟨fun e => ⟨fun c => ?_, fun c => ?_⟩, fun n17 => ⟨fun e => ⟨fun c => ?_, fun c => ?_⟩, fun n18 => ⟨fun e => ⟨fun c => ?_, fun c => ?_⟩, fun n19 => ⟨fun e => by omega, fun _ => ⟨fun e => ?_, fun n21 => ?_⟩⟩⟩⟩⟩⟩⟩⟩⟩
  all_goals (first | subst e | skip)
  all_goals (first | simpa using hq | skip)
  all_goals grind
/-- the steps of a line stand in w from a on -/
def ST (g : Nat → Nat) : List (Nat × Nat) → Nat → Prop
  | [], _ => True
  | q :: st, a => g (930 + 2 * a) = q.1 ∧ ((q.1 = 0 ∨ q.1 = 16) → g (931 + 2 * a) = q.2) ∧ ST g st (a + 1)
theorem SR_top {f : Nat → Int32} {x : Int32} {r : List Int32} (h : SR f (x :: r)) : f r.length = x := h.1
theorem ty_q {q : Nat × Nat} {T T' : List Bool} (h : ty1 q T = some T') : q.1 ≤ 22 ∧ (q.1 < 13 → q.1 ≤ 8 ∧ q.2 ≤ 9999 ∧ T.length < 22) ∧ (q.1 = 16 → 1 ≤ q.2 ∧ q.2 ≤ 9999 ∧ T.length < 22) ∧ (13 ≤ q.1 → 1 ≤ T.length) ∧ (13 ≤ q.1 → q.1 ≠ 16 → q.1 ≠ 20 → 2 ≤ T.length) ∧ T'.length ≤ 22 ∨ 22 < T.length := by
  by_cases hT : 22 < T.length
  · exact Or.inr hT
  left
  unfold ty1 at h
  match T, h with
  | [], h => simp only [List.length_nil] at *; grind
  | [x], h => simp only [List.length_cons, List.length_nil] at *; grind
  | x :: y :: r, h => simp only [List.length_cons] at *; grind
end LAW
