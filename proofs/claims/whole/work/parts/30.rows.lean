/-! ===== part 30: the people's rows in the class ===== -/
theorem ni_n0 {a : Nat} (ha : a < 2147483648) : (nI a < (0 : Int32)) = False := eq_false (nI_pos ha)
section ROWS
variable {E : am_E} {d : Nat} {h : am_H} {Q : Int32 → am_H → Prop} {g g1 g2 : Nat → Nat} {c : Nat → Nat → Nat} {t : Nat}
theorem c_canGain {p n : Nat} (hp : p < 8) (hn : n < 32) (hm : c 12 p < 2147483648) (hb : c 11 p < 2147483648) (h1 : c 12 p < 9 ∧ c 11 p >>> n &&& 1 = 0 → Q (nI 1) (NH c)) (h0 : ¬ (c 12 p < 9 ∧ c 11 p >>> n &&& 1 = 0) → Q (nI 0) (NH c)) : am_C tT E (d + 1) mX5_canGain [.inr 6, .inl (nI p), .inl (nI n)] (NH c) Q := by
  refine am_C.of (by decide) (Nat.le_of_ble_eq_true rfl) ?_
  show am_R tT E _ mX5_canGain _ 0 [some (.inr 6), some (.inl (nI p)), some (.inl (nI n))] [] (NH c)
  refine am_goS gX5_canGain [] 400 ?_
  simp only [am_eqs, am_eqk, am_eqv, lX5_canGain_0, fx_class, NH_at, NH_put, ↓reduceIte, List.mem_cons, List.not_mem_nil, or_false, or_self, false_or, true_and, and_true, Nat.reduceEqDiff, reduceCtorEq, List.length_cons, List.length_nil, Nat.reduceAdd, Nat.reduceLeDiff, Nat.reduceSub, Nat.reduceLT, Nat.zero_le, Nat.zero_add, forall_const, not_true_eq_false, not_false_eq_true, false_implies, true_implies, implies_true, Nat.zero_lt_succ, am_z0, am_z1]
  simp (disch := omega) only [hs_at, hs_put, hs_63, NH_at, NH_put, NH_cpy, ni_add, ni_mul, ni_clamp, ni_in, ni_eq, ni_lt, ni_le, ni_sub, Nat.reduceAdd, Nat.reduceMul, Nat.reduceSub, eq_self, true_implies, not_true_eq_false, false_implies, and_true, true_and, not_false_eq_true, Nat.reduceEqDiff, Nat.reduceLeDiff, Nat.reduceLT, implies_true, ite_true, ite_false]
  refine ⟨by omega, fun z => h0 (by omega), fun z => c_hasName hp hn hb (fun y => ?_) (fun y => ?_)⟩
  · simp (disch := omega) only [hs_at, hs_put, hs_63, NH_at, NH_put, NH_cpy, ni_add, ni_mul, ni_clamp, ni_in, ni_eq, ni_lt, ni_le, ni_sub, Nat.reduceAdd, Nat.reduceMul, Nat.reduceSub, eq_self, true_implies, not_true_eq_false, false_implies, and_true, true_and, not_false_eq_true, Nat.reduceEqDiff, Nat.reduceLeDiff, Nat.reduceLT, implies_true, ite_true, ite_false]
    exact h0 (by omega)
  · simp (disch := omega) only [hs_at, hs_put, hs_63, NH_at, NH_put, NH_cpy, ni_add, ni_mul, ni_clamp, ni_in, ni_eq, ni_lt, ni_le, ni_sub, Nat.reduceAdd, Nat.reduceMul, Nat.reduceSub, eq_self, true_implies, not_true_eq_false, false_implies, and_true, true_and, not_false_eq_true, Nat.reduceEqDiff, Nat.reduceLeDiff, Nat.reduceLT, implies_true, ite_true, ite_false]
    exact h1 ⟨by omega, y⟩
def iC (c : Nat → Nat → Nat) (p o n : Nat) : Nat → Nat → Nat := cup (cup (cup (ccp c 13 (9 * p + o) 13 (9 * p + o + 1) (c 12 p - o)) 13 (9 * p + o) n) 12 p (c 12 p + 1)) 11 p (c 11 p ||| 1 <<< n)
theorem c_insert {p o n : Nat} (hp : p < 8) (hn : n < 32) (hm : c 12 p < 9) (ho : o ≤ c 12 p) (hq : Q 0 (NH (iC c p o n))) : am_C tT E (d + 1) mX5_insert [.inr 6, .inl (nI p), .inl (nI o), .inl (nI n)] (NH c) Q := by
  refine am_C.of (by decide) (Nat.le_of_ble_eq_true rfl) ?_
  show am_R tT E _ mX5_insert _ 0 [some (.inr 6), some (.inl (nI p)), some (.inl (nI o)), some (.inl (nI n)), none, none] [] (NH c)
  refine am_goS gX5_insert [] 400 ?_
  simp only [am_eqs, am_eqk, am_eqv, lX5_insert_0, lX5_insert_1, lX5_insert_2, fx_class, NH_at, NH_put, ↓reduceIte, List.mem_cons, List.not_mem_nil, or_false, or_self, false_or, true_and, and_true, Nat.reduceEqDiff, reduceCtorEq, List.length_cons, List.length_nil, Nat.reduceAdd, Nat.reduceLeDiff, Nat.reduceSub, Nat.reduceLT, Nat.zero_le, Nat.zero_add, forall_const, not_true_eq_false, not_false_eq_true, false_implies, true_implies, implies_true, Nat.zero_lt_succ, am_z0, am_z1]
  rw [ni_clamp (show p < 2147483648 by omega)]
  simp (disch := omega) only [hs_at, hs_put, hs_63, NH_at, NH_put, NH_cpy, ni_add, ni_mul, ni_clamp, ni_in, ni_eq, ni_lt, ni_le, ni_sub, Nat.reduceAdd, Nat.reduceMul, Nat.reduceSub, eq_self, true_implies, not_true_eq_false, false_implies, and_true, true_and, not_false_eq_true, Nat.reduceEqDiff, Nat.reduceLeDiff, Nat.reduceLT, implies_true, ite_true, ite_false, nup_self, nup_ne, cup_self, cup_ne, ni_n0]
  rw [Nat.mul_comm p 9]
  refine ⟨by omega, fun z => absurd z (by omega), fun _ => ⟨fun _ => ⟨by omega, by omega, by omega, by omega, by omega, ?_⟩, fun z => absurd z (by omega)⟩⟩
  have e : (cup (cup (ccp c 13 (9 * p + o) 13 (9 * p + o + 1) (c 12 p - o)) 13 (9 * p + o) n) 12 p (c 12 p + 1)) 11 = c 11 := by
    funext j
    grind [cup_app, ccp_app]
  simp only [e, ni_shl hn, ni_or, NH_put]
  exact ⟨by omega, hq⟩
theorem c_append {p n : Nat} (hp : p < 8) (hn : n < 32) (hm : c 12 p < 9) (hq : Q 0 (NH (iC c p (c 12 p) n))) : am_C tT E (d + 2) mX5_append [.inr 6, .inl (nI p), .inl (nI n)] (NH c) Q := by
  refine am_C.of (by decide) (Nat.le_of_ble_eq_true rfl) ?_
  show am_R tT E _ mX5_append _ 0 [some (.inr 6), some (.inl (nI p)), some (.inl (nI n))] [] (NH c)
  refine am_goS gX5_append [] 400 ?_
  simp only [am_eqs, am_eqk, am_eqv, lX5_append_0, fx_class, NH_at, NH_put, ↓reduceIte, List.mem_cons, List.not_mem_nil, or_false, or_self, false_or, true_and, and_true, Nat.reduceEqDiff, reduceCtorEq, List.length_cons, List.length_nil, Nat.reduceAdd, Nat.reduceLeDiff, Nat.reduceSub, Nat.reduceLT, Nat.zero_le, Nat.zero_add, forall_const, not_true_eq_false, not_false_eq_true, false_implies, true_implies, implies_true, Nat.zero_lt_succ, am_z0, am_z1]
  simp (disch := omega) only [hs_at, hs_put, hs_63, NH_at, NH_put, NH_cpy, ni_add, ni_mul, ni_clamp, ni_in, ni_eq, ni_lt, ni_le, ni_sub, Nat.reduceAdd, Nat.reduceMul, Nat.reduceSub, eq_self, true_implies, not_true_eq_false, false_implies, and_true, true_and, not_false_eq_true, Nat.reduceEqDiff, Nat.reduceLeDiff, Nat.reduceLT, implies_true, ite_true, ite_false]
  exact ⟨by omega, c_insert hp hn hm (Nat.le_refl _) hq⟩
def rC (c : Nat → Nat → Nat) (p o : Nat) : Nat → Nat → Nat := cup (ccp (cup c 11 p (c 11 p &&& (1 <<< c 13 (9 * p + o) ^^^ 4294967295))) 13 (9 * p + o + 1) 13 (9 * p + o) (c 12 p - o - 1)) 12 p (c 12 p - 1)
theorem c_remove {p o : Nat} (hp : p < 8) (hm : c 12 p ≤ 9) (ho : o < c 12 p) (hn : c 13 (9 * p + o) < 32) (hq : Q 0 (NH (rC c p o))) : am_C tT E (d + 1) mX5_remove [.inr 6, .inl (nI p), .inl (nI o)] (NH c) Q := by
  refine am_C.of (by decide) (Nat.le_of_ble_eq_true rfl) ?_
  show am_R tT E _ mX5_remove _ 0 [some (.inr 6), some (.inl (nI p)), some (.inl (nI o)), none, none] [] (NH c)
  refine am_goS gX5_remove [] 400 ?_
  simp only [am_eqs, am_eqk, am_eqv, lX5_remove_0, lX5_remove_1, lX5_remove_2, fx_class, NH_at, NH_put, ↓reduceIte, List.mem_cons, List.not_mem_nil, or_false, or_self, false_or, true_and, and_true, Nat.reduceEqDiff, reduceCtorEq, List.length_cons, List.length_nil, Nat.reduceAdd, Nat.reduceLeDiff, Nat.reduceSub, Nat.reduceLT, Nat.zero_le, Nat.zero_add, forall_const, not_true_eq_false, not_false_eq_true, false_implies, true_implies, implies_true, Nat.zero_lt_succ, am_z0, am_z1]
  rw [ni_clamp (show p < 2147483648 by omega)]
  simp (disch := omega) only [hs_at, hs_put, hs_63, NH_at, NH_put, NH_cpy, ni_add, ni_mul, ni_clamp, ni_in, ni_eq, ni_lt, ni_le, ni_sub, Nat.reduceAdd, Nat.reduceMul, Nat.reduceSub, eq_self, true_implies, not_true_eq_false, false_implies, and_true, true_and, not_false_eq_true, Nat.reduceEqDiff, Nat.reduceLeDiff, Nat.reduceLT, implies_true, ite_true, ite_false, nup_self, nup_ne, cup_self, cup_ne, ni_n0]
  rw [Nat.mul_comm p 9]
  refine ⟨by omega, fun z => absurd z (by omega), fun _ => ⟨fun _ => ⟨by omega, by omega, ?_⟩, fun z => absurd z (by omega)⟩⟩
  simp only [ni_shl hn, ni_m1, ni_xor, ni_and, NH_put, NH_cpy]
  exact ⟨by omega, by omega, by omega, by omega, hq⟩
/-- what of the people's rows stays -/
def sameP (g1 g2 : Nat → Nat) (q : Nat) : Prop := og g2 q 0 = og g1 q 0 ∧ og g2 q 1 = og g1 q 1 ∧ og g2 q 2 = og g1 q 2 ∧ og g2 q 3 = og g1 q 3 ∧ ∀ i, i < og g1 q 2 → og g2 q (5 + i) = og g1 q (5 + i)
theorem had_ext {s p : Nat} (h : ∀ m, s.testBit m = true ↔ hasN g2 p m) : s = had g2 p := by
  apply Nat.eq_of_testBit_eq
  intro m
  have h1 := h m
  have h2 := hadK_bit g2 p m (og g2 p 2)
  unfold hasN at h1
  rw [← h2] at h1
  unfold had
  cases ha : s.testBit m <;> cases hb : (hadK g2 p (og g2 p 2)).testBit m <;> simp_all
theorem had_tb (g : Nat → Nat) (p m : Nat) : (had g p).testBit m = true ↔ hasN g p m := hadK_bit g p m (og g p 2)
/-- an insertion in the class is one in the reference's rows -/
theorem rp_ins {p o n : Nat} (hp : p < 8) (hm9 : ∀ q, q < 8 → og g1 q 2 ≤ 9) (hm : og g1 p 2 < 9) (ho : o ≤ og g1 p 2) (hR : RP g1 c) (h1 : g2 1 = g1 1) (hoth : ∀ q, q < 8 → q ≠ p → sameP g1 g2 q)
    (h0 : og g2 p 0 = og g1 p 0 ∧ og g2 p 1 = og g1 p 1 ∧ og g2 p 2 = og g1 p 2 + 1 ∧ og g2 p 3 = og g1 p 3) (hlo : ∀ i, i < o → og g2 p (5 + i) = og g1 p (5 + i)) (hat : og g2 p (5 + o) = n) (hhi : ∀ i, o ≤ i → i < og g1 p 2 → og g2 p (5 + (i + 1)) = og g1 p (5 + i)) : RP g2 (iC c p o n) := by
  obtain ⟨e1, hR⟩ := hR
  obtain ⟨q0, q1, q3, q6, q2, q5⟩ := hR p hp
  refine ⟨?_, fun q hq => ?_⟩
  · rw [h1]
    unfold iC
    grind [cup_app, ccp_app]
  · by_cases hqp : q = p
    · subst hqp
      obtain ⟨k0, k1, k2, k3⟩ := h0
      rw [k0, k1, k2, k3]
      refine ⟨by unfold iC; grind [cup_app, ccp_app], by unfold iC; grind [cup_app, ccp_app], by unfold iC; grind [cup_app, ccp_app], ?_, by unfold iC; grind [cup_app, ccp_app], fun i hi => ?_⟩
      · have e : iC c q o n 11 q = had g1 q ||| 1 <<< n := by
          unfold iC
          rw [cup_app, if_pos rfl, if_pos rfl, q6]
        rw [e]
        apply had_ext
        intro m
        rw [Nat.testBit_or, Bool.or_eq_true, had_tb, Nat.one_shiftLeft, Nat.testBit_two_pow, decide_eq_true_eq]
        unfold hasN
        rw [k2]
        constructor
        · rintro (⟨i, hi, hn⟩ | hn)
          · by_cases hio : i < o
            · exact ⟨i, by omega, by rw [hlo i hio]; exact hn⟩
            · exact ⟨i + 1, by omega, by rw [hhi i (by omega) hi]; exact hn⟩
          · exact ⟨o, by omega, by rw [hat]; exact hn⟩
        · rintro ⟨i, hi, hn⟩
          by_cases hio : i < o
          · exact Or.inl ⟨i, by omega, by rw [← hlo i hio]; exact hn⟩
          · by_cases hie : i = o
            · right; rw [hie, hat] at hn; exact hn
            · refine Or.inl ⟨i - 1, by omega, ?_⟩
              rw [← hhi (i - 1) (by omega) (by omega), show i - 1 + 1 = i by omega]
              exact hn
      · have e : iC c q o n 13 (9 * q + i) = if i = o then n else if o < i then c 13 (9 * q + (i - 1)) else c 13 (9 * q + i) := by
          unfold iC
          rw [cup_app, if_neg (by decide), cup_app, if_neg (by decide), cup_app, if_pos rfl, ccp_app, if_pos rfl, q2]
          by_cases hio : i = o
          · rw [if_pos (by omega), if_pos hio]
          · rw [if_neg (by omega), if_neg hio]
            by_cases hlt : o < i
            · rw [if_pos (by omega), if_pos hlt]
              congr 1
              omega
            · rw [if_neg (by omega), if_neg hlt]
        rw [e]
        by_cases hio : i = o
        · rw [if_pos hio, hio, hat]
        · rw [if_neg hio]
          by_cases hlt : o < i
          · rw [if_pos hlt, q5 (i - 1) (by omega), ← hhi (i - 1) (by omega) (by omega), show i - 1 + 1 = i by omega]
          · rw [if_neg hlt, q5 i (by omega), hlo i (by omega)]
    · obtain ⟨s0, s1, s2, s3, s5⟩ := hoth q hq hqp
      obtain ⟨r0, r1, r3, r6, r2, r5⟩ := hR q hq
      have hh : had g2 q = had g1 q := had_congr s2 s5
      rw [s0, s1, s2, s3, hh]
      refine ⟨by unfold iC; grind [cup_app, ccp_app], by unfold iC; grind [cup_app, ccp_app], by unfold iC; grind [cup_app, ccp_app], by unfold iC; grind [cup_app, ccp_app], by unfold iC; grind [cup_app, ccp_app], fun i hi => ?_⟩
      rw [s5 i hi, ← r5 i hi]
      have hi9 := hm9 q hq
      have hd : 9 * q + i < 9 * p ∨ 9 * p + 9 ≤ 9 * q + i := by omega
      unfold iC
      rw [cup_app, if_neg (by decide), cup_app, if_neg (by decide), cup_app, if_pos rfl, if_neg (by omega), ccp_app, if_pos rfl, if_neg (by omega)]
/-- a removal in the class is one in the reference's rows -/
theorem rp_rem {p o n : Nat} (hp : p < 8) (hm9 : ∀ q, q < 8 → og g1 q 2 ≤ 9) (ho : o < og g1 p 2) (hR : RP g1 c) (h1 : g2 1 = g1 1) (hoth : ∀ q, q < 8 → q ≠ p → sameP g1 g2 q) (hn20 : og g1 p (5 + o) = n) (hn32 : n < 32) (hr32 : ∀ i, i < og g1 p 2 → og g1 p (5 + i) < 32)
    (hdis : ∀ i, i < og g1 p 2 → i ≠ o → og g1 p (5 + i) ≠ n) (h0 : og g2 p 0 = og g1 p 0 ∧ og g2 p 1 = og g1 p 1 ∧ og g2 p 2 = og g1 p 2 - 1 ∧ og g2 p 3 = og g1 p 3) (hlo : ∀ i, i < o → og g2 p (5 + i) = og g1 p (5 + i)) (hhi : ∀ i, o ≤ i → i + 1 < og g1 p 2 → og g2 p (5 + i) = og g1 p (5 + (i + 1))) : RP g2 (rC c p o) := by
  obtain ⟨e1, hR⟩ := hR
  obtain ⟨q0, q1, q3, q6, q2, q5⟩ := hR p hp
  have qn : c 13 (9 * p + o) = n := by rw [q5 o ho, hn20]
  refine ⟨?_, fun q hq => ?_⟩
  · rw [h1]
    unfold rC
    grind [cup_app, ccp_app]
  · by_cases hqp : q = p
    · subst hqp
      obtain ⟨k0, k1, k2, k3⟩ := h0
      rw [k0, k1, k2, k3]
      refine ⟨by unfold rC; grind [cup_app, ccp_app], by unfold rC; grind [cup_app, ccp_app], by unfold rC; grind [cup_app, ccp_app], ?_, by unfold rC; grind [cup_app, ccp_app], fun i hi => ?_⟩
      · have e : rC c q o 11 q = had g1 q &&& (1 <<< n ^^^ 4294967295) := by
          unfold rC
          rw [cup_app, if_neg (by decide), ccp_app, if_neg (by decide), cup_app, if_pos rfl, if_pos rfl, q6, qn]
        rw [e]
        apply had_ext
        intro m
        rw [Nat.testBit_and, Nat.testBit_xor, Bool.and_eq_true, had_tb, Nat.one_shiftLeft, Nat.testBit_two_pow, show 4294967295 = 2 ^ 32 - 1 from rfl, Nat.testBit_two_pow_sub_one]
        unfold hasN
        rw [k2]
        constructor
        · rintro ⟨⟨i, hi, hni⟩, hx⟩
          have hmn : m ≠ n := by
            intro hmn
            subst hmn
            simp [hn32] at hx
          by_cases hio : i < o
          · exact ⟨i, by omega, by rw [hlo i hio]; exact hni⟩
          · have hie : i ≠ o := fun z => hmn (by rw [← hni, z, hn20])
            refine ⟨i - 1, by omega, ?_⟩
            rw [hhi (i - 1) (by omega) (by omega), show i - 1 + 1 = i by omega]
            exact hni
        · rintro ⟨i, hi, hni⟩
          by_cases hio : i < o
          · have hx := hdis i (by omega) (by omega)
            rw [hlo i hio] at hni
            rw [hni] at hx
            refine ⟨⟨i, by omega, hni⟩, ?_⟩
            have hm32 : m < 32 := by have := hr32 i (by omega); omega
            simp [hm32, Ne.symm hx]
          · have hx := hdis (i + 1) (by omega) (by omega)
            rw [hhi i (by omega) (by omega)] at hni
            rw [hni] at hx
            refine ⟨⟨i + 1, by omega, hni⟩, ?_⟩
            have hm32 : m < 32 := by have := hr32 (i + 1) (by omega); omega
            simp [hm32, Ne.symm hx]
      · have e : rC c q o 13 (9 * q + i) = if o ≤ i then c 13 (9 * q + (i + 1)) else c 13 (9 * q + i) := by
          unfold rC
          rw [cup_app, if_neg (by decide), ccp_app, if_pos rfl, q2]
          by_cases hlt : o ≤ i
          · rw [if_pos (by omega), if_pos hlt, cup_app, if_neg (by decide)]
            congr 1
            omega
          · rw [if_neg (by omega), if_neg hlt, cup_app, if_neg (by decide)]
        rw [e]
        by_cases hlt : o ≤ i
        · rw [if_pos hlt, q5 (i + 1) (by omega), hhi i hlt (by omega)]
        · rw [if_neg hlt, q5 i (by omega), hlo i (by omega)]
    · obtain ⟨s0, s1, s2, s3, s5⟩ := hoth q hq hqp
      obtain ⟨r0, r1, r3, r6, r2, r5⟩ := hR q hq
      have hh : had g2 q = had g1 q := had_congr s2 s5
      rw [s0, s1, s2, s3, hh]
      refine ⟨by unfold rC; grind [cup_app, ccp_app], by unfold rC; grind [cup_app, ccp_app], by unfold rC; grind [cup_app, ccp_app], by unfold rC; grind [cup_app, ccp_app], by unfold rC; grind [cup_app, ccp_app], fun i hi => ?_⟩
      rw [s5 i hi, ← r5 i hi]
      have hi9 := hm9 q hq
      have hp9 := hm9 p hp
      have hd : 9 * q + i < 9 * p ∨ 9 * p + 9 ≤ 9 * q + i := by omega
      unfold rC
      rw [cup_app, if_neg (by decide), ccp_app, if_pos rfl, if_neg (by omega), cup_app, if_neg (by decide)]
end ROWS
