/-! ===== part 35: day ===== -/
theorem ni_mod (a : Nat) : nI (a % 4294967296) = nI a := by
  apply ni_ext
  rw [ni_bv, ni_bv]
  apply BitVec.eq_of_toNat_eq
  simp only [BitVec.toNat_ofNat]
  omega
def lcg (s : Nat) : Nat := (1664525 * s + 1013904223) % 4294967296
def drV (s m : Nat) : Nat := (lcg s >>> 8) % m
theorem lcg_lt (s : Nat) : lcg s < 4294967296 := Nat.mod_lt _ (by decide)
theorem lcg_sh (s : Nat) : lcg s >>> 8 < 16777216 := by
  rw [Nat.shiftRight_eq_div_pow]
  have := lcg_lt s
  omega
def nthF (s i : Nat) : Nat → Nat
  | 0 => 0
  | k + 1 => if s >>> k &&& 1 = 1 ∧ cntK s k = i then k else nthF s i k
theorem nthF_spec (s i : Nat) : ∀ k, i < cntK s k → nthF s i k < k ∧ s >>> nthF s i k &&& 1 = 1 ∧ cntK s (nthF s i k) = i := by
  intro k
  induction k with
  | zero => intro h; exact absurd h (Nat.not_lt_zero _)
  | succ k ih =>
    intro h
    simp only [nthF]
    by_cases hc : s >>> k &&& 1 = 1 ∧ cntK s k = i
    · rw [if_pos hc]
      exact ⟨by omega, hc⟩
    · rw [if_neg hc]
      have h1 : cntK s (k + 1) = cntK s k + (s >>> k &&& 1) := rfl
      have h2 := bit01 s k
      have h3 : i < cntK s k := by
        rcases h2 with e | e
        · omega
        · have : ¬ cntK s k = i := fun q => hc ⟨e, q⟩
          omega
      obtain ⟨a, b, c⟩ := ih h3
      exact ⟨by omega, b, c⟩
def lkG (g : Nat → Nat) (p : Nat) : Nat := og g p 3 &&& (had g p ^^^ 4294967295)
def dyP (g : Nat → Nat) (p : Nat) : (Nat → Nat) × Nat :=
  if g 6 = 0 ∨ lkG g p = 0 ∨ og g p 2 = 9 then (g, 0)
  else if g 6 ≤ drV (g 5) 1000 then (nup g 5 (lcg (g 5)), 0)
  else (comG (nup g 5 (lcg (lcg (g 5)))) p (nthF (lkG g p) (drV (lcg (g 5)) (cntK (lkG g p) 20)) 20), 1)
def dyK (g : Nat → Nat) : Nat → (Nat → Nat) × Nat
  | 0 => (g, 0)
  | p + 1 => ((dyP (dyK g p).1 p).1, (dyK g p).2 + (dyP (dyK g p).1 p).2)
theorem lk_ne {g : Nat → Nat} {p m : Nat} (h3 : og g p 3 < 1048576) (hl : lkG g p >>> m &&& 1 = 1) : (og g p 3).testBit m = true ∧ ¬ hasN g p m := by
  rw [shr1] at hl
  have hb : (lkG g p).testBit m = true := by
    cases h : (lkG g p).testBit m with
    | true => rfl
    | false => rw [h] at hl; simp at hl
  unfold lkG at hb
  rw [Nat.testBit_and, Nat.testBit_xor, Bool.and_eq_true] at hb
  refine ⟨hb.1, fun q => ?_⟩
  rw [← had_tb] at q
  rw [q, show 4294967295 = 2 ^ 32 - 1 from rfl, Nat.testBit_two_pow_sub_one] at hb
  have h2 := hb.2
  by_cases h32 : m < 32
  · simp [h32] at h2
  · have : (og g p 3).testBit m = false := Nat.testBit_lt_two_pow (Nat.lt_of_lt_of_le h3 (Nat.pow_le_pow_right (n := 2) (by decide) (show 20 ≤ m by omega)))
    rw [this] at hb; cases hb.1
theorem lk_cnt {s : Nat} (h0 : ¬ s = 0) (hs : s < 1048576) : 0 < cntK s 20 := by
  obtain ⟨m, hm⟩ := Nat.exists_testBit_of_ne_zero h0
  have hm20 : m < 20 := by
    by_cases h : m < 20
    · exact h
    · exfalso
      have : s.testBit m = false := Nat.testBit_lt_two_pow (Nat.lt_of_lt_of_le hs (Nat.pow_le_pow_right (n := 2) (by decide) (show 20 ≤ m by omega)))
      rw [this] at hm; cases hm
  have h1 : cntK s (m + 1) = cntK s m + (s >>> m &&& 1) := rfl
  have h2 : s >>> m &&& 1 = 1 := by rw [shr1, if_pos hm]
  have h3 := cntK_mono s (m + 1) 20 (by omega)
  omega
section DAY
variable {E : am_E} {d : Nat} {h : am_H} {Q : Int32 → am_H → Prop} {g : Nat → Nat} {c : Nat → Nat → Nat} {t : Nat}
theorem ni_rem {a m : Nat} (ha : a < 2147483648) (hm : m < 2147483648) : nI a - nI a / nI m * nI m = nI (a % m) := by
  rw [ni_div ha hm, ni_mul, ni_sub (Nat.div_mul_le_self a m)]
  congr 1
  have := Nat.div_add_mod a m
  rw [Nat.mul_comm] at this
  omega
theorem r_draw {m : Nat} (hm : 0 < m) (hm2 : m < 2147483648) (hq : Q (nI (drV (g 5) m)) (hs h (nup g 5 (lcg (g 5))))) : am_C tT E d mX12_draw [.inr 63, .inl (nI m)] (hs h g) Q := by
  have h1 := lcg_sh (g 5)
  have h2 := lcg_lt (g 5)
  refine am_C.of (by decide) (Nat.le_of_ble_eq_true rfl) ?_
  show am_R tT E _ mX12_draw _ 0 [some (.inr 63), some (.inl (nI m))] [] (hs h g)
  refine am_goS gX12_draw [] 400 ?_
  simp only [am_eqs, am_eqk, am_eqv, lX12_draw_0, fx_ref, ↓reduceIte, List.mem_cons, List.not_mem_nil, or_false, or_self, false_or, true_and, and_true, Nat.reduceEqDiff, reduceCtorEq, List.length_cons, List.length_nil, Nat.reduceAdd, Nat.reduceLeDiff, Nat.reduceSub, Nat.reduceLT, Nat.zero_le, Nat.zero_add, forall_const, not_true_eq_false, not_false_eq_true, false_implies, true_implies, implies_true, Nat.zero_lt_succ, am_z0, am_z1]
  simp (disch := omega) only [hs_at, hs_put, hs_63, NH_at, NH_put, NH_cpy, ni_add, ni_mul, ni_clamp, ni_in, ni_eq, ni_lt, ni_le, ni_sub, Nat.reduceAdd, Nat.reduceMul, Nat.reduceSub, eq_self, true_implies, not_true_eq_false, false_implies, and_true, true_and, not_false_eq_true, Nat.reduceEqDiff, Nat.reduceLeDiff, Nat.reduceLT, implies_true, ite_true, ite_false, nup_self, nup_ne, cup_self, cup_ne]
  have e1 : nI (1664525 * g 5 + 1013904223) = nI (lcg (g 5)) := (ni_mod _).symm
  have e2 : hs h (nup g 5 (1664525 * g 5 + 1013904223)) = hs h (nup g 5 (lcg (g 5))) := by rw [← hs_put, e1, hs_put]
  rw [e1, e2, ni_ushr h2 (by omega), ni_rem (by omega) hm2]
  refine ⟨?_, hq⟩
  show ¬ nI m = nI 0
  rw [ni_eq (by omega) (by omega)]
  omega
/-- what a day's draw for p needs -/
theorem dy_facts {p : Nat} (hp : p < g 1) (hW : WF g t) (hn : ¬ (g 6 = 0 ∨ lkG g p = 0 ∨ og g p 2 = 9)) : lkG g p < 1048576 ∧ 0 < cntK (lkG g p) 20 ∧ nthF (lkG g p) (drV (lcg (g 5)) (cntK (lkG g p) 20)) 20 < g 0 ∧ ¬ hasN g p (nthF (lkG g p) (drV (lcg (g 5)) (cntK (lkG g p) 20)) 20) ∧ lkG g p >>> nthF (lkG g p) (drV (lcg (g 5)) (cntK (lkG g p) 20)) 20 &&& 1 = 1 ∧ cntK (lkG g p) (nthF (lkG g p) (drV (lcg (g 5)) (cntK (lkG g p) 20)) 20) = drV (lcg (g 5)) (cntK (lkG g p) 20) := by
  have w0 := hW.1.1
  have w1 := hW.1.2.1
  have hpe := hW.p (show p < 8 by omega)
  have hp20 := pow_20 w0
  have h3 := hpe.2.2.2.1
  have hand := Nat.and_le_left (n := og g p 3) (m := had g p ^^^ 4294967295)
  have hl : lkG g p < 1048576 := by unfold lkG; omega
  have hc := lk_cnt (fun q => hn (Or.inr (Or.inl q))) hl
  have hm : drV (lcg (g 5)) (cntK (lkG g p) 20) < cntK (lkG g p) 20 := Nat.mod_lt _ hc
  obtain ⟨n1, n2, n3⟩ := nthF_spec (lkG g p) _ 20 hm
  obtain ⟨l1, l2⟩ := lk_ne (by omega) n2
  refine ⟨hl, hc, ?_, l2, n2, n3⟩
  by_cases h : nthF (lkG g p) (drV (lcg (g 5)) (cntK (lkG g p) 20)) 20 < g 0
  · exact h
  · exfalso
    have : (og g p 3).testBit (nthF (lkG g p) (drV (lcg (g 5)) (cntK (lkG g p) 20)) 20) = false := Nat.testBit_lt_two_pow (Nat.lt_of_lt_of_le h3 (Nat.pow_le_pow_right (n := 2) (by decide) (by omega)))
    rw [this] at l1; cases l1
theorem og_n5 {k p f : Nat} : og (nup g 5 k) p f = og g p f := nup_ne g _ (by omega)
theorem wf_dyP {p : Nat} (hp : p < g 1) (hW : WF g t) : WF (dyP g p).1 t ∧ (dyP g p).1 1 = g 1 ∧ (dyP g p).1 6 = g 6 ∧ (dyP g p).1 0 = g 0 ∧ (dyP g p).1 3 = g 3 := by
  have w1 := hW.1.2.1
  have hpe := hW.p (show p < 8 by omega)
  have hm := hpe.2.2.1
  unfold dyP
  by_cases h1 : g 6 = 0 ∨ lkG g p = 0 ∨ og g p 2 = 9
  · rw [if_pos h1]; exact ⟨hW, rfl, rfl, rfl, rfl⟩
  · rw [if_neg h1]
    by_cases h2 : g 6 ≤ drV (g 5) 1000
    · rw [if_pos h2]
      dsimp only
      exact ⟨wf_small (Or.inl ⟨rfl, lcg_lt _⟩) hW, nup_ne g _ (by omega), nup_ne g _ (by omega), nup_ne g _ (by omega), nup_ne g _ (by omega)⟩
    · rw [if_neg h2]
      dsimp only
      obtain ⟨k1, k2, k3, k4, k5, k6⟩ := dy_facts hp hW h1
      have hW1 : WF (nup g 5 (lcg (lcg (g 5)))) t := wf_small (Or.inl ⟨rfl, lcg_lt _⟩) hW
      have hm5 : og (nup g 5 (lcg (lcg (g 5)))) p 2 ≤ 9 := by rw [og_n5]; exact hm
      refine ⟨wf_com ?_ ?_ ?_ ?_ hW1, ?_, ?_, ?_, ?_⟩
      · rw [nup_ne g _ (by omega)]; exact hp
      · rw [nup_ne g _ (by omega)]; exact k3
      · rw [og_n5]; omega
      · rintro ⟨i, hi, e⟩
        rw [og_n5] at hi e
        exact k4 ⟨i, hi, e⟩
      · rw [com_off hm5 (by omega) (by omega), nup_ne g _ (by omega)]
      · rw [com_off hm5 (by omega) (by omega), nup_ne g _ (by omega)]
      · rw [com_off hm5 (by omega) (by omega), nup_ne g _ (by omega)]
      · rw [com_off hm5 (by omega) (by omega), nup_ne g _ (by omega)]
theorem wf_dyK (hW : WF g t) : ∀ p, p ≤ g 1 → WF (dyK g p).1 t ∧ (dyK g p).1 1 = g 1 ∧ (dyK g p).1 6 = g 6 ∧ (dyK g p).1 0 = g 0 ∧ (dyK g p).1 3 = g 3 := by
  intro p
  induction p with
  | zero => intro _; exact ⟨hW, rfl, rfl, rfl, rfl⟩
  | succ p ih =>
    intro hp
    obtain ⟨a, b, c, e, f⟩ := ih (by omega)
    obtain ⟨a', b', c', e', f'⟩ := wf_dyP (p := p) (by rw [b]; omega) a
    exact ⟨a', b'.trans b, c'.trans c, e'.trans e, f'.trans f⟩
theorem dyK_le (hW : WF g t) : ∀ p, (dyK g p).2 ≤ p := by
  intro p
  induction p with
  | zero => exact Nat.le_refl _
  | succ p ih =>
    have : (dyP (dyK g p).1 p).2 ≤ 1 := by
      unfold dyP
      split
      · exact Nat.zero_le _
      · split <;> simp
    simp only [dyK]
    omega
theorem wf_day3 (h3 : g 3 < 9999) (hW : WF g t) : WF (nup g 3 (g 3 + 1)) t := wf_small (Or.inr (Or.inr (Or.inr ⟨rfl, by omega⟩))) hW
theorem ri_day (hW : WF g t) (h1 : g 3 < 9999 → Q (nI (dyK (nup g 3 (g 3 + 1)) (g 1)).2) (hs (am_upd h 63 4 (nI 0)) (dyK (nup g 3 (g 3 + 1)) (g 1)).1)) (h0 : g 3 = 9999 → Q (-1) (hs h g)) : am_C tT E (d + 2) mX12_day [.inr 63] (hs h g) Q := by
  have w1 := hW.1.2.1
  have w3 := hW.1.2.2.2.1
  refine am_C.of (by decide) (Nat.le_of_ble_eq_true rfl) ?_
  show am_R tT E _ mX12_day _ 0 [some (.inr 63), none, none, none] [] (hs h g)
  refine am_goS gX12_day [28] 400 ?_
  simp only [am_eqs, am_eqk, am_eqv, lX12_day_0, lX12_day_1, lX12_day_2, lX12_day_3, fx_ref, ↓reduceIte, List.mem_cons, List.not_mem_nil, or_false, or_self, false_or, true_and, and_true, Nat.reduceEqDiff, reduceCtorEq, List.length_cons, List.length_nil, Nat.reduceAdd, Nat.reduceLeDiff, Nat.reduceSub, Nat.reduceLT, Nat.zero_le, Nat.zero_add, forall_const, not_true_eq_false, not_false_eq_true, false_implies, true_implies, implies_true, Nat.zero_lt_succ, am_z0, am_z1]
  simp (disch := omega) only [hs_at, hs_put, hs_63, NH_at, NH_put, NH_cpy, ni_add, ni_mul, ni_clamp, ni_in, ni_eq, ni_lt, ni_le, ni_sub, Nat.reduceAdd, Nat.reduceMul, Nat.reduceSub, eq_self, true_implies, not_true_eq_false, false_implies, and_true, true_and, not_false_eq_true, Nat.reduceEqDiff, Nat.reduceLeDiff, Nat.reduceLT, implies_true, ite_true, ite_false]
  refine ⟨fun e => h0 e, fun e => ?_⟩
  have h1 := h1 (by omega)
  have hW0 := wf_day3 (by omega) hW
  have e1 : nup g 3 (g 3 + 1) 1 = g 1 := nup_ne g _ (by omega)
  have w6 := hW.1.2.2.2.2.2.2.1
  have e6 : nup g 3 (g 3 + 1) 6 = g 6 := nup_ne g _ (by omega)
  generalize nup g 3 (g 3 + 1) = g0 at *
  have loop : ∀ k p v, p + k = g 1 → am_R tT E (d + 2) mX12_day Q 28 [some (.inr 63), some (.inl (nI (dyK g0 p).2)), some (.inl (nI p)), v] [] (hs h (dyK g0 p).1) := by
    intro k
    induction k with
    | zero =>
      intro p v hp
      have e : p = g 1 := by omega
      subst e
      obtain ⟨b0, b1, b6, -, -⟩ := wf_dyK hW0 (g 1) (by omega)
      refine am_goS gX12_day [28] 400 ?_
      simp only [am_eqs, am_eqk, am_eqv, lX12_day_0, lX12_day_1, lX12_day_2, lX12_day_3, fx_ref, ↓reduceIte, List.mem_cons, List.not_mem_nil, or_false, or_self, false_or, true_and, and_true, Nat.reduceEqDiff, reduceCtorEq, List.length_cons, List.length_nil, Nat.reduceAdd, Nat.reduceLeDiff, Nat.reduceSub, Nat.reduceLT, Nat.zero_le, Nat.zero_add, forall_const, not_true_eq_false, not_false_eq_true, false_implies, true_implies, implies_true, Nat.zero_lt_succ, am_z0, am_z1]
      simp (disch := omega) only [hs_at, hs_put, hs_63, NH_at, NH_put, NH_cpy, ni_add, ni_mul, ni_clamp, ni_in, ni_eq, ni_lt, ni_le, ni_sub, Nat.reduceAdd, Nat.reduceMul, Nat.reduceSub, eq_self, true_implies, not_true_eq_false, false_implies, and_true, true_and, not_false_eq_true, Nat.reduceEqDiff, Nat.reduceLeDiff, Nat.reduceLT, implies_true, ite_true, ite_false, b1, e1]
      refine ⟨fun _ => r_forgets h1, fun c => absurd c (by omega)⟩
    | succ k ih =>
      intro p v hp
      obtain ⟨b0, b1, b6, b00, -⟩ := wf_dyK hW0 p (by omega)
      have hle := dyK_le hW0 p
      have hnx := fun v => ih (p + 1) v (by omega)
      simp only [dyK] at hnx
      generalize (dyK g0 p).2 = n0 at *
      generalize (dyK g0 p).1 = g1 at *
      have hpe := b0.p (show p < 8 by omega)
      have hm := hpe.2.2.1
      have hp20 := pow_20 b0.1.1
      have h3 := hpe.2.2.2.1
      have hand := Nat.and_le_left (n := og g1 p 3) (m := had g1 p ^^^ 4294967295)
      refine am_goS gX12_day [28] 400 ?_
      simp only [am_eqs, am_eqk, am_eqv, lX12_day_0, lX12_day_1, lX12_day_2, lX12_day_3, fx_ref, ↓reduceIte, List.mem_cons, List.not_mem_nil, or_false, or_self, false_or, true_and, and_true, Nat.reduceEqDiff, reduceCtorEq, List.length_cons, List.length_nil, Nat.reduceAdd, Nat.reduceLeDiff, Nat.reduceSub, Nat.reduceLT, Nat.zero_le, Nat.zero_add, forall_const, not_true_eq_false, not_false_eq_true, false_implies, true_implies, implies_true, Nat.zero_lt_succ, am_z0, am_z1]
      simp (disch := omega) only [hs_at, hs_put, hs_63, NH_at, NH_put, NH_cpy, ni_add, ni_mul, ni_clamp, ni_in, ni_eq, ni_lt, ni_le, ni_sub, Nat.reduceAdd, Nat.reduceMul, Nat.reduceSub, eq_self, true_implies, not_true_eq_false, false_implies, and_true, true_and, not_false_eq_true, Nat.reduceEqDiff, Nat.reduceLeDiff, Nat.reduceLT, implies_true, ite_true, ite_false, b1, e1]
      refine ⟨fun c => absurd c (by omega), fun _ => ?_⟩
      refine r_own (by omega) (by omega) ?_
      refine r_had (by omega) hm (hpe.r20 b0.1.1) ?_
      have hnot : (g1 6 = 0 ∨ lkG g1 p = 0 ∨ og g1 p 2 = 9) → ∀ v, am_R tT E (d + 2) mX12_day Q 28 [some (.inr 63), some (.inl (nI n0)), some (.inl (nI (p + 1))), v] [] (hs h g1) := by
        intro hh v
        have := hnx v
        rw [dyP, if_pos hh] at this
        exact this
      simp (disch := omega) only [hs_at, hs_put, hs_63, NH_at, NH_put, NH_cpy, ni_add, ni_mul, ni_clamp, ni_in, ni_eq, ni_lt, ni_le, ni_sub, Nat.reduceAdd, Nat.reduceMul, Nat.reduceSub, eq_self, true_implies, not_true_eq_false, false_implies, and_true, true_and, not_false_eq_true, Nat.reduceEqDiff, Nat.reduceLeDiff, Nat.reduceLT, implies_true, ite_true, ite_false, ni_m1, ni_xor, ni_and, b6, e6]
      refine ⟨fun e6' => hnot (Or.inl (by omega)) _, fun n6 => ⟨fun el => hnot (Or.inr (Or.inl el)) _, fun nl => ?_⟩⟩
      refine r_own (by omega) (by omega) ?_
      simp (disch := omega) only [hs_at, hs_put, hs_63, NH_at, NH_put, NH_cpy, ni_add, ni_mul, ni_clamp, ni_in, ni_eq, ni_lt, ni_le, ni_sub, Nat.reduceAdd, Nat.reduceMul, Nat.reduceSub, eq_self, true_implies, not_true_eq_false, false_implies, and_true, true_and, not_false_eq_true, Nat.reduceEqDiff, Nat.reduceLeDiff, Nat.reduceLT, implies_true, ite_true, ite_false]
      refine ⟨fun e9 => hnot (Or.inr (Or.inr e9)) _, fun n9 => ?_⟩
      have hno : ¬ (g1 6 = 0 ∨ lkG g1 p = 0 ∨ og g1 p 2 = 9) := by
        rintro (q | q | q)
        · omega
        · exact nl q
        · exact n9 q
      obtain ⟨k1, k2, k3, k4, k5, k6⟩ := dy_facts (by omega) b0 hno
      have hn9 : og g1 p 2 < 9 := by omega
      refine r_draw (by omega) (by omega) ?_
      have hd1 : drV (g1 5) 1000 < 1000 := Nat.mod_lt _ (by omega)
      simp (disch := omega) only [hs_at, hs_put, hs_63, NH_at, NH_put, NH_cpy, ni_add, ni_mul, ni_clamp, ni_in, ni_eq, ni_lt, ni_le, ni_sub, Nat.reduceAdd, Nat.reduceMul, Nat.reduceSub, eq_self, true_implies, not_true_eq_false, false_implies, and_true, true_and, not_false_eq_true, Nat.reduceEqDiff, Nat.reduceLeDiff, Nat.reduceLT, implies_true, ite_true, ite_false, nup_self, nup_ne, cup_self, cup_ne, b6, e6]
      refine ⟨fun hlt => ?_, fun hge => ?_⟩
      · have hc20 := cnt_le (lkG g1 p) 20
        change am_C tT E (d + 1) mX12_count [Sum.inl (nI (lkG g1 p))] _ _
        refine r_count (by omega) ?_
        refine r_draw k2 (by omega) ?_
        simp (disch := omega) only [hs_at, hs_put, hs_63, NH_at, NH_put, NH_cpy, ni_add, ni_mul, ni_clamp, ni_in, ni_eq, ni_lt, ni_le, ni_sub, Nat.reduceAdd, Nat.reduceMul, Nat.reduceSub, eq_self, true_implies, not_true_eq_false, false_implies, and_true, true_and, not_false_eq_true, Nat.reduceEqDiff, Nat.reduceLeDiff, Nat.reduceLT, implies_true, ite_true, ite_false, nup_self, nup_ne, cup_self, cup_ne]
        have hnn : nup (nup g1 5 (lcg (g1 5))) 5 (lcg (lcg (g1 5))) = nup g1 5 (lcg (lcg (g1 5))) := by
          funext j
          grind [nup_app]
        rw [hnn]
        refine r_nth (by omega) (by have := b0.1.1; omega) k5 k6 ?_
        refine r_comes (by omega) (by rw [og_n5]; exact hm) ?_
        have := hnx (some (.inl (nI (lkG g1 p))))
        rw [dyP, if_neg hno, if_neg (by omega)] at this
        exact this
      · have := hnx (some (.inl (nI (lkG g1 p))))
        rw [dyP, if_neg hno, if_pos (by omega)] at this
        exact this
  exact loop (g 1) 0 _ (by omega)
/-! the class -/
theorem c_draw {m : Nat} (hm : 0 < m) (hm2 : m < 2147483648) (e5 : c 1 0 = g 5) (hq : Q (nI (drV (g 5) m)) (NH (cup c 1 0 (lcg (g 5))))) : am_C tT E d mX10_draw [.inr 1, .inl (nI m)] (NH c) Q := by
  have h1 := lcg_sh (g 5)
  have h2 := lcg_lt (g 5)
  refine am_C.of (by decide) (Nat.le_of_ble_eq_true rfl) ?_
  show am_R tT E _ mX10_draw _ 0 [some (.inr 1), some (.inl (nI m))] [] (NH c)
  refine am_goS gX10_draw [] 400 ?_
  simp only [am_eqs, am_eqk, am_eqv, lX10_draw_0, fx_class, NH_at, NH_put, ↓reduceIte, List.mem_cons, List.not_mem_nil, or_false, or_self, false_or, true_and, and_true, Nat.reduceEqDiff, reduceCtorEq, List.length_cons, List.length_nil, Nat.reduceAdd, Nat.reduceLeDiff, Nat.reduceSub, Nat.reduceLT, Nat.zero_le, Nat.zero_add, forall_const, not_true_eq_false, not_false_eq_true, false_implies, true_implies, implies_true, Nat.zero_lt_succ, am_z0, am_z1]
  simp (disch := omega) only [hs_at, hs_put, hs_63, NH_at, NH_put, NH_cpy, ni_add, ni_mul, ni_clamp, ni_in, ni_eq, ni_lt, ni_le, ni_sub, Nat.reduceAdd, Nat.reduceMul, Nat.reduceSub, eq_self, true_implies, not_true_eq_false, false_implies, and_true, true_and, not_false_eq_true, Nat.reduceEqDiff, Nat.reduceLeDiff, Nat.reduceLT, implies_true, ite_true, ite_false, nup_self, nup_ne, cup_self, cup_ne, e5]
  have e1 : nI (1664525 * g 5 + 1013904223) = nI (lcg (g 5)) := (ni_mod _).symm
  have e2 : NH (cup c 1 0 (1664525 * g 5 + 1013904223)) = NH (cup c 1 0 (lcg (g 5))) := by rw [← NH_put, e1, NH_put]
  rw [e1, e2, ni_ushr h2 (by omega), ni_rem (by omega) hm2]
  refine ⟨fun _ => ⟨?_, hq⟩, fun z => absurd z (by omega)⟩
  show ¬ nI m = nI 0
  rw [ni_eq (by omega) (by omega)]
  omega
theorem ra_st5 {k : Nat} (hm9 : ∀ q, q < 8 → og g q 2 ≤ 9) (hA : RA g c) : RA (nup g 5 k) (cup c 1 0 k) := by
  refine ra_small (by omega) hm9 hA (fun o ho _ => cup_ne c _ _ ho) ?_ (by omega)
  obtain ⟨⟨⟨f5, f6, f7, f3, f0, f4, f8⟩, b2, b3, b4, b5, f2, b7⟩, -⟩ := hA
  refine ⟨?_, ?_, ?_, ?_, ?_, ?_, ?_⟩ <;> grind [cup_app, nup_app]
def FR2 (c c' : Nat → Nat → Nat) : Prop := ∀ o, o = 0 ∨ 16 < o → c' o = c o
theorem c_gbl {p s dd kk N : Nat} {c2 : Nat → Nat → Nat} (hp : p < 8) (hs : s < 2147483648) (hN : N ≤ 20) (hdle : dd < 100) (hm9 : og g p 2 < 9) (k5 : s >>> kk &&& 1 = 1) (k6 : cntK s kk = dd) (k3 : kk < N) (f0 : c2 1 4 = N) (f12 : c2 12 p = og g p 2) (hfin : Q (nI 1) (NH (iC c2 p (c2 12 p) kk))) : am_R tT E (d + 3) mX10_growBack Q 77 [some (.inr 1), some (.inl (nI p)), some (.inl (nI s)), some (.inl (nI dd)), some (.inl (nI 0))] [] (NH c2) := by
  have loop : ∀ m n, n + m = kk → am_R tT E (d + 3) mX10_growBack Q 77 [some (.inr 1), some (.inl (nI p)), some (.inl (nI (s))), some (.inl (nI (dd - cntK (s) n))), some (.inl (nI n))] [] (NH c2) := by
    intro m
    induction m with
    | zero =>
      intro n hn
      have e : n = kk := by omega
      subst e
      refine am_goS gX10_growBack [77] 400 ?_
      simp only [am_eqs, am_eqk, am_eqv, lX10_growBack_0, lX10_growBack_1, lX10_growBack_2, fx_class, NH_at, NH_put, ↓reduceIte, List.mem_cons, List.not_mem_nil, or_false, or_self, false_or, true_and, and_true, Nat.reduceEqDiff, reduceCtorEq, List.length_cons, List.length_nil, Nat.reduceAdd, Nat.reduceLeDiff, Nat.reduceSub, Nat.reduceLT, Nat.zero_le, Nat.zero_add, forall_const, not_true_eq_false, not_false_eq_true, false_implies, true_implies, implies_true, Nat.zero_lt_succ, am_z0, am_z1]
      simp (disch := omega) only [hs_at, hs_put, hs_63, NH_at, NH_put, NH_cpy, ni_add, ni_mul, ni_clamp, ni_in, ni_eq, ni_lt, ni_le, ni_sub, Nat.reduceAdd, Nat.reduceMul, Nat.reduceSub, eq_self, true_implies, not_true_eq_false, false_implies, and_true, true_and, not_false_eq_true, Nat.reduceEqDiff, Nat.reduceLeDiff, Nat.reduceLT, implies_true, ite_true, ite_false, f0, ni_shr, ni_and]
      refine ⟨fun c => absurd c (by omega), fun _ => ⟨fun c => absurd c (by omega), fun _ => ⟨fun _ => c_append (by omega) (by omega) (by omega) hfin, fun c => absurd c (by omega)⟩⟩⟩
    | succ m ih =>
      intro n hn
      have hmono := cntK_mono (s) (n + 1) kk (by omega)
      have hc1 : cntK (s) (n + 1) = cntK (s) n + (s >>> n &&& 1) := rfl
      have hb := bit01 (s) n
      have hnx := ih (n + 1) (by omega)
      refine am_goS gX10_growBack [77] 400 ?_
      simp only [am_eqs, am_eqk, am_eqv, lX10_growBack_0, lX10_growBack_1, lX10_growBack_2, fx_class, NH_at, NH_put, ↓reduceIte, List.mem_cons, List.not_mem_nil, or_false, or_self, false_or, true_and, and_true, Nat.reduceEqDiff, reduceCtorEq, List.length_cons, List.length_nil, Nat.reduceAdd, Nat.reduceLeDiff, Nat.reduceSub, Nat.reduceLT, Nat.zero_le, Nat.zero_add, forall_const, not_true_eq_false, not_false_eq_true, false_implies, true_implies, implies_true, Nat.zero_lt_succ, am_z0, am_z1]
      simp (disch := omega) only [hs_at, hs_put, hs_63, NH_at, NH_put, NH_cpy, ni_add, ni_mul, ni_clamp, ni_in, ni_eq, ni_lt, ni_le, ni_sub, Nat.reduceAdd, Nat.reduceMul, Nat.reduceSub, eq_self, true_implies, not_true_eq_false, false_implies, and_true, true_and, not_false_eq_true, Nat.reduceEqDiff, Nat.reduceLeDiff, Nat.reduceLT, implies_true, ite_true, ite_false, f0, ni_shr, ni_and]
      refine ⟨fun c => absurd c (by omega), fun _ => ⟨fun eb => ?_, fun eb => ⟨fun c => absurd c (by omega), fun c => ?_⟩⟩⟩
      · rw [hc1, eb, Nat.add_zero] at hnx
        exact hnx
      · rw [ni_addm1 (by omega)]
        rw [hc1, show (s >>> n &&& 1) = 1 by omega, ← Nat.sub_sub] at hnx
        exact hnx
  exact loop kk 0 (by omega)
theorem c_growBack {p : Nat} (hp : p < g 1) (hW : WF g t) (hA : RA g c) (hq : ∀ c', RA (dyP g p).1 c' → FR2 c c' → Q (nI (dyP g p).2) (NH c')) : am_C tT E (d + 3) mX10_growBack [.inr 1, .inl (nI p)] (NH c) Q := by
  have w0 := hW.1.1
  have w1 := hW.1.2.1
  have w6 := hW.1.2.2.2.2.2.2.1
  have hm9 : ∀ p, p < 8 → og g p 2 ≤ 9 := fun p hp => (hW.p hp).2.2.1
  have hpe := hW.p (show p < 8 by omega)
  have hm := hpe.2.2.1
  have hp20 := pow_20 w0
  have h3 := hpe.2.2.2.1
  have hand := Nat.and_le_left (n := og g p 3) (m := had g p ^^^ 4294967295)
  obtain ⟨r0, r1, r3, r6, r2, r5⟩ := hA.2.1.2 p (by omega)
  have e5 := hA.1.1.1
  have e6 := hA.1.1.2.1
  have e0 := hA.1.1.2.2.2.2.1
  have hnot : (g 6 = 0 ∨ lkG g p = 0 ∨ og g p 2 = 9) → Q (nI 0) (NH c) := by
    intro hh
    have := hq c (by rw [dyP, if_pos hh]; exact hA) (fun _ _ => rfl)
    rw [dyP, if_pos hh] at this
    exact this
  refine am_C.of (by decide) (Nat.le_of_ble_eq_true rfl) ?_
  show am_R tT E _ mX10_growBack _ 0 [some (.inr 1), some (.inl (nI p)), none, none, none] [] (NH c)
  refine am_goS gX10_growBack [77] 400 ?_
  simp only [am_eqs, am_eqk, am_eqv, lX10_growBack_0, lX10_growBack_1, lX10_growBack_2, fx_class, NH_at, NH_put, ↓reduceIte, List.mem_cons, List.not_mem_nil, or_false, or_self, false_or, true_and, and_true, Nat.reduceEqDiff, reduceCtorEq, List.length_cons, List.length_nil, Nat.reduceAdd, Nat.reduceLeDiff, Nat.reduceSub, Nat.reduceLT, Nat.zero_le, Nat.zero_add, forall_const, not_true_eq_false, not_false_eq_true, false_implies, true_implies, implies_true, Nat.zero_lt_succ, am_z0, am_z1]
  simp (disch := omega) only [hs_at, hs_put, hs_63, NH_at, NH_put, NH_cpy, ni_add, ni_mul, ni_clamp, ni_in, ni_eq, ni_lt, ni_le, ni_sub, Nat.reduceAdd, Nat.reduceMul, Nat.reduceSub, eq_self, true_implies, not_true_eq_false, false_implies, and_true, true_and, not_false_eq_true, Nat.reduceEqDiff, Nat.reduceLeDiff, Nat.reduceLT, implies_true, ite_true, ite_false, r3, r6, r2, ni_m1, ni_xor, ni_and, e6]
  refine ⟨by omega, by omega, fun e => hnot (Or.inl e), fun n6 => ⟨fun e => hnot (Or.inr (Or.inl e)), fun nl => ⟨by omega, fun n9 => ?_, fun e => hnot (Or.inr (Or.inr (by omega)))⟩⟩⟩
  have hno : ¬ (g 6 = 0 ∨ lkG g p = 0 ∨ og g p 2 = 9) := by
    rintro (q | q | q)
    · exact n6 q
    · exact nl q
    · omega
  obtain ⟨k1, k2, k3, k4, k5, k6⟩ := dy_facts hp hW hno
  have hd1 : drV (g 5) 1000 < 1000 := Nat.mod_lt _ (by omega)
  refine c_draw (g := g) (by omega) (by omega) e5 ?_
  have hA1 := ra_st5 (k := lcg (g 5)) hm9 hA
  simp (disch := omega) only [hs_at, hs_put, hs_63, NH_at, NH_put, NH_cpy, ni_add, ni_mul, ni_clamp, ni_in, ni_eq, ni_lt, ni_le, ni_sub, Nat.reduceAdd, Nat.reduceMul, Nat.reduceSub, eq_self, true_implies, not_true_eq_false, false_implies, and_true, true_and, not_false_eq_true, Nat.reduceEqDiff, Nat.reduceLeDiff, Nat.reduceLT, implies_true, ite_true, ite_false, nup_self, nup_ne, cup_self, cup_ne, e6]
  refine ⟨fun hlt => ?_, fun hge => ?_⟩
  · have hc20 := cnt_le (lkG g p) 20
    change am_C tT E (d + 2) mJ6_bitCount_0f7a4 [Sum.inl (nI (lkG g p))] _ _
    refine c_bitCount (by omega) ?_
    refine c_draw (g := nup g 5 (lcg (g 5))) k2 (by omega) hA1.1.1.1 ?_
    rw [nup_self]
    have hA2 := ra_st5 (k := lcg (lcg (g 5))) (fun q hq => by rw [og_n5]; exact hm9 q hq) hA1
    have hnn : nup (nup g 5 (lcg (g 5))) 5 (lcg (lcg (g 5))) = nup g 5 (lcg (lcg (g 5))) := by
      funext j
      grind [nup_app]
    rw [hnn] at hA2
    have hF2 : FR2 c (cup (cup c 1 0 (lcg (g 5))) 1 0 (lcg (lcg (g 5)))) := fun o ho => by rw [cup_ne _ _ _ (by omega), cup_ne _ _ _ (by omega)]
    generalize cup (cup c 1 0 (lcg (g 5))) 1 0 (lcg (lcg (g 5))) = c2 at *
    have f0 : c2 1 4 = g 0 := by have := hA2.1.1.2.2.2.2.1; rw [this, nup_ne g _ (by omega)]
    have f12 : c2 12 p = og g p 2 := by have := (hA2.2.1.2 p (by omega)).2.2.2.2.1; rw [this, og_n5]
    have hfin : Q (nI 1) (NH (iC c2 p (c2 12 p) (nthF (lkG g p) (drV (lcg (g 5)) (cntK (lkG g p) 20)) 20))) := by
      have := hq (iC c2 p (c2 12 p) (nthF (lkG g p) (drV (lcg (g 5)) (cntK (lkG g p) 20)) 20)) (by
        rw [dyP, if_neg hno, if_neg (by omega)]
        exact ra_append (fun q hq => by rw [og_n5]; exact hm9 q hq) (by omega) (by rw [og_n5]; omega) hA2) (fun o ho => by
        rw [← hF2 o ho]
        funext j
        unfold iC
        grind [cup_app, ccp_app])
      rw [dyP, if_neg hno, if_neg (by omega)] at this
      exact this
    have hdle : drV (lcg (g 5)) (cntK (lkG g p) 20) < 20 := Nat.lt_of_lt_of_le (Nat.mod_lt _ k2) hc20
    exact c_gbl (s := lkG g p) (by omega) (by omega) (by omega) (by omega) (by omega) k5 k6 k3 f0 f12 hfin
  · have := hq (cup c 1 0 (lcg (g 5))) (by rw [dyP, if_neg hno, if_pos (by omega)]; exact hA1) (fun o ho => cup_ne _ _ _ (by omega))
    rw [dyP, if_neg hno, if_pos (by omega)] at this
    exact this
theorem ci_day (hW : WF g t) (hA : RA g c) (h1 : g 3 < 9999 → ∀ c', RA (dyK (nup g 3 (g 3 + 1)) (g 1)).1 c' → FR c c' → c' 53 0 = 0 → Q (nI (dyK (nup g 3 (g 3 + 1)) (g 1)).2) (NH c')) (h0 : g 3 = 9999 → Q (-1) (NH c)) : am_C tT E (d + 4) mX11_day [.inr 0] (NH c) Q := by
  have w1 := hW.1.2.1
  have w3 := hW.1.2.2.2.1
  have hm9 : ∀ p, p < 8 → og g p 2 ≤ 9 := fun p hp => (hW.p hp).2.2.1
  have e3 := hA.1.1.2.2.2.1
  refine am_C.of (by decide) (Nat.le_of_ble_eq_true rfl) ?_
  show am_R tT E _ mX11_day _ 0 [some (.inr 0), none, none] [] (NH c)
  refine am_goS gX11_day [39] 400 ?_
  simp only [am_eqs, am_eqk, am_eqv, lX11_day_0, lX11_day_1, fx_class, NH_at, NH_put, ↓reduceIte, List.mem_cons, List.not_mem_nil, or_false, or_self, false_or, true_and, and_true, Nat.reduceEqDiff, reduceCtorEq, List.length_cons, List.length_nil, Nat.reduceAdd, Nat.reduceLeDiff, Nat.reduceSub, Nat.reduceLT, Nat.zero_le, Nat.zero_add, forall_const, not_true_eq_false, not_false_eq_true, false_implies, true_implies, implies_true, Nat.zero_lt_succ, am_z0, am_z1]
  simp (disch := omega) only [hs_at, hs_put, hs_63, NH_at, NH_put, NH_cpy, ni_add, ni_mul, ni_clamp, ni_in, ni_eq, ni_lt, ni_le, ni_sub, Nat.reduceAdd, Nat.reduceMul, Nat.reduceSub, eq_self, true_implies, not_true_eq_false, false_implies, and_true, true_and, not_false_eq_true, Nat.reduceEqDiff, Nat.reduceLeDiff, Nat.reduceLT, implies_true, ite_true, ite_false, e3]
  refine ⟨fun hlt => ?_, fun hge => h0 (by omega)⟩
  have h1 := h1 hlt
  have hW0 := wf_day3 hlt hW
  refine c_tforget ?_
  simp (disch := omega) only [hs_at, hs_put, hs_63, NH_at, NH_put, NH_cpy, ni_add, ni_mul, ni_clamp, ni_in, ni_eq, ni_lt, ni_le, ni_sub, Nat.reduceAdd, Nat.reduceMul, Nat.reduceSub, eq_self, true_implies, not_true_eq_false, false_implies, and_true, true_and, not_false_eq_true, Nat.reduceEqDiff, Nat.reduceLeDiff, Nat.reduceLT, implies_true, ite_true, ite_false, nup_self, nup_ne, cup_self, cup_ne, e3]
  have hA0 : RA (nup g 3 (g 3 + 1)) (cup (cup c 53 0 0) 1 3 (g 3 + 1)) := by
    refine ra_small (by omega) hm9 (ra_c53 hA) (fun o ho _ => cup_ne _ _ _ ho) ?_ (by omega)
    obtain ⟨⟨⟨f5, f6, f7, f3, f0, f4, f8⟩, b2, b3, b4, b5, f2, b7⟩, -⟩ := ra_c53 hA
    refine ⟨?_, ?_, ?_, ?_, ?_, ?_, ?_⟩ <;> grind [cup_app, nup_app]
  have hF0 : FR c (cup (cup c 53 0 0) 1 3 (g 3 + 1)) := fun o ho1 ho2 => by rw [cup_ne _ _ _ (by omega), cup_ne _ _ _ ho2]
  have h530 : cup (cup c 53 0 0) 1 3 (g 3 + 1) 53 0 = 0 := by grind [cup_app]
  have e1 : nup g 3 (g 3 + 1) 1 = g 1 := nup_ne g _ (by omega)
  generalize cup (cup c 53 0 0) 1 3 (g 3 + 1) = c0 at *
  generalize nup g 3 (g 3 + 1) = g0 at *
  have loop : ∀ k p (c' : Nat → Nat → Nat), p + k = g 1 → RA (dyK g0 p).1 c' → FR c c' → c' 53 0 = 0 → am_R tT E (d + 4) mX11_day Q 39 [some (.inr 0), some (.inl (nI (dyK g0 p).2)), some (.inl (nI p))] [] (NH c') := by
    intro k
    induction k with
    | zero =>
      intro p c' hp hAc hFc h53
      have e : p = g 1 := by omega
      subst e
      obtain ⟨b0, b1, b6, -, -⟩ := wf_dyK hW0 (g 1) (by omega)
      have q1 := hAc.2.1.1
      refine am_goS gX11_day [39] 400 ?_
      simp only [am_eqs, am_eqk, am_eqv, lX11_day_0, lX11_day_1, fx_class, NH_at, NH_put, ↓reduceIte, List.mem_cons, List.not_mem_nil, or_false, or_self, false_or, true_and, and_true, Nat.reduceEqDiff, reduceCtorEq, List.length_cons, List.length_nil, Nat.reduceAdd, Nat.reduceLeDiff, Nat.reduceSub, Nat.reduceLT, Nat.zero_le, Nat.zero_add, forall_const, not_true_eq_false, not_false_eq_true, false_implies, true_implies, implies_true, Nat.zero_lt_succ, am_z0, am_z1]
      simp (disch := omega) only [hs_at, hs_put, hs_63, NH_at, NH_put, NH_cpy, ni_add, ni_mul, ni_clamp, ni_in, ni_eq, ni_lt, ni_le, ni_sub, Nat.reduceAdd, Nat.reduceMul, Nat.reduceSub, eq_self, true_implies, not_true_eq_false, false_implies, and_true, true_and, not_false_eq_true, Nat.reduceEqDiff, Nat.reduceLeDiff, Nat.reduceLT, implies_true, ite_true, ite_false, q1, b1, e1]
      refine ⟨fun _ => h1 c' hAc hFc h53, fun c => absurd c (by omega)⟩
    | succ k ih =>
      intro p c' hp hAc hFc h53
      obtain ⟨b0, b1, b6, b00, -⟩ := wf_dyK hW0 p (by omega)
      have hle := dyK_le hW0 p
      have q1 := hAc.2.1.1
      refine am_goS gX11_day [39] 400 ?_
      simp only [am_eqs, am_eqk, am_eqv, lX11_day_0, lX11_day_1, fx_class, NH_at, NH_put, ↓reduceIte, List.mem_cons, List.not_mem_nil, or_false, or_self, false_or, true_and, and_true, Nat.reduceEqDiff, reduceCtorEq, List.length_cons, List.length_nil, Nat.reduceAdd, Nat.reduceLeDiff, Nat.reduceSub, Nat.reduceLT, Nat.zero_le, Nat.zero_add, forall_const, not_true_eq_false, not_false_eq_true, false_implies, true_implies, implies_true, Nat.zero_lt_succ, am_z0, am_z1]
      simp (disch := omega) only [hs_at, hs_put, hs_63, NH_at, NH_put, NH_cpy, ni_add, ni_mul, ni_clamp, ni_in, ni_eq, ni_lt, ni_le, ni_sub, Nat.reduceAdd, Nat.reduceMul, Nat.reduceSub, eq_self, true_implies, not_true_eq_false, false_implies, and_true, true_and, not_false_eq_true, Nat.reduceEqDiff, Nat.reduceLeDiff, Nat.reduceLT, implies_true, ite_true, ite_false, q1, b1, e1]
      refine ⟨fun c => absurd c (by omega), fun _ => ?_⟩
      refine c_growBack (by omega) b0 hAc (fun c2 hA2 hF2 => ?_)
      have hnx := ih (p + 1) c2 (by omega) hA2 (fun o ho1 ho2 => by rw [hF2 o ho1, hFc o ho1 ho2]) (by rw [hF2 53 (by omega)]; exact h53)
      have h01 : (dyP (dyK g0 p).1 p).2 = 0 ∨ (dyP (dyK g0 p).1 p).2 = 1 := by
        unfold dyP
        split
        · exact Or.inl rfl
        · split
          · exact Or.inl rfl
          · exact Or.inr rfl
      simp only [dyK] at hnx
      rcases h01 with e | e
      · rw [e] at hnx ⊢
        simp (disch := omega) only [hs_at, hs_put, hs_63, NH_at, NH_put, NH_cpy, ni_add, ni_mul, ni_clamp, ni_in, ni_eq, ni_lt, ni_le, ni_sub, Nat.reduceAdd, Nat.reduceMul, Nat.reduceSub, eq_self, true_implies, not_true_eq_false, false_implies, and_true, true_and, not_false_eq_true, Nat.reduceEqDiff, Nat.reduceLeDiff, Nat.reduceLT, implies_true, ite_true, ite_false]
        exact hnx
      · rw [e] at hnx ⊢
        simp (disch := omega) only [hs_at, hs_put, hs_63, NH_at, NH_put, NH_cpy, ni_add, ni_mul, ni_clamp, ni_in, ni_eq, ni_lt, ni_le, ni_sub, Nat.reduceAdd, Nat.reduceMul, Nat.reduceSub, eq_self, true_implies, not_true_eq_false, false_implies, and_true, true_and, not_false_eq_true, Nat.reduceEqDiff, Nat.reduceLeDiff, Nat.reduceLT, implies_true, ite_true, ite_false]
        exact hnx
  exact loop (g 1) 0 c0 (by omega) hA0 hF0 h530
end DAY
