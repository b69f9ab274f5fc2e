/-! ===== part 15: what class and reference have in common ===== -/
noncomputable def cif {α : Type} (P : Prop) (a b : α) : α := @ite α P (Classical.propDecidable P) a b
theorem cif_pos {α : Type} {P : Prop} (h : P) (a b : α) : cif P a b = a := by unfold cif; exact if_pos h
theorem cif_neg {α : Type} {P : Prop} (h : ¬ P) (a b : α) : cif P a b = b := by unfold cif; exact if_neg h
def pers (g : Nat → Nat) (p : Nat) : Prop := og g p 0 < 8 ∧ og g p 1 ≤ 9999 ∧ og g p 2 ≤ 9 ∧ og g p 3 < 2 ^ g 0 ∧ og g p 4 < 2 ^ g 0 ∧ (∀ i, i < og g p 2 → og g p (5 + i) < g 0) ∧ ∀ i j, i < j → j < og g p 2 → og g p (5 + i) ≠ og g p (5 + j)
/-- the counts in their bounds; t bounds what keepers keep -/
def WF (g : Nat → Nat) (t : Nat) : Prop :=
  (g 0 ≤ 20 ∧ g 1 ≤ 8 ∧ g 2 ≤ 12 ∧ g 3 ≤ 9999 ∧ g 4 ≤ 100 ∧ g 5 < 4294967296 ∧ g 6 ≤ 1000 ∧ g 7 ≤ 99 ∧ g 8 ≤ 12) ∧
  (∀ n, n < 20 → g (10 + n) ≤ 3 ∧ g (30 + n) ≤ 12) ∧ (∀ b, b < 12 → g (50 + 2 * b) < 8 ∧ g (51 + 2 * b) < 8) ∧ (∀ b, b < g 2 → g (50 + 2 * b) ≠ g (51 + 2 * b)) ∧
  (∀ k, k < g 8 → g (75 + k) < g 2) ∧ (∀ p, p < 8 → pers g p) ∧ (∀ b n, b < 12 → n < 20 → g (220 + 20 * b + n) ≤ t) ∧ ∀ b n, g 2 ≤ b → b < 12 → n < 20 → g (220 + 20 * b + n) = 0
def RW (g : Nat → Nat) (c : Nat → Nat → Nat) : Prop :=
  (c 1 0 = g 5 ∧ c 1 1 = g 6 ∧ c 1 2 = g 7 ∧ c 1 3 = g 3 ∧ c 1 4 = g 0 ∧ c 1 7 = g 4 ∧ c 1 9 = g 8) ∧
  (∀ i, i < 20 → c 2 i = g (10 + i)) ∧ (∀ i, i < 20 → c 3 i = g (30 + i)) ∧ (∀ j, j < 400 → c 4 j = g (460 + j)) ∧ (∀ j, j < 12 → c 5 j = g (75 + j)) ∧
  c 14 0 = g 2 ∧ ∀ j, j < 24 → c 15 j = g (50 + j)
def RP (g : Nat → Nat) (c : Nat → Nat → Nat) : Prop :=
  c 6 0 = g 1 ∧ ∀ p, p < 8 → c 7 p = og g p 0 ∧ c 8 p = og g p 1 ∧ c 9 p = og g p 3 ∧ c 11 p = had g p ∧ c 12 p = og g p 2 ∧ ∀ i, i < og g p 2 → c 13 (9 * p + i) = og g p (5 + i)
def RK (g : Nat → Nat) (c : Nat → Nat → Nat) : Prop := ∀ b n, b < 12 → n < 20 → c 16 (20 * b + n) = g (220 + 20 * b + n)
def RE (g : Nat → Nat) (c : Nat → Nat → Nat) : Prop := ∀ p, p < 8 → c 10 p = og g p 4
/-! the names one has, by bits -/
theorem had_lt {g : Nat → Nat} {p N : Nat} (hb : ∀ i, i < og g p 2 → og g p (5 + i) < N) : had g p < 2 ^ N := by
  have key : ∀ k, k ≤ og g p 2 → hadK g p k < 2 ^ N := by
    intro k
    induction k with
    | zero => intro _; exact Nat.two_pow_pos N
    | succ k ih =>
      intro hk
      refine Nat.or_lt_two_pow (ih (by omega)) ?_
      rw [Nat.one_shiftLeft]
      exact Nat.pow_lt_pow_right (by omega) (hb k (by omega))
  exact key _ (Nat.le_refl _)
theorem shr1 (s k : Nat) : s >>> k &&& 1 = (if s.testBit k then 1 else 0) := by
  rw [Nat.testBit_eq_decide_div_mod_eq, Nat.shiftRight_eq_div_pow]
  have h := Nat.and_two_pow_sub_one_eq_mod (s / 2 ^ k) 1
  rw [show 2 ^ 1 - 1 = 1 from rfl] at h
  rw [h]
  by_cases hc : s / 2 ^ k % 2 = 1
  · simp [hc]
  · simp [hc]; omega
theorem hadK_bit (g : Nat → Nat) (p n : Nat) : ∀ k, (hadK g p k).testBit n = true ↔ ∃ i, i < k ∧ og g p (5 + i) = n := by
  intro k
  induction k with
  | zero => simp [hadK]
  | succ k ih =>
    simp only [hadK, Nat.testBit_or, Bool.or_eq_true, ih, Nat.one_shiftLeft, Nat.testBit_two_pow, decide_eq_true_eq]
    constructor
    · rintro (⟨i, h1, h2⟩ | h)
      · exact ⟨i, by omega, h2⟩
      · exact ⟨k, by omega, h⟩
    · rintro ⟨i, h1, h2⟩
      by_cases hik : i = k
      · exact Or.inr (hik ▸ h2)
      · exact Or.inl ⟨i, by omega, h2⟩
theorem had_bit (g : Nat → Nat) (p n : Nat) : had g p >>> n &&& 1 = 1 ↔ hasN g p n := by
  rw [shr1]
  have h := hadK_bit g p n (og g p 2)
  show (if (had g p).testBit n = true then 1 else 0) = 1 ↔ _
  unfold had hasN
  rw [← h]
  by_cases hb : (hadK g p (og g p 2)).testBit n = true
  · simp [hb]
  · simp [hb]
theorem had_20 {g : Nat → Nat} {p : Nat} (h0 : g 0 ≤ 20) (hp : pers g p) : had g p < 1048576 := by
  refine Nat.lt_of_lt_of_le (had_lt (N := 20) (fun i hi => ?_)) (Nat.le_refl _)
  have := hp.2.2.2.2.2.1 i hi
  omega
theorem pow_20 {g : Nat → Nat} (h0 : g 0 ≤ 20) : 2 ^ g 0 ≤ 1048576 := Nat.pow_le_pow_right (by decide) h0
