/-! ===== part ba: the invariant at the beginning ===== -/
def c00 : Nat → Nat → Nat := fun o k => if (o = 46 ∧ k = 2) ∨ (o = 63 ∧ k = 22) then 4294967295 else 0
def h00 : am_H := NH c00
theorem c00_0 {o k : Nat} (h : ¬ ((o = 46 ∧ k = 2) ∨ (o = 63 ∧ k = 22))) : c00 o k = 0 := if_neg h
theorem inv0 : INV 0 h00 := by
  refine ⟨c00, fun _ => 0, fun o _ => rfl, ?_, ⟨?_, ?_, ?_⟩, ?_, ?_, ?_, ?_⟩
  · funext i
    show nI (c00 64 i) = nI 0
    rw [c00_0 (by omega)]
  · refine ⟨⟨Nat.zero_le _, Nat.zero_le _, Nat.zero_le _, Nat.zero_le _, Nat.zero_le _, by decide, Nat.zero_le _, Nat.zero_le _, Nat.zero_le _⟩, fun _ _ => ⟨Nat.zero_le _, Nat.zero_le _⟩, fun _ _ => ⟨Nat.zero_lt_succ 7, Nat.zero_lt_succ 7⟩, fun b hb => absurd hb (Nat.not_lt_zero b), fun b hb => absurd hb (Nat.not_lt_zero b), fun p _ => ?_, fun _ _ _ _ => Nat.zero_le _, fun _ _ _ _ _ => rfl⟩
    exact ⟨Nat.zero_lt_succ 7, Nat.zero_le _, Nat.zero_le _, Nat.zero_lt_succ 0, Nat.zero_lt_succ 0, fun i hi => absurd hi (Nat.not_lt_zero i), fun i j _ hj => absurd hj (Nat.not_lt_zero j)⟩
  · refine ⟨⟨⟨c00_0 (by omega), c00_0 (by omega), c00_0 (by omega), c00_0 (by omega), c00_0 (by omega), c00_0 (by omega), c00_0 (by omega)⟩, fun i _ => c00_0 (by omega), fun i _ => c00_0 (by omega), fun i _ => c00_0 (by omega), fun i _ => c00_0 (by omega), c00_0 (by omega), fun i _ => c00_0 (by omega)⟩, ⟨c00_0 (by omega), fun p _ => ⟨c00_0 (by omega), c00_0 (by omega), c00_0 (by omega), ?_, c00_0 (by omega), fun i hi => absurd hi (Nat.not_lt_zero i)⟩⟩, fun b n _ _ => c00_0 (by omega), fun p _ => c00_0 (by omega)⟩
    rw [c00_0 (by omega)]
    rfl
  · exact c00_0 (by omega)
  · refine ⟨[], ?_, ⟨c00_0 (by omega), c00_0 (by omega), by decide, ?_⟩, fun l hl => by cases hl⟩
    · simp [LRl]
    · simp [CS, tkW]
  · refine ⟨0, by omega, ?_, c00_0 (by omega), fun j hj => by omega, ⟨0, by omega, ?_⟩, ?_, rfl⟩
    · show nI (c00 63 13) = nI 0
      rw [c00_0 (by omega)]
    · show nI (c00 63 17) = nI 0
      rw [c00_0 (by omega)]
    · show nI (c00 63 20) = nI (c00 46 1)
      rw [c00_0 (by omega), c00_0 (by omega)]
  · refine ⟨0, by omega, ?_, c00_0 (by omega), fun z => by omega⟩
    show nI (c00 63 5) = nI 0
    rw [c00_0 (by omega)]
  · refine ⟨0, fun _ _ => 0, by omega, c00_0 (by omega), ?_, fun i hi => by omega⟩
    show nI (c00 63 4) = nI 0
    rw [c00_0 (by omega)]
