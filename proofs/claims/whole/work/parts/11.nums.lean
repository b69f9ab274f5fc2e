/-! ===== part 11: ints as naturals: nI in normal form ===== -/
theorem ni_add (a b : Nat) : nI a + nI b = nI (a + b) := (Int32.ofNat_add a b).symm
theorem ni_mul (a b : Nat) : nI a * nI b = nI (a * b) := (Int32.ofNat_mul a b).symm
theorem ni_sub {a b : Nat} (h : b ≤ a) : nI a - nI b = nI (a - b) := (Int32.ofNat_sub a b h).symm
theorem ni_bv (a : Nat) : (nI a).toBitVec = BitVec.ofNat 32 a := rfl
theorem ni_ext {x y : Int32} (h : x.toBitVec = y.toBitVec) : x = y := Int32.toBitVec_inj.mp h
theorem ni_eq {a b : Nat} (ha : a < 4294967296) (hb : b < 4294967296) : (nI a = nI b) = (a = b) := by
  refine propext ⟨fun h => ?_, fun h => by rw [h]⟩
  have h1 := congrArg (fun z : Int32 => z.toBitVec.toNat) h
  simp only [ni_bv, BitVec.toNat_ofNat] at h1
  omega
theorem ni_lt {a b : Nat} (ha : a < 2147483648) (hb : b < 2147483648) : (nI a < nI b) = (a < b) := by
  refine propext ?_
  rw [Int32.lt_iff_toInt_lt, nI_toInt ha, nI_toInt hb]
  omega
theorem ni_le {a b : Nat} (ha : a < 2147483648) (hb : b < 2147483648) : (nI a ≤ nI b) = (a ≤ b) := by
  refine propext ?_
  rw [Int32.le_iff_toInt_le, nI_toInt ha, nI_toInt hb]
  omega
theorem ni_clamp {a : Nat} (ha : a < 2147483648) : (nI a).toNatClampNeg = a := nI_clamp ha
theorem ni_in {a N : Nat} (ha : a < 2147483648) : vp_in (nI a) N = (a < N) := by
  refine propext ?_
  unfold vp_in
  rw [ni_clamp ha]
  have h0 : ¬ nI a < 0 := nI_pos ha
  constructor
  · intro h
    exact Nat.not_le.mp fun q => h (Or.inr q)
  · intro h q
    rcases q with q | q
    · exact h0 q
    · omega
theorem ni_m1 : ((-1 : Int32)) = nI 4294967295 := by decide
theorem ni_m2 : ((-2 : Int32)) = nI 4294967294 := by decide
theorem ni_m1_eq {a : Nat} (ha : a < 4294967295) : (nI a = -1) = False := by
  rw [ni_m1, ni_eq (by omega) (by omega)]
  exact propext ⟨fun h => by omega, fun h => h.elim⟩
theorem ni_m2_eq {a : Nat} (ha : a < 4294967294) : (nI a = -2) = False := by
  rw [ni_m2, ni_eq (by omega) (by omega)]
  exact propext ⟨fun h => by omega, fun h => h.elim⟩
theorem ni_and {a b : Nat} : nI a &&& nI b = nI (a &&& b) := by
  apply ni_ext
  show BitVec.ofNat 32 a &&& BitVec.ofNat 32 b = BitVec.ofNat 32 (a &&& b)
  apply BitVec.eq_of_toNat_eq
  simp only [BitVec.toNat_and, BitVec.toNat_ofNat]
  rw [Nat.and_mod_two_pow]
theorem ni_or {a b : Nat} : nI a ||| nI b = nI (a ||| b) := by
  apply ni_ext
  show BitVec.ofNat 32 a ||| BitVec.ofNat 32 b = BitVec.ofNat 32 (a ||| b)
  apply BitVec.eq_of_toNat_eq
  simp only [BitVec.toNat_or, BitVec.toNat_ofNat]
  rw [Nat.or_mod_two_pow]
theorem ni_xor {a b : Nat} : nI a ^^^ nI b = nI (a ^^^ b) := by
  apply ni_ext
  show BitVec.ofNat 32 a ^^^ BitVec.ofNat 32 b = BitVec.ofNat 32 (a ^^^ b)
  apply BitVec.eq_of_toNat_eq
  simp only [BitVec.toNat_xor, BitVec.toNat_ofNat]
  rw [Nat.xor_mod_two_pow]
theorem ni_shk {k : Nat} (hk : k < 32) : (nI k &&& 31) = nI k := by
  have h : (31 : Int32) = nI 31 := rfl
  rw [h, ni_and]
  have : k &&& 31 = k := by
    have h2 := Nat.and_two_pow_sub_one_eq_mod k 5
    rw [show 2 ^ 5 - 1 = 31 from rfl] at h2
    rw [h2]
    omega
  rw [this]
theorem ni_smod : ∀ k, k < 32 → (BitVec.ofNat 32 k).smod 32 = BitVec.ofNat 32 k := by decide +kernel
theorem ni_shl {a k : Nat} (hk : k < 32) : nI a <<< (nI k &&& 31) = nI (a <<< k) := by
  rw [ni_shk hk]
  apply ni_ext
  show BitVec.ofNat 32 a <<< ((BitVec.ofNat 32 k).smod 32) = BitVec.ofNat 32 (a <<< k)
  rw [ni_smod k hk]
  apply BitVec.eq_of_toNat_eq
  rw [BitVec.shiftLeft_eq', BitVec.toNat_shiftLeft]
  simp only [BitVec.toNat_ofNat, Nat.shiftLeft_eq]
  rw [Nat.mod_eq_of_lt (show k < 2 ^ 32 by omega), Nat.mod_mul_mod]
theorem ni_shr {a k : Nat} (ha : a < 2147483648) (hk : k < 32) : nI a >>> (nI k &&& 31) = nI (a >>> k) := by
  rw [ni_shk hk]
  apply ni_ext
  show (BitVec.ofNat 32 a).sshiftRight' ((BitVec.ofNat 32 k).smod 32) = BitVec.ofNat 32 (a >>> k)
  rw [ni_smod k hk]
  have hm : (BitVec.ofNat 32 a).msb = false := by
    rw [BitVec.msb_eq_decide]
    simp only [BitVec.toNat_ofNat, decide_eq_false_iff_not]
    omega
  apply BitVec.eq_of_toNat_eq
  rw [BitVec.sshiftRight', BitVec.sshiftRight_eq_of_msb_false hm, BitVec.toNat_ushiftRight]
  simp only [BitVec.toNat_ofNat]
  rw [Nat.mod_eq_of_lt (show k < 2 ^ 32 by omega), Nat.mod_eq_of_lt (show a < 2 ^ 32 by omega), Nat.mod_eq_of_lt]
  have := Nat.shiftRight_le a k
  omega
theorem ni_div {a b : Nat} (ha : a < 2147483648) (hb : b < 2147483648) : nI a / nI b = nI (a / b) := by
  apply Int32.toInt_inj.mp
  rw [Int32.toInt_div, nI_toInt ha, nI_toInt hb, nI_toInt (show a / b < 2 ^ 31 by have := Nat.div_le_self a b; omega)]
  have h1 : (a : Int).tdiv (b : Int) = ((a / b : Nat) : Int) := by simp
  rw [h1]
  have h2 := Nat.div_le_self a b
  generalize a / b = q at h2 ⊢
  rw [Int.bmod_eq_of_le] <;> omega
theorem am_z0 : (nI 0 = 0 ∨ nI 0 = 1) = True := eq_true (Or.inl rfl)
theorem am_z1 : (nI 1 = 0 ∨ nI 1 = 1) = True := eq_true (Or.inr rfl)
/-- a number of a row of N -/
def isB (v : Int32) (N : Nat) : Prop := ∃ n, n < N ∧ v = nI n
theorem ni_ofInt {v : Int32} (h0 : nI 0 ≤ v) : v = nI v.toInt.toNat ∧ v.toInt.toNat < 2147483648 := by
  have h1 := Int32.le_iff_toInt_le.mp h0
  rw [nI_toInt (by decide)] at h1
  have h2 := Int32.toInt_lt v
  refine ⟨?_, by omega⟩
  apply Int32.toInt_inj.mp
  rw [nI_toInt (show v.toInt.toNat < 2 ^ 31 by omega)]
  omega
theorem isB_lt {v : Int32} {N : Nat} (hN : N < 2147483648) : (nI 0 ≤ v ∧ v < nI N) ↔ isB v N := by
  constructor
  · intro ⟨h0, h1⟩
    obtain ⟨e, hl⟩ := ni_ofInt h0
    rw [e, ni_lt hl hN] at h1
    exact ⟨_, h1, e⟩
  · rintro ⟨n, hn, rfl⟩
    rw [ni_lt (by omega) hN, ni_le (by omega) (by omega)]
    omega
theorem isB_le {v : Int32} {N : Nat} (hN : N < 2147483648) : (nI 0 ≤ v ∧ v ≤ nI N - nI 1) ↔ isB v N := by
  constructor
  · intro ⟨h0, h1⟩
    obtain ⟨e, hl⟩ := ni_ofInt h0
    cases N with
    | zero =>
      exfalso
      have h2 := Int32.le_iff_toInt_le.mp (Int32.le_trans h0 h1)
      exact absurd h2 (by decide)
    | succ N =>
      rw [e, ni_sub (by omega), ni_le hl (by omega)] at h1
      exact ⟨_, by omega, e⟩
  · rintro ⟨n, hn, rfl⟩
    rw [ni_sub (by omega), ni_le (by omega) (by omega), ni_le (by omega) (by omega)]
    omega
theorem isB_c {v : Int32} {N : Nat} (hN : N < 2147483648) : (nI 0 ≤ v ∧ v ≤ nI N) ↔ isB v (N + 1) := by
  constructor
  · intro ⟨h0, h1⟩
    obtain ⟨e, hl⟩ := ni_ofInt h0
    rw [e, ni_le hl hN] at h1
    exact ⟨_, by omega, e⟩
  · rintro ⟨n, hn, rfl⟩
    rw [ni_le (by omega) hN, ni_le (by omega) (by omega)]
    omega
