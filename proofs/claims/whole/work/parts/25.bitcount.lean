/-! ===== part 25: Integer.bitCount ===== -/
theorem ni_ushr {a k : Nat} (ha : a < 4294967296) (hk : k < 32) : am_ushr (nI a) (nI k) = nI (a >>> k) := by
  unfold am_ushr
  apply ni_ext
  have h1 : ∀ k, k < 32 → ((nI k).toUInt32 &&& Int32.toUInt32 31).toBitVec % 32 = BitVec.ofNat 32 k := by decide +kernel
  show (nI a).toBitVec >>> (((nI k).toUInt32 &&& Int32.toUInt32 31).toBitVec % 32) = BitVec.ofNat 32 (a >>> k)
  rw [h1 k hk, ni_bv]
  apply BitVec.eq_of_toNat_eq
  rw [BitVec.ushiftRight_eq', BitVec.toNat_ushiftRight]
  simp only [BitVec.toNat_ofNat]
  rw [Nat.mod_eq_of_lt (show k < 2 ^ 32 by omega), Nat.mod_eq_of_lt (show a < 2 ^ 32 by omega), Nat.mod_eq_of_lt]
  have := Nat.shiftRight_le a k
  omega
theorem and8 {x m : Nat} (y n : Nat) (hx : x < 256) (hm : m < 256) : (x + 256 * y) &&& (m + 256 * n) = (x &&& m) + 256 * (y &&& n) := by
  apply Nat.eq_of_testBit_eq
  intro j
  have hxm : x &&& m < 2 ^ 8 := Nat.lt_of_le_of_lt Nat.and_le_left hx
  rw [Nat.testBit_and, show x + 256 * y = 2 ^ 8 * y + x by omega, show m + 256 * n = 2 ^ 8 * n + m by omega, show (x &&& m) + 256 * (y &&& n) = 2 ^ 8 * (y &&& n) + (x &&& m) by omega,
    Nat.testBit_two_pow_mul_add y hx, Nat.testBit_two_pow_mul_add n hm, Nat.testBit_two_pow_mul_add (y &&& n) hxm]
  by_cases hj : j < 8
  · simp [hj]
  · simp [hj]
theorem and8' {x m : Nat} (n : Nat) (hx : x < 256) (hm : m < 256) : x &&& (m + 256 * n) = x &&& m := by
  have h := and8 0 n hx hm
  rw [Nat.mul_zero, Nat.add_zero, Nat.zero_and, Nat.mul_zero, Nat.add_zero] at h
  exact h
def pc8 (x : Nat) : Nat := x % 2 + x / 2 % 2 + x / 4 % 2 + x / 8 % 2 + x / 16 % 2 + x / 32 % 2 + x / 64 % 2 + x / 128 % 2
def sw1 (b : Nat) : Nat := b - (b / 2 &&& 85)
def sw2 (b : Nat) : Nat := (b &&& 51) + (b / 4 &&& 51)
def sw3 (b : Nat) : Nat := (b + b / 16) &&& 15
theorem sw_a : ∀ x, x < 256 → ∀ e, e < 2 → (x / 2 + 128 * e) &&& 85 = x / 2 &&& 85 := by decide +kernel
theorem sw_b : ∀ x, x < 256 → ∀ e, e < 4 → (x / 4 + 64 * e) &&& 51 = x / 4 &&& 51 := by decide +kernel
theorem sw_c : ∀ x, x < 69 → ∀ e, e < 5 → (x + x / 16 + 16 * e) &&& 15 = (x + x / 16) &&& 15 := by decide +kernel
theorem sw_d : ∀ x, x < 256 → x / 2 &&& 85 ≤ x ∧ sw1 x < 256 ∧ sw2 (sw1 x) < 69 ∧ sw2 (sw1 x) % 16 < 5 ∧ sw3 (sw2 (sw1 x)) = pc8 x ∧ pc8 x ≤ 8 := by decide +kernel
def swar (s : Nat) : Nat :=
  let i1 := s - (s >>> 1 &&& 1431655765)
  let i2 := (i1 &&& 858993459) + (i1 >>> 2 &&& 858993459)
  let i3 := (i2 + i2 >>> 4) &&& 252645135
  let i4 := i3 + i3 >>> 8
  let i5 := i4 + i4 >>> 16
  i5 &&& 63
theorem sw_1 (x0 x1 x2 : Nat) (h0 : x0 < 256) (h1 : x1 < 256) (h2 : x2 < 256) : (x0 + 256 * (x1 + 256 * x2)) - ((x0 + 256 * (x1 + 256 * x2)) >>> 1 &&& 1431655765) = sw1 x0 + 256 * (sw1 x1 + 256 * sw1 x2) := by
  rw [Nat.shiftRight_eq_div_pow, show (x0 + 256 * (x1 + 256 * x2)) / 2 ^ 1 = (x0 / 2 + 128 * (x1 % 2)) + 256 * ((x1 / 2 + 128 * (x2 % 2)) + 256 * (x2 / 2)) by omega, show 1431655765 = 85 + 256 * (85 + 256 * (85 + 256 * 85)) from rfl,
    and8 _ _ (by omega) (by omega), and8 _ _ (by omega) (by omega), sw_a x0 h0 _ (by omega), sw_a x1 h1 _ (by omega)]
  rw [show x2 / 2 = x2 / 2 + 256 * 0 by omega, and8 _ _ (by omega) (by omega), Nat.zero_and]
  have a0 := (sw_d x0 h0).1
  have a1 := (sw_d x1 h1).1
  have a2 := (sw_d x2 h2).1
  unfold sw1
  omega
theorem sw_2 (x0 x1 x2 : Nat) (h0 : x0 < 256) (h1 : x1 < 256) (h2 : x2 < 256) : ((x0 + 256 * (x1 + 256 * x2)) &&& 858993459) + ((x0 + 256 * (x1 + 256 * x2)) >>> 2 &&& 858993459) = sw2 x0 + 256 * (sw2 x1 + 256 * sw2 x2) := by
  rw [Nat.shiftRight_eq_div_pow, show (x0 + 256 * (x1 + 256 * x2)) / 2 ^ 2 = (x0 / 4 + 64 * (x1 % 4)) + 256 * ((x1 / 4 + 64 * (x2 % 4)) + 256 * (x2 / 4)) by omega, show 858993459 = 51 + 256 * (51 + 256 * (51 + 256 * 51)) from rfl,
    and8 _ _ (by omega) (by omega), and8 _ _ (by omega) (by omega), and8 _ _ (by omega) (by omega), and8 _ _ (by omega) (by omega), sw_b x0 h0 _ (by omega), sw_b x1 h1 _ (by omega)]
  rw [and8' _ h2 (by omega), and8' _ (show x2 / 4 < 256 by omega) (by omega)]
  unfold sw2
  omega
theorem sw_3 (x0 x1 x2 : Nat) (h0 : x0 < 69) (h1 : x1 < 69) (h2 : x2 < 69) (e1 : x1 % 16 < 5) (e2 : x2 % 16 < 5) : ((x0 + 256 * (x1 + 256 * x2)) + (x0 + 256 * (x1 + 256 * x2)) >>> 4) &&& 252645135 = sw3 x0 + 256 * (sw3 x1 + 256 * sw3 x2) := by
  rw [Nat.shiftRight_eq_div_pow, show (x0 + 256 * (x1 + 256 * x2)) + (x0 + 256 * (x1 + 256 * x2)) / 2 ^ 4 = (x0 + x0 / 16 + 16 * (x1 % 16)) + 256 * ((x1 + x1 / 16 + 16 * (x2 % 16)) + 256 * (x2 + x2 / 16)) by omega, show 252645135 = 15 + 256 * (15 + 256 * (15 + 256 * 15)) from rfl,
    and8 _ _ (by omega) (by omega), and8 _ _ (by omega) (by omega), sw_c x0 h0 _ e1, sw_c x1 h1 _ e2]
  rw [show x2 + x2 / 16 = (x2 + x2 / 16) + 256 * 0 by omega, and8 _ _ (by omega) (by omega), Nat.zero_and]
  unfold sw3
  omega
theorem swar_eq (x0 x1 x2 : Nat) (h0 : x0 < 256) (h1 : x1 < 256) (h2 : x2 < 256) : swar (x0 + 256 * (x1 + 256 * x2)) = pc8 x0 + pc8 x1 + pc8 x2 := by
  obtain ⟨-, a1, a2, a3, a4, a5⟩ := sw_d x0 h0
  obtain ⟨-, b1, b2, b3, b4, b5⟩ := sw_d x1 h1
  obtain ⟨-, c1, c2, c3, c4, c5⟩ := sw_d x2 h2
  unfold swar
  simp only []
  rw [sw_1 x0 x1 x2 h0 h1 h2, sw_2 _ _ _ a1 b1 c1, sw_3 _ _ _ a2 b2 c2 b3 c3, a4, b4, c4]
  simp only [Nat.shiftRight_eq_div_pow]
  generalize pc8 x0 = p0 at *
  generalize pc8 x1 = p1 at *
  generalize pc8 x2 = p2 at *
  have q1 : (p0 + 256 * (p1 + 256 * p2)) / 2 ^ 8 = p1 + 256 * p2 := by omega
  rw [q1]
  have q2 : (p0 + 256 * (p1 + 256 * p2) + (p1 + 256 * p2)) / 2 ^ 16 = p2 := by omega
  rw [q2]
  have h6 := Nat.and_two_pow_sub_one_eq_mod (p0 + 256 * (p1 + 256 * p2) + (p1 + 256 * p2) + p2) 6
  rw [show 2 ^ 6 - 1 = 63 from rfl] at h6
  rw [h6]
  omega
theorem bit_lo (x y j : Nat) (hx : x < 256) (hj : j < 8) : (x + 256 * y) >>> j &&& 1 = x >>> j &&& 1 := by
  rw [shr1, shr1, show x + 256 * y = 2 ^ 8 * y + x by omega, Nat.testBit_two_pow_mul_add y hx, if_pos hj]
theorem bit_hi (x y j : Nat) (hx : x < 256) : (x + 256 * y) >>> (8 + j) &&& 1 = y >>> j &&& 1 := by
  rw [shr1, shr1, show x + 256 * y = 2 ^ 8 * y + x by omega, Nat.testBit_two_pow_mul_add y hx]
  simp only [if_neg (show ¬ 8 + j < 8 by omega), show 8 + j - 8 = j by omega]
theorem cnt_lo (x y : Nat) (hx : x < 256) : ∀ k, k ≤ 8 → cntK (x + 256 * y) k = cntK x k := by
  intro k
  induction k with
  | zero => intro _; rfl
  | succ k ih =>
    intro hk
    simp only [cntK]
    rw [ih (by omega), bit_lo x y k hx (by omega)]
theorem cnt_hi (x y : Nat) (hx : x < 256) : ∀ k, cntK (x + 256 * y) (8 + k) = cntK x 8 + cntK y k := by
  intro k
  induction k with
  | zero => exact cnt_lo x y hx 8 (by omega)
  | succ k ih =>
    show cntK (x + 256 * y) (8 + k) + ((x + 256 * y) >>> (8 + k) &&& 1) = cntK x 8 + (cntK y k + (y >>> k &&& 1))
    rw [ih, bit_hi x y k hx]
    omega
theorem cnt_8 : ∀ x, x < 256 → cntK x 8 = pc8 x := by decide +kernel
theorem cnt_4 : ∀ x, x < 16 → cntK x 4 = pc8 x := by decide +kernel
theorem cnt_swar {s : Nat} (hs : s < 1048576) : swar s = cntK s 20 := by
  have e : s = s % 256 + 256 * (s / 256 % 256 + 256 * (s / 65536)) := by omega
  have hsw := swar_eq (s % 256) (s / 256 % 256) (s / 65536) (by omega) (by omega) (by omega)
  have hc := cnt_hi (s % 256) (s / 256 % 256 + 256 * (s / 65536)) (by omega) 12
  have hc2 := cnt_hi (s / 256 % 256) (s / 65536) (by omega) 4
  rw [← e] at hsw hc
  rw [hsw, show 20 = 8 + 12 from rfl, hc, show 12 = 8 + 4 from rfl, hc2, cnt_8 _ (by omega), cnt_8 _ (by omega), cnt_4 _ (by omega)]
  omega
section BC
variable {E : am_E} {d : Nat} {h : am_H} {Q : Int32 → am_H → Prop}
theorem c_bitCount {s : Nat} (hs : s < 1048576) (hq : Q (nI (cntK s 20)) h) : am_C tT E d mJ6_bitCount_0f7a4 [.inl (nI s)] h Q := by
  refine am_C.of (by decide) (Nat.le_of_ble_eq_true rfl) ?_
  show am_R tT E _ mJ6_bitCount_0f7a4 _ 0 [some (.inl (nI s))] [] h
  refine am_goS gJ6_bitCount_0f7a4 [] 400 ?_
  simp only [am_eqs, am_eqk, am_eqv, lJ6_bitCount_0f7a4_0, lJ6_bitCount_0f7a4_1, fx_class, NH_at, NH_put, ↓reduceIte, List.mem_cons, List.not_mem_nil, or_false, or_self, false_or, true_and, and_true, Nat.reduceEqDiff, reduceCtorEq, List.length_cons, List.length_nil, Nat.reduceAdd, Nat.reduceLeDiff, Nat.reduceSub, Nat.reduceLT, Nat.zero_le, Nat.zero_add, forall_const, not_true_eq_false, not_false_eq_true, false_implies, true_implies, implies_true, Nat.zero_lt_succ, am_z0, am_z1]
  have hle : s >>> 1 &&& 1431655765 ≤ s := Nat.le_trans Nat.and_le_left (Nat.shiftRight_le s 1)
  have e1 : nI s - (am_ushr (nI s) (nI 1) &&& nI 1431655765) = nI (s - (s >>> 1 &&& 1431655765)) := by rw [ni_ushr (by omega) (by omega), ni_and, ni_sub hle]
  rw [← cnt_swar hs] at hq
  unfold swar at hq
  simp only [] at hq
  rw [e1]
  have b1 : s - (s >>> 1 &&& 1431655765) < 1048576 := by omega
  generalize s - (s >>> 1 &&& 1431655765) = i1 at hq b1 ⊢
  have e2 : (nI i1 &&& nI 858993459) + (am_ushr (nI i1) (nI 2) &&& nI 858993459) = nI ((i1 &&& 858993459) + (i1 >>> 2 &&& 858993459)) := by rw [ni_and, ni_ushr (by omega) (by omega), ni_and, ni_add]
  rw [e2]
  have b2 : (i1 &&& 858993459) + (i1 >>> 2 &&& 858993459) < 2097152 := by
    have z1 := Nat.and_le_left (n := i1) (m := 858993459)
    have z2 := Nat.and_le_left (n := i1 >>> 2) (m := 858993459)
    have z3 := Nat.shiftRight_le i1 2
    omega
  generalize (i1 &&& 858993459) + (i1 >>> 2 &&& 858993459) = i2 at hq b2 ⊢
  have e3 : nI i2 + am_ushr (nI i2) (nI 4) &&& nI 252645135 = nI ((i2 + i2 >>> 4) &&& 252645135) := by rw [ni_ushr (by omega) (by omega), ni_add, ni_and]
  rw [e3]
  have b3 : (i2 + i2 >>> 4) &&& 252645135 < 8388608 := by
    have z1 := Nat.and_le_left (n := i2 + i2 >>> 4) (m := 252645135)
    have z3 := Nat.shiftRight_le i2 4
    omega
  generalize (i2 + i2 >>> 4) &&& 252645135 = i3 at hq b3 ⊢
  have e4 : nI i3 + am_ushr (nI i3) (nI 8) = nI (i3 + i3 >>> 8) := by rw [ni_ushr (by omega) (by omega), ni_add]
  rw [e4]
  have b4 : i3 + i3 >>> 8 < 16777216 := by
    have z3 := Nat.shiftRight_le i3 8
    omega
  generalize i3 + i3 >>> 8 = i4 at hq b4 ⊢
  rw [ni_ushr (by omega) (by omega), ni_add, ni_and]
  exact hq
end BC
