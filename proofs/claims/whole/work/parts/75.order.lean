/-! ===== part 75: orders of crossing ===== -/
def upO (O : Option (Nat × List Nat)) (n : Nat) (ws : List Nat) : Option (Nat × List Nat) := match O with
  | none => some (n, ws)
  | some x => if n ≤ x.1 then some x else some (n, ws)
def delB (s p : Nat) : Nat := s &&& (1 <<< p ^^^ 4294967295)
noncomputable def toF (lw : Lw) (b all : Nat) : Nat → (Nat → Nat) → Nat → List Nat → Option (Nat × List Nat) → Option (Nat × List Nat)
  | 0, g, _, ws, O => upO O (cntK (aln g all) 20) ws
  | n + 1, g, left, ws, O => bfF (fun p O => if left >>> p &&& 1 = 0 then O else if duG g lw p b = 200 then O else toF lw b all n (stG g lw p b) (delB left p) (ws ++ [p]) O) (g 1) 0 O
theorem del_tb {s p q : Nat} (hq : q < 32) : (delB s p).testBit q = (s.testBit q && decide (q ≠ p)) := by
  unfold delB
  have e : 4294967295 = 2 ^ 32 - 1 := by decide
  rw [Nat.testBit_and, Nat.testBit_xor, e, Nat.testBit_two_pow_sub_one, Nat.one_shiftLeft, Nat.testBit_two_pow]
  by_cases h : q = p
  · subst h; simp [hq]
  · have h' : ¬ p = q := fun z => h z.symm
    simp [hq, h, h']
theorem del_bit {s p q : Nat} (hq : q < 32) : delB s p >>> q &&& 1 = if q = p then 0 else s >>> q &&& 1 := by
  rw [shr1, shr1, del_tb hq]
  by_cases h : q = p
  · subst h; simp
  · simp [h]
theorem del_le (s p : Nat) : delB s p ≤ s := Nat.and_le_left
theorem cnt_del {s p : Nat} (hp : p < 32) (hb : s >>> p &&& 1 = 1) : ∀ m, m ≤ 32 → cntK (delB s p) m + (if p < m then 1 else 0) = cntK s m := by
  intro m
  induction m with
  | zero => intro _; rfl
  | succ m ih =>
    intro hm
    have h := ih (by omega)
    rw [cntK, cntK, del_bit (by omega)]
    by_cases e : m = p
    · subst e
      rw [if_neg (by omega)] at h
      rw [if_pos rfl, if_pos (by omega), hb]
      omega
    · rw [if_neg e]
      by_cases e2 : p < m
      · rw [if_pos e2] at h; rw [if_pos (by omega)]; omega
      · rw [if_neg e2] at h; rw [if_neg (by omega)]; omega
theorem cnt_sub {a s : Nat} (h : ∀ k, a >>> k &&& 1 = 1 → s >>> k &&& 1 = 1) : ∀ m, cntK a m ≤ cntK s m := by
  intro m
  induction m with
  | zero => exact Nat.le_refl _
  | succ m ih =>
    rw [cntK, cntK]
    have h1 := bit01 a m
    have h2 := bit01 s m
    have := h m
    omega
theorem aln_sub (g : Nat → Nat) (s k : Nat) : ∀ m, alnK g s m >>> k &&& 1 = 1 → s >>> k &&& 1 = 1 := by
  intro m
  induction m with
  | zero => intro h; rw [alnK, shr1] at h; simp at h
  | succ m ih =>
    intro h
    rw [alnK] at h
    by_cases z : s >>> m &&& 1 = 1 ∧ alnB g s m
    · rw [cif_pos z] at h
      by_cases e : k = m
      · rw [e]; exact z.1
      · apply ih
        rw [shr1] at h ⊢
        rw [Nat.testBit_or, Nat.one_shiftLeft, Nat.testBit_two_pow] at h
        have : ¬ m = k := fun q => e q.symm
        simpa [this] using h
    · rw [cif_neg z] at h
      exact ih h
theorem alc_le (g : Nat → Nat) (s : Nat) : cntK (aln g s) 20 ≤ cntK s 20 := cnt_sub (fun k => aln_sub g s k (g 1)) 20
theorem aln_lt (g : Nat → Nat) (s : Nat) : ∀ m, alnK g s m < 2 ^ m := by
  intro m
  induction m with
  | zero => exact Nat.zero_lt_one
  | succ m ih =>
    rw [alnK]
    have h1 : alnK g s m < 2 ^ (m + 1) := Nat.lt_trans ih (Nat.pow_lt_pow_right (by omega) (by omega))
    by_cases z : s >>> m &&& 1 = 1 ∧ alnB g s m
    · rw [cif_pos z]
      exact Nat.or_lt_two_pow h1 (by rw [Nat.one_shiftLeft]; exact Nat.pow_lt_pow_right (by omega) (by omega))
    · rw [cif_neg z]; exact h1
theorem aln_256 {g : Nat → Nat} (h : g 1 ≤ 8) (s : Nat) : aln g s < 256 := Nat.lt_of_lt_of_le (aln_lt g s (g 1)) (Nat.pow_le_pow_right (by decide) h)
/-- once all are alone nothing is better -/
theorem to_stop {lw : Lw} {b all : Nat} {x : Nat × List Nat} (hx : x.1 = cntK all 20) : ∀ n (g : Nat → Nat) left ws, toF lw b all n g left ws (some x) = some x := by
  intro n
  induction n with
  | zero =>
    intro g left ws
    rw [toF]
    exact if_pos (by rw [hx]; exact alc_le g all)
  | succ n ih =>
    intro g left ws
    rw [toF]
    apply bf_same
    intro p
    split
    · rfl
    · split
      · rfl
      · exact ih _ _ _
section ORD
variable {E : am_E} {d : Nat} {h : am_H} {Q : Int32 → am_H → Prop} {g g0 : Nat → Nat} {c : Nat → Nat → Nat} {t : Nat}
theorem og_st_ne {lw : Lw} {p b q f : Nat} (hp : p < 8) (hq : q < 8) (hf : f < 16) (hW : WF g t) (hqp : q ≠ p) : og (stG g lw p b) q f = og g q f := by
  unfold stG
  split
  · rw [og_mv hp hq hf, if_neg (fun z => hqp z.1)]
  · rw [og_lv hp hq hf (hW.p hp).2.2.1, if_neg hqp]
/-- those who wait stand together where the bridge is -/
def TI (g : Nat → Nat) (left b pl : Nat) : Prop := tou g b pl ∧ ∀ p, p < g 1 → left >>> p &&& 1 = 1 → og g p 0 = pl
theorem ti_st {lw : Lw} {p b left pl : Nat} (hp : p < g 1) (hb : b < 12) (hW : WF g t) (h2 : duG g lw p b ≠ 200) (h : TI g left b pl) : TI (stG g lw p b) (delB left p) b pl := by
  have w1 := hW.1.2.1
  have hx := fun (j : Nat) (hj : j < 90) => st_off (lw := lw) (b := b) (j := j) (show p < 8 by omega) hb hW h2 (Or.inl hj)
  refine ⟨?_, fun q hq hbit => ?_⟩
  · have := h.1
    unfold tou at *
    rw [hx _ (by omega), hx _ (by omega)]
    exact this
  · rw [hx 1 (by omega)] at hq
    rw [del_bit (by omega)] at hbit
    by_cases e : q = p
    · rw [if_pos e] at hbit; omega
    · rw [if_neg e] at hbit
      rw [og_st_ne (by omega) (by omega) (by omega) hW e]
      exact h.2 q hq hbit
theorem ni_m1_lt {a : Nat} (ha : a < 2147483648) : ((-1 : Int32) < nI a) = True := by
  apply eq_true
  have h0 : (0 : Int32) ≤ nI a := Int32.not_lt.mp (nI_pos ha)
  exact Int32.lt_of_lt_of_le (by decide) h0
theorem ni_le_m1 {a : Nat} (ha : a < 2147483648) : (nI a ≤ (-1 : Int32)) = False := by
  apply eq_false
  intro z
  have h1 := ni_m1_lt ha
  exact Int32.not_lt.mpr z (of_eq_true h1)
end ORD
def okOr (g : Nat → Nat) (s b : Nat) : Prop := ∃ pl, pl < 8 ∧ TI g s b pl
def okOS (g : Nat → Nat) (vs vb vw : Int32) : Prop := ∃ s b, vs = nI s ∧ vb = nI b ∧ 0 < s ∧ s < 2 ^ g 1 ∧ b < g 2 ∧ cntK s 20 ≤ 6 ∧ (vw = nI 0 ∨ ∃ k, k < cntK s 20 ∧ vw = nI (10 + k)) ∧ okOr g s b
noncomputable def sp_order (g : Nat → Nat) (lw : Lw) (vs vb vw : Int32) : Int32 := cif (okOS g vs vb vw) (match toF lw vb.toNatClampNeg vs.toNatClampNeg (cntK vs.toNatClampNeg 20) g vs.toNatClampNeg [] none with
  | none => -1
  | some x => if vw = nI 0 then nI x.1 else nI (x.2.getD (vw.toNatClampNeg - 10) 0)) (-1)
