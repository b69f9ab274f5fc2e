/-! ===== part 69: the best way ===== -/
def upB (B : Option (Nat × List Nat)) (lf : Nat) (ws : List Nat) : Option (Nat × List Nat) := match B with
  | none => some (lf, ws)
  | some x => if x.1 < lf ∨ (lf = x.1 ∧ x.2.length ≤ ws.length) then some x else some (lf, ws)
def bfF {α : Type} (F : Nat → α → α) : Nat → Nat → α → α
  | 0, _, B => B
  | m + 1, b, B => bfF F m (b + 1) (F b B)
noncomputable def skF (lw : Lw) (p to : Nat) : Nat → (Nat → Nat) → Nat → List Nat → Nat → Option (Nat × List Nat) → Option (Nat × List Nat)
  | 0, _, _, _, _, B => B
  | n + 1, g, been, ws, lf, B => if og g p 0 = to then upB B lf ws else
    bfF (fun b B => cif (tou g b (og g p 0) ∧ been >>> oth g b (og g p 0) &&& 1 = 0) (if duG g lw p b = 200 then B else skF lw p to n (stG g lw p b) (been ||| 1 <<< oth g b (og g p 0)) (ws ++ [b]) (lf + if duG g lw p b = 100 then 0 else 1) B) B) (g 2) 0 B
theorem cnt_or {s k : Nat} (hz : s >>> k &&& 1 = 0) : ∀ m, cntK (s ||| 1 <<< k) m = cntK s m + if k < m then 1 else 0 := by
  intro m
  induction m with
  | zero => rfl
  | succ m ih =>
    rw [cntK, cntK, ih]
    have : (s ||| 1 <<< k) >>> m &&& 1 = if m = k then 1 else s >>> m &&& 1 := by
      rw [shr1, shr1, Nat.testBit_or, Nat.one_shiftLeft, Nat.testBit_two_pow]
      by_cases e : m = k
      · subst e; simp
      · simp [e, Ne.symm e]
    rw [this]
    by_cases e : m = k
    · subst e
      rw [if_pos rfl, if_neg (by omega), if_pos (by omega), hz]
    · rw [if_neg e]
      by_cases e2 : k < m
      · rw [if_pos e2, if_pos (by omega)]; omega
      · rw [if_neg e2, if_neg (by omega)]; omega
theorem cnt_full {s : Nat} : ∀ m, cntK s m = m → ∀ k, k < m → s >>> k &&& 1 = 1 := by
  intro m
  induction m with
  | zero => intro _ k hk; omega
  | succ m ih =>
    intro h k hk
    rw [cntK] at h
    have h1 := cnt_le s m
    have h2 : s >>> m &&& 1 ≤ 1 := Nat.and_le_right
    by_cases e : k = m
    · subst e; omega
    · exact ih (by omega) k (by omega)
theorem or_256 {s k : Nat} (hs : s < 256) (hk : k < 8) : s ||| 1 <<< k < 256 := by
  have h : 1 <<< k < 2 ^ 8 := by rw [Nat.one_shiftLeft]; exact Nat.pow_lt_pow_right (by omega) hk
  exact Nat.or_lt_two_pow (n := 8) hs h
/-- a way that is dearer from its start brings nothing -/
theorem bf_same {α : Type} {F : Nat → α → α} {B : α} (h : ∀ b, F b B = B) : ∀ m b, bfF F m b B = B := by
  intro m
  induction m with
  | zero => intro b; rfl
  | succ m ih => intro b; rw [bfF, h b]; exact ih (b + 1)
theorem sk_prune {lw : Lw} {p to : Nat} {x : Nat × List Nat} : ∀ n (g : Nat → Nat) been ws lf, x.1 < lf → skF lw p to n g been ws lf (some x) = some x := by
  intro n
  induction n with
  | zero => intro g been ws lf _; rfl
  | succ n ih =>
    intro g been ws lf hl
    rw [skF]
    split
    · exact if_pos (Or.inl hl)
    · apply bf_same
      intro b
      by_cases z : tou g b (og g p 0) ∧ been >>> oth g b (og g p 0) &&& 1 = 0
      · rw [cif_pos z]
        split
        · rfl
        · exact ih _ _ _ _ (by omega)
      · rw [cif_neg z]
noncomputable def bstG (g : Nat → Nat) (lw : Lw) (p to : Nat) : Option (Nat × List Nat) := skF lw p to 8 g (1 <<< og g p 0) [] 0 none
def okBe (g : Nat → Nat) (vp vt : Int32) : Prop := isB vp (g 1) ∧ isB vt 8 ∧ og g vp.toNatClampNeg 0 ≠ vt.toNatClampNeg
noncomputable def sp_best (g : Nat → Nat) (lw : Lw) (vp vt vw : Int32) : Int32 := cif (okBe g vp vt) (match bstG g lw vp.toNatClampNeg vt.toNatClampNeg with
  | none => -1
  | some x => if vw = nI 0 then nI x.1 else if vw = nI 1 then nI x.2.length else cif (∃ k, k < x.2.length ∧ vw = nI (10 + k)) (nI (x.2.getD (vw.toNatClampNeg - 10) 0)) (-1)) (-1)
def BR (h : am_H) (B : Option (Nat × List Nat)) : Prop := match B with
  | none => h 63 25 = -1
  | some x => h 63 25 = nI x.1 ∧ h 63 26 = nI x.2.length ∧ WA (h 74) x.2 0 ∧ x.1 ≤ 8 ∧ 1 ≤ x.2.length ∧ x.2.length ≤ 7
/-- what a search leaves alone -/
def FS (h h' : am_H) (n : Nat) : Prop := (∀ o, o ≠ 63 → o ≠ 67 → o ≠ 71 → o ≠ 72 → o ≠ 73 → o ≠ 74 → h' o = h o) ∧ (∀ k, k ≠ 25 → k ≠ 26 → h' 63 k = h 63 k) ∧ ∀ j, j < 370 * n → h' 67 j = h 67 j
theorem FS.refl (h : am_H) (n : Nat) : FS h h n := ⟨fun _ _ _ _ _ _ _ => rfl, fun _ _ _ => rfl, fun _ _ => rfl⟩
theorem FS.trans {h h1 h2 : am_H} {n : Nat} (a : FS h h1 n) (b : FS h1 h2 n) : FS h h2 n := ⟨fun o x1 x2 x3 x4 x5 x6 => (b.1 o x1 x2 x3 x4 x5 x6).trans (a.1 o x1 x2 x3 x4 x5 x6), fun k x y => (b.2.1 k x y).trans (a.2.1 k x y), fun j hj => (b.2.2 j hj).trans (a.2.2 j hj)⟩
theorem FS.mono {h h1 : am_H} {n m : Nat} (a : FS h h1 n) (hm : m ≤ n) : FS h h1 m := ⟨a.1, a.2.1, fun j hj => a.2.2 j (by omega)⟩
section RBEST
variable {E : am_E} {d : Nat} {h : am_H} {Q : Int32 → am_H → Prop} {g g0 : Nat → Nat} {c : Nat → Nat → Nat} {t : Nat}
theorem res_st {lw : Lw} {p b : Nat} (hp : p < 8) (hb : b < 12) (hW : WF g t) (h2 : duG g lw p b ≠ 200) : resM (stG g lw p b) g = g := by
  have w0 := hW.1.1
  have hpe := hW.p hp
  unfold stG
  split
  · exact res_mv hp
  · rename_i hd
    have ho := duG_o hpe.2.2.1 hd h2
    exact res_lv hp hb hpe.2.2.1 (by have := hpe.2.2.2.2.2.1 _ ho; omega)
theorem WA_cp {A A' : Nat → Int32} : ∀ (ch : List Nat) (k : Nat), (∀ i, i < ch.length → A' (k + i) = A (k + i)) → WA A ch k → WA A' ch k
  | [], _, _, _ => trivial
  | m :: r, k, hl, h => by
    simp only [List.length_cons] at hl
    refine ⟨?_, WA_cp r (k + 1) (fun i hi => ?_) h.2⟩
    · have := hl 0 (by omega)
      rw [Nat.add_zero] at this
      rw [this]; exact h.1
    · have := hl (i + 1) (by omega)
      rw [show k + 1 + i = k + (i + 1) by omega]
      exact this
end RBEST
