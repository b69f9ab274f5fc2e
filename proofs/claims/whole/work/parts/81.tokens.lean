/-! ===== part 81: the tape's tokens ===== -/
def isL (x : Nat) : Prop := (97 ≤ x ∧ x ≤ 122) ∨ (65 ≤ x ∧ x ≤ 90)
def isD (x : Nat) : Prop := 48 ≤ x ∧ x ≤ 57
def isW (x : Nat) : Prop := x = 32 ∨ x = 10
def isS (x : Nat) : Prop := x = 59 ∨ x = 43 ∨ x = 45 ∨ x = 42 ∨ x = 47 ∨ x = 40 ∨ x = 41 ∨ x = 60 ∨ x = 61 ∨ x = 62
noncomputable def runE (P : Nat → Prop) (T : Nat → Nat) : Nat → Nat → Nat
  | 0, a => a
  | k + 1, a => cif (P (T a)) (runE P T k (a + 1)) a
noncomputable def stE (P : Nat → Prop) (T : Nat → Nat) (n a : Nat) : Nat := runE P T (n - a) a
theorem stE_yes {P : Nat → Prop} {T : Nat → Nat} {n a : Nat} (ha : a < n) (hp : P (T a)) : stE P T n a = stE P T n (a + 1) := by
  unfold stE
  rw [show n - a = (n - (a + 1)) + 1 by omega, runE, cif_pos hp]
theorem stE_no {P : Nat → Prop} {T : Nat → Nat} {n a : Nat} (hp : a < n → ¬ P (T a)) : stE P T n a = a := by
  unfold stE
  by_cases ha : a < n
  · rw [show n - a = (n - (a + 1)) + 1 by omega, runE, cif_neg (hp ha)]
  · rw [show n - a = 0 by omega, runE]
theorem stE_b {P : Nat → Prop} {T : Nat → Nat} {n : Nat} : ∀ k a, a + k = n → a ≤ stE P T n a ∧ stE P T n a ≤ n ∧ (∀ i, a ≤ i → i < stE P T n a → P (T i)) ∧ (stE P T n a < n → ¬ P (T (stE P T n a))) := by
  intro k
  induction k with
  | zero =>
    intro a ha
    rw [stE_no (fun z => absurd z (by omega))]
    exact ⟨Nat.le_refl _, by omega, fun i h1 h2 => absurd h1 (by omega), fun z => absurd z (by omega)⟩
  | succ k ih =>
    intro a ha
    by_cases hp : P (T a)
    · rw [stE_yes (by omega) hp]
      obtain ⟨h1, h2, h3, h4⟩ := ih (a + 1) (by omega)
      refine ⟨by omega, h2, fun i hi1 hi2 => ?_, h4⟩
      by_cases e : i = a
      · rw [e]; exact hp
      · exact h3 i (by omega) hi2
    · rw [stE_no (fun _ => hp)]
      exact ⟨Nat.le_refl _, by omega, fun i h1 h2 => absurd h1 (by omega), fun _ => hp⟩
theorem stE_le {P : Nat → Prop} {T : Nat → Nat} {n a : Nat} (ha : a ≤ n) : a ≤ stE P T n a ∧ stE P T n a ≤ n ∧ (∀ i, a ≤ i → i < stE P T n a → P (T i)) ∧ (stE P T n a < n → ¬ P (T (stE P T n a))) := stE_b (n - a) a (by omega)
/-- the words, by the class's numbers -/
def wl (w : Nat) : List Nat := [[108, 101, 97, 118, 101], [107, 101, 101, 112], [119, 104, 101, 110], [111, 114], [97, 110, 100], [110, 111, 116], [107, 105, 110, 100], [108, 101, 116, 116, 101, 114, 115], [110, 97, 109, 101, 115], [111, 114, 100, 101, 114], [108, 105, 107, 101], [98, 114, 105, 100, 103, 101], [100, 97, 121], [107, 101, 112, 116]].getD w []
def bts (T : Nat → Nat) (a : Nat) : Nat → List Nat
  | 0 => []
  | k + 1 => T a :: bts T (a + 1) k
theorem bts_len (T : Nat → Nat) : ∀ k a, (bts T a k).length = k
  | 0, _ => rfl
  | k + 1, a => congrArg (· + 1) (bts_len T k (a + 1))
def tEND : Nat := 4294967295
def tBAD : Nat := 4294967294
def wdF (l : List Nat) : Nat → Nat → Nat
  | 0, _ => tBAD
  | m + 1, w => if l = wl w then 10000 + w else wdF l m (w + 1)
def wdC (l : List Nat) : Nat := wdF l 14 0
theorem wl_inj : ∀ w, w < 14 → ∀ v, v < 14 → wl w = wl v → w = v := by decide
theorem wdF_no (l : List Nat) : ∀ m w, (∀ v, w ≤ v → v < w + m → l ≠ wl v) → wdF l m w = tBAD := by
  intro m
  induction m with
  | zero => intro w _; rfl
  | succ m ih =>
    intro w h
    rw [wdF, if_neg (h w (Nat.le_refl _) (by omega))]
    exact ih (w + 1) (fun v h1 h2 => h v (by omega) (by omega))
theorem wdF_of {l : List Nat} {v : Nat} (hv : v < 14) (hl : l = wl v) : ∀ m w, w ≤ v → v < w + m → w + m ≤ 14 → wdF l m w = 10000 + v := by
  intro m
  induction m with
  | zero => intro w h1 h2; omega
  | succ m ih =>
    intro w h1 h2 h3
    rw [wdF]
    by_cases e : l = wl w
    · rw [if_pos e]
      have := wl_inj w (by omega) v hv (by rw [← e, hl])
      rw [this]
    · rw [if_neg e]
      refine ih (w + 1) ?_ (by omega) (by omega)
      by_cases q : w = v
      · rw [q] at e; exact absurd hl e
      · omega
theorem wdC_no {l : List Nat} (h : ∀ v, v < 14 → l ≠ wl v) : wdC l = tBAD := wdF_no l 14 0 (fun v _ h2 => h v (by omega))
theorem wdC_of {l : List Nat} {v : Nat} (hv : v < 14) (hl : l = wl v) : wdC l = 10000 + v := wdF_of hv hl 14 0 (by omega) (by omega) (by omega)
theorem wdC_cases (l : List Nat) : (∃ v, v < 14 ∧ l = wl v ∧ wdC l = 10000 + v) ∨ ((∀ v, v < 14 → l ≠ wl v) ∧ wdC l = tBAD) := by
  by_cases h : ∃ v, v < 14 ∧ l = wl v
  · obtain ⟨v, hv, hl⟩ := h
    exact Or.inl ⟨v, hv, hl, wdC_of hv hl⟩
  · have h' : ∀ v, v < 14 → l ≠ wl v := fun v hv e => h ⟨v, hv, e⟩
    exact Or.inr ⟨h', wdC_no h'⟩
def nuV (T : Nat → Nat) (a : Nat) : Nat → Nat
  | 0 => 0
  | k + 1 => nuV T a k * 10 + (T (a + k) - 48)
theorem nuV_lt {T : Nat → Nat} {a : Nat} : ∀ k, (∀ i, i < k → T (a + i) ≤ 57) → nuV T a k < 10 ^ k := by
  intro k
  induction k with
  | zero => intro _; exact Nat.zero_lt_one
  | succ k ih =>
    intro h
    have h1 := ih (fun i hi => h i (by omega))
    have h2 := h k (by omega)
    rw [nuV, Nat.pow_succ]
    omega
noncomputable def tkC (T : Nat → Nat) (n a : Nat) : Nat := if n ≤ a then tEND else cif (isL (T a)) (wdC (bts T a (stE isL T n a - a))) (cif (isD (T a)) (if 4 < stE isD T n a - a then tBAD else nuV T a (stE isD T n a - a)) (cif (isS (T a)) (20000 + T a) tBAD))
noncomputable def enC (T : Nat → Nat) (n a : Nat) : Nat := if n ≤ a then n else cif (isL (T a)) (stE isL T n a) (cif (isD (T a)) (stE isD T n a) (a + 1))
noncomputable def POS (T : Nat → Nat) (n : Nat) : Nat → Nat
  | 0 => stE isW T n 0
  | i + 1 => stE isW T n (enC T n (POS T n i))
noncomputable def TK (T : Nat → Nat) (n i : Nat) : Nat := tkC T n (POS T n i)
theorem enC_b {T : Nat → Nat} {n a : Nat} (ha : a ≤ n) : (a < n → a < enC T n a) ∧ enC T n a ≤ n := by
  unfold enC
  by_cases h : n ≤ a
  · rw [if_pos h]; exact ⟨fun z => absurd z (by omega), Nat.le_refl _⟩
  · rw [if_neg h]
    by_cases hl : isL (T a)
    · rw [cif_pos hl, stE_yes (by omega) hl]
      have := stE_le (P := isL) (T := T) (n := n) (a := a + 1) (by omega)
      exact ⟨fun _ => by omega, this.2.1⟩
    · rw [cif_neg hl]
      by_cases hd : isD (T a)
      · rw [cif_pos hd, stE_yes (by omega) hd]
        have := stE_le (P := isD) (T := T) (n := n) (a := a + 1) (by omega)
        exact ⟨fun _ => by omega, this.2.1⟩
      · rw [cif_neg hd]; omega
theorem POS_b {T : Nat → Nat} {n : Nat} : ∀ i, POS T n i ≤ n ∧ (POS T n i < n → POS T n i < POS T n (i + 1)) ∧ (POS T n i < n → i ≤ POS T n i) ∧ (POS T n i < n → ¬ isW (T (POS T n i))) := by
  intro i
  induction i with
  | zero =>
    have h0 := stE_le (P := isW) (T := T) (n := n) (a := 0) (by omega)
    have h1 := enC_b (T := T) (n := n) (a := POS T n 0) h0.2.1
    have h2 := stE_le (P := isW) (T := T) (n := n) (a := enC T n (POS T n 0)) h1.2
    refine ⟨h0.2.1, fun z => ?_, fun _ => Nat.zero_le _, h0.2.2.2⟩
    have := h1.1 z
    show POS T n 0 < stE isW T n (enC T n (POS T n 0))
    omega
  | succ i ih =>
    have h1 := enC_b (T := T) (n := n) (a := POS T n i) ih.1
    have h2 := stE_le (P := isW) (T := T) (n := n) (a := enC T n (POS T n i)) h1.2
    have h3 : POS T n (i + 1) ≤ n := h2.2.1
    have h4 := enC_b (T := T) (n := n) (a := POS T n (i + 1)) h3
    have h5 := stE_le (P := isW) (T := T) (n := n) (a := enC T n (POS T n (i + 1))) h4.2
    refine ⟨h3, fun z => ?_, fun z => ?_, h2.2.2.2⟩
    · have := h4.1 z
      show POS T n (i + 1) < stE isW T n (enC T n (POS T n (i + 1)))
      omega
    · have e : POS T n (i + 1) = stE isW T n (enC T n (POS T n i)) := rfl
      have hlt : POS T n i < n := by
        apply Classical.byContradiction
        intro q
        have : POS T n i = n := by omega
        rw [this] at h1
        have h6 : enC T n n = n := by unfold enC; rw [if_pos (Nat.le_refl _)]
        rw [e, this, h6, stE_no (fun q => absurd q (by omega))] at z
        omega
      have := ih.2.2.1 hlt
      have := ih.2.1 hlt
      omega
theorem TK_end {T : Nat → Nat} {n i : Nat} (hT : ∀ k, k < n → T k < 256) : TK T n i = tEND ↔ POS T n i = n := by
  have hb := (POS_b (T := T) (n := n) i).1
  unfold TK tkC
  by_cases h : n ≤ POS T n i
  · rw [if_pos h]; exact ⟨fun _ => by omega, fun _ => rfl⟩
  · rw [if_neg h]
    refine ⟨fun z => ?_, fun z => absurd z (by omega)⟩
    exfalso
    have hc := hT (POS T n i) (by omega)
    by_cases hl : isL (T (POS T n i))
    · rw [cif_pos hl] at z
      rcases wdC_cases (bts T (POS T n i) (stE isL T n (POS T n i) - POS T n i)) with ⟨v, hv, -, e⟩ | ⟨-, e⟩
      · rw [e] at z; unfold tEND at z; omega
      · rw [e] at z; unfold tEND tBAD at z; omega
    · rw [cif_neg hl] at z
      by_cases hd : isD (T (POS T n i))
      · rw [cif_pos hd] at z
        have hs := stE_le (P := isD) (T := T) (n := n) (a := POS T n i) (by omega)
        generalize stE isD T n (POS T n i) = e at z hs
        by_cases h4 : 4 < e - POS T n i
        · rw [if_pos h4] at z; unfold tEND tBAD at z; omega
        · rw [if_neg h4] at z
          have h5 := nuV_lt (T := T) (a := POS T n i) (e - POS T n i) (fun k hk => (hs.2.2.1 _ (by omega) (by omega)).2)
          have h6 : 10 ^ (e - POS T n i) ≤ 10 ^ 4 := Nat.pow_le_pow_right (by omega) (by omega)
          unfold tEND at z
          omega
      · rw [cif_neg hd] at z
        by_cases hsg : isS (T (POS T n i))
        · rw [cif_pos hsg] at z; unfold tEND at z; omega
        · rw [cif_neg hsg] at z; unfold tEND tBAD at z; omega
/-- what kinds of tokens there are -/
theorem TK_kind {T : Nat → Nat} {n i : Nat} : TK T n i < 10014 ∨ (20000 ≤ TK T n i ∧ isS (TK T n i - 20000)) ∨ TK T n i = tBAD ∨ TK T n i = tEND := by
  have hb := (POS_b (T := T) (n := n) i).1
  unfold TK tkC
  by_cases h : n ≤ POS T n i
  · rw [if_pos h]; exact Or.inr (Or.inr (Or.inr rfl))
  · rw [if_neg h]
    by_cases hl : isL (T (POS T n i))
    · rw [cif_pos hl]
      rcases wdC_cases (bts T (POS T n i) (stE isL T n (POS T n i) - POS T n i)) with ⟨v, hv, -, e⟩ | ⟨-, e⟩
      · rw [e]; left; omega
      · rw [e]; exact Or.inr (Or.inr (Or.inl rfl))
    · rw [cif_neg hl]
      by_cases hd : isD (T (POS T n i))
      · rw [cif_pos hd]
        have hs := stE_le (P := isD) (T := T) (n := n) (a := POS T n i) (by omega)
        generalize stE isD T n (POS T n i) = e at hs
        by_cases h4 : 4 < e - POS T n i
        · rw [if_pos h4]; exact Or.inr (Or.inr (Or.inl rfl))
        · rw [if_neg h4]
          have h5 := nuV_lt (T := T) (a := POS T n i) (e - POS T n i) (fun k hk => (hs.2.2.1 _ (by omega) (by omega)).2)
          have h6 : 10 ^ (e - POS T n i) ≤ 10 ^ 4 := Nat.pow_le_pow_right (by omega) (by omega)
          left; omega
      · rw [cif_neg hd]
        by_cases hsg : isS (T (POS T n i))
        · rw [cif_pos hsg]; exact Or.inr (Or.inl ⟨by omega, by rw [Nat.add_sub_cancel_left]; exact hsg⟩)
        · rw [cif_neg hsg]; exact Or.inr (Or.inr (Or.inl rfl))
