/-! ===== part 84: the law's grammar ===== -/
abbrev PR : Type := (Nat × Nat) ⊕ (Nat × List Nat)
def bnd (r : PR) (f : Nat → List Nat → PR) : PR := match r with
  | .inl e => .inl e
  | .inr x => f x.1 x.2
def pre (l : List Nat) (r : PR) : PR := bnd r (fun k m => .inr (k, l ++ m))
noncomputable def tailF (A : Nat → Nat) (op : Nat → Prop) (sub : Nat → Nat → PR) : Nat → Nat → PR
  | 0, j => .inr (j, [])
  | m + 1, j => cif (op (A j)) (bnd (sub (A j) (j + 1)) (fun k l => pre (l ++ [A j]) (tailF A op sub m k))) (.inr (j, []))
noncomputable def chn (A : Nat → Nat) (op : Nat → Prop) (sub : Nat → Nat → PR) (m i : Nat) : PR := bnd (sub 0 i) (fun j l => pre l (tailF A op sub m j))
def isU (x : Nat) : Prop := x < 10000 ∨ (10006 ≤ x ∧ x < 10014)
noncomputable def un1 (A : Nat → Nat) (i : Nat) : PR := cif (isU (A i)) (.inr (i + 1, [A i])) (.inl (1, i))
noncomputable def nmD (A : Nat → Nat) (i : Nat) : PR := if A i < 10000 then (if A i = 0 then .inl (2, i) else .inr (i + 1, [A i])) else .inl (1, i)
noncomputable def prS (A : Nat → Nat) (x i : Nat) : PR := if x = 20047 then nmD A i else un1 A i
def opP (x : Nat) : Prop := x = 20042 ∨ x = 20047
def opS (x : Nat) : Prop := x = 20043 ∨ x = 20045
def opC (x : Nat) : Prop := x = 20060 ∨ x = 20061 ∨ x = 20062
noncomputable def prF (A : Nat → Nat) (i : Nat) : PR := chn A opP (prS A) 401 i
noncomputable def smF (A : Nat → Nat) (i : Nat) : PR := chn A opS (fun _ => prF A) 401 i
noncomputable def cpF (A : Nat → Nat) (i : Nat) : PR := bnd (smF A i) (fun j l => cif (opC (A j)) (bnd (smF A (j + 1)) (fun k m => .inr (k, l ++ m ++ [A j]))) (.inl (1, j)))
noncomputable def evF (A : Nat → Nat) (cl : Nat → PR) (i : Nat) : PR := chn A (· = 10004) (fun _ => cl) 401 i
noncomputable def anF (A : Nat → Nat) (cl : Nat → PR) (i : Nat) : PR := chn A (· = 10003) (fun _ => evF A cl) 401 i
noncomputable def clF (A : Nat → Nat) : Nat → Nat → PR
  | 0, i => if A i = 10005 ∨ A i = 20040 then .inl (3, i) else cpF A i
  | r + 1, i => if A i = 10005 then bnd (clF A r (i + 1)) (fun j l => .inr (j, l ++ [10005])) else if A i = 20040 then bnd (anF A (clF A r) (i + 1)) (fun j l => if A j = 20041 then .inr (j + 1, l) else .inl (1, j)) else cpF A i
/-- a part of the grammar goes on, and not over the end -/
def gd (cnt : Nat) (F : Nat → PR) : Prop := ∀ i, i ≤ cnt → ∀ k l, F i = .inr (k, l) → i < k ∧ k ≤ cnt ∧ l.length ≤ k - i
theorem bnd_inr {r : PR} {f : Nat → List Nat → PR} {x : Nat × List Nat} (h : bnd r f = .inr x) : ∃ k l, r = .inr (k, l) ∧ f k l = .inr x := by
  cases r with
  | inl e => cases h
  | inr y => exact ⟨y.1, y.2, rfl, h⟩
theorem bnd_inl {r : PR} {f : Nat → List Nat → PR} {x : Nat × Nat} (h : bnd r f = .inl x) : r = .inl x ∨ ∃ k l, r = .inr (k, l) ∧ f k l = .inl x := by
  cases r with
  | inl e => exact Or.inl (by simpa [bnd] using h)
  | inr y => exact Or.inr ⟨y.1, y.2, rfl, h⟩
theorem pre_inr {l : List Nat} {r : PR} {k : Nat} {m : List Nat} (h : pre l r = .inr (k, m)) : ∃ m', r = .inr (k, m') ∧ m = l ++ m' := by
  obtain ⟨k', l', h1, h2⟩ := bnd_inr h
  cases h2
  exact ⟨l', h1, rfl⟩
section PARSE
variable {A : Nat → Nat} {cnt : Nat}
theorem tail_gd {op : Nat → Prop} {sub : Nat → Nat → PR} (hA : A cnt = tEND) (hop : ¬ op tEND) (hs : ∀ x, gd cnt (sub x)) : ∀ m j, j ≤ cnt → ∀ k l, tailF A op sub m j = .inr (k, l) → j ≤ k ∧ k ≤ cnt ∧ l.length ≤ k - j := by
  intro m
  induction m with
  | zero =>
    intro j hj k l h
    rw [tailF] at h
    cases h
    exact ⟨Nat.le_refl _, hj, by simp⟩
  | succ m ih =>
    intro j hj k l h
    rw [tailF] at h
    by_cases z : op (A j)
    · rw [cif_pos z] at h
      have hjc : j < cnt := by
        by_cases e : j = cnt
        · rw [e, hA] at z; exact absurd z hop
        · omega
      obtain ⟨k1, l1, h1, h2⟩ := bnd_inr h
      obtain ⟨g1, g2, g3⟩ := hs _ (j + 1) (by omega) k1 l1 h1
      obtain ⟨m', h3, rfl⟩ := pre_inr h2
      obtain ⟨i1, i2, i3⟩ := ih k1 g2 k m' h3
      refine ⟨by omega, i2, ?_⟩
      simp only [List.length_append, List.length_cons, List.length_nil]
      omega
    · rw [cif_neg z] at h
      cases h
      exact ⟨Nat.le_refl _, hj, by simp⟩
theorem chn_gd {op : Nat → Prop} {sub : Nat → Nat → PR} (hA : A cnt = tEND) (hop : ¬ op tEND) (hs : ∀ x, gd cnt (sub x)) (m : Nat) : gd cnt (chn A op sub m) := by
  intro i hi k l h
  obtain ⟨k1, l1, h1, h2⟩ := bnd_inr h
  obtain ⟨g1, g2, g3⟩ := hs _ i hi k1 l1 h1
  obtain ⟨m', h3, rfl⟩ := pre_inr h2
  obtain ⟨i1, i2, i3⟩ := tail_gd hA hop hs m k1 g2 k m' h3
  refine ⟨by omega, i2, ?_⟩
  simp only [List.length_append]
  omega
theorem lt_cnt {P : Nat → Prop} {i : Nat} (hA : A cnt = tEND) (hP : ¬ P tEND) (hi : i ≤ cnt) (h : P (A i)) : i < cnt := by
  by_cases e : i = cnt
  · rw [e, hA] at h; exact absurd h hP
  · omega
theorem un_gd (hA : A cnt = tEND) : gd cnt (un1 A) := by
  intro i hi k l h
  unfold un1 at h
  by_cases z : isU (A i)
  · rw [cif_pos z] at h
    cases h
    have := lt_cnt (P := isU) hA (by unfold isU tEND; omega) hi z
    exact ⟨by omega, by omega, by simp⟩
  · rw [cif_neg z] at h; cases h
theorem nm_gd (hA : A cnt = tEND) : gd cnt (nmD A) := by
  intro i hi k l h
  unfold nmD at h
  split at h
  · rename_i z
    split at h
    · cases h
    · cases h
      have := lt_cnt (P := fun x => x < 10000) hA (by unfold tEND; omega) hi z
      exact ⟨by omega, by omega, by simp⟩
  · cases h
theorem prS_gd (hA : A cnt = tEND) (x : Nat) : gd cnt (prS A x) := by
  unfold prS
  split
  · exact nm_gd hA
  · exact un_gd hA
theorem pr_gd (hA : A cnt = tEND) : gd cnt (prF A) := chn_gd hA (by unfold opP tEND; omega) (prS_gd hA) 401
theorem sm_gd (hA : A cnt = tEND) : gd cnt (smF A) := chn_gd hA (by unfold opS tEND; omega) (fun _ => pr_gd hA) 401
theorem cp_gd (hA : A cnt = tEND) : gd cnt (cpF A) := by
  intro i hi k l h
  obtain ⟨k1, l1, h1, h2⟩ := bnd_inr h
  obtain ⟨g1, g2, g3⟩ := sm_gd hA i hi k1 l1 h1
  by_cases z : opC (A k1)
  · rw [cif_pos z] at h2
    have := lt_cnt (P := opC) hA (by unfold opC tEND; omega) g2 z
    obtain ⟨k2, l2, h3, h4⟩ := bnd_inr h2
    obtain ⟨e1, e2, e3⟩ := sm_gd hA (k1 + 1) (by omega) k2 l2 h3
    cases h4
    refine ⟨by omega, e2, ?_⟩
    simp only [List.length_append, List.length_cons, List.length_nil]
    omega
  · rw [cif_neg z] at h2; cases h2
theorem ev_gd (hA : A cnt = tEND) {cl : Nat → PR} (h : gd cnt cl) : gd cnt (evF A cl) := chn_gd hA (by unfold tEND; omega) (fun _ => h) 401
theorem an_gd (hA : A cnt = tEND) {cl : Nat → PR} (h : gd cnt cl) : gd cnt (anF A cl) := chn_gd hA (by unfold tEND; omega) (fun _ => ev_gd hA h) 401
theorem cl_gd (hA : A cnt = tEND) : ∀ r, gd cnt (clF A r) := by
  intro r
  induction r with
  | zero =>
    intro i hi k l h
    rw [clF] at h
    split at h
    · cases h
    · exact cp_gd hA i hi k l h
  | succ r ih =>
    intro i hi k l h
    rw [clF] at h
    split at h
    · rename_i z
      have := lt_cnt (P := (· = 10005)) hA (by unfold tEND; omega) hi z
      obtain ⟨k1, l1, h1, h2⟩ := bnd_inr h
      obtain ⟨g1, g2, g3⟩ := ih (i + 1) (by omega) k1 l1 h1
      cases h2
      refine ⟨by omega, g2, ?_⟩
      simp only [List.length_append, List.length_cons, List.length_nil]
      omega
    · split at h
      · rename_i z
        have := lt_cnt (P := (· = 20040)) hA (by unfold tEND; omega) hi z
        obtain ⟨k1, l1, h1, h2⟩ := bnd_inr h
        obtain ⟨g1, g2, g3⟩ := an_gd hA ih (i + 1) (by omega) k1 l1 h1
        split at h2
        · rename_i z2
          have := lt_cnt (P := (· = 20041)) hA (by unfold tEND; omega) g2 z2
          cases h2
          exact ⟨by omega, by omega, by omega⟩
        · cases h2
      · exact cp_gd hA i hi k l h
/-- the lines: each what it says, and its condition's tokens -/
noncomputable def txF (A : Nat → Nat) : Nat → Nat → Nat → (Nat × Nat) ⊕ List (Nat × List Nat)
  | 0, i, _ => .inl (1, i)
  | m + 1, i, k => if A i = tEND then .inr [] else if A i = 10000 ∨ A i = 10001 then (if k = 16 then .inl (3, i) else
      match (if A (i + 1) = 10002 then anF A (clF A 8) (i + 2) else .inr (i + 1, [])) with
      | .inl e => .inl e
      | .inr x => if A x.1 = 20059 then (match txF A m (x.1 + 1) (k + 1) with
        | .inl e => .inl e
        | .inr ls => .inr ((A i - 10000, x.2) :: ls)) else .inl (1, x.1)) else .inl (1, i)
end PARSE
