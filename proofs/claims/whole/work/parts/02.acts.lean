/-! ===== part 02: actions of the instructions, and that the kit's rows bear them ===== -/
def a_const (v : Int32) (npc : Nat) : am_Act := fun _ _ _ L S h K => K npc L (.inl v :: S) h
def a_load (i npc : Nat) : am_Act := fun _ _ _ L S h K => match am_get L i with
  | some v => K npc L (v :: S) h
  | none => False
def a_iload (i npc : Nat) : am_Act := fun _ _ _ L S h K => match am_get L i with
  | some (.inl v) => K npc L (.inl v :: S) h
  | _ => False
def a_aload (i npc : Nat) : am_Act := fun _ _ _ L S h K => match am_get L i with
  | some (.inr v) => K npc L (.inr v :: S) h
  | _ => False
def a_istore (i npc : Nat) : am_Act := fun _ _ _ L S h K => match S with
  | .inl v :: r => K npc (am_set L i (.inl v)) r h
  | _ => False
def a_astore (i npc : Nat) : am_Act := fun _ _ _ L S h K => match S with
  | .inr v :: r => K npc (am_set L i (.inr v)) r h
  | _ => False
def a_iinc (i : Nat) (n : Int32) (npc : Nat) : am_Act := fun _ _ _ L S h K => match am_get L i with
  | some (.inl v) => K npc (am_set L i (.inl (v + n))) S h
  | _ => False
def a_bin (f : Int32 → Int32 → Int32) (npc : Nat) : am_Act := fun _ _ _ L S h K => match S with
  | .inl y :: .inl x :: r => K npc L (.inl (f x y) :: r) h
  | _ => False
def a_divr (f : Int32 → Int32 → Int32) (npc : Nat) : am_Act := fun _ _ _ L S h K => match S with
  | .inl y :: .inl x :: r => ¬ y = 0 ∧ K npc L (.inl (f x y) :: r) h
  | _ => False
def a_un (f : Int32 → Int32) (npc : Nat) : am_Act := fun _ _ _ L S h K => match S with
  | .inl x :: r => K npc L (.inl (f x) :: r) h
  | _ => False
def a_dup (npc : Nat) : am_Act := fun _ _ _ L S h K => match S with
  | x :: r => K npc L (x :: x :: r) h
  | _ => False
def a_dup2 (npc : Nat) : am_Act := fun _ _ _ L S h K => match S with
  | x :: y :: r => K npc L (x :: y :: x :: y :: r) h
  | _ => False
def a_pop (npc : Nat) : am_Act := fun _ _ _ L S h K => match S with
  | _ :: r => K npc L r h
  | _ => False
def a_if (c : Int32 → Prop) (t npc : Nat) : am_Act := fun _ _ _ L S h K => match S with
  | .inl x :: r => (c x → K t L r h) ∧ (¬ c x → K npc L r h)
  | _ => False
def a_cmp (c : Int32 → Int32 → Prop) (t npc : Nat) : am_Act := fun _ _ _ L S h K => match S with
  | .inl y :: .inl x :: r => (c x y → K t L r h) ∧ (¬ c x y → K npc L r h)
  | _ => False
def a_goto (t : Nat) : am_Act := fun _ _ _ L S h K => K t L S h
def a_iret : am_Act := fun _ _ Q _ S h _ => match S with
  | [.inl v] => Q v h
  | _ => False
def a_zret : am_Act := fun _ _ Q _ S h _ => match S with
  | [.inl v] => (v = 0 ∨ v = 1) ∧ Q v h
  | _ => False
def a_nret (ty : FieldType) : am_Act := fun _ _ Q _ S h _ => match S with
  | [.inl v] => narrow ty (.int v) = .int v ∧ Q v h
  | _ => False
def a_ret : am_Act := fun _ _ Q _ S h _ => match S with
  | [] => Q 0 h
  | _ => False
/-- the length of the int array o -/
def am_len (T : am_T) (o : Nat) : Option Nat := match T.1[o]? with
  | some (.inl n) => some n
  | _ => none
/-- field k of o, an object of class ci: an int (some none), a cell (some (some t)) -/
def am_fd (T : am_T) (o ci k : Nat) : Option (Option Nat) := match T.1[o]? with
  | some (.inr (c, fs)) => if c = ci then fs[k]? else none
  | _ => none
def am_ci (T : am_T) (o : Nat) : Option Nat := match T.1[o]? with
  | some (.inr (c, _)) => some c
  | _ => none
def a_iald (T : am_T) (npc : Nat) : am_Act := fun _ _ _ L S h K => match S with
  | .inl i :: .inr o :: r => match am_len T o with
    | some n => vp_in i n ∧ K npc L (.inl (h o i.toNatClampNeg) :: r) h
    | none => False
  | _ => False
def a_iast (T : am_T) (npc : Nat) : am_Act := fun _ _ _ L S h K => match S with
  | .inl x :: .inl i :: .inr o :: r => match am_len T o with
    | some n => vp_in i n ∧ K npc L r (am_upd h o i.toNatClampNeg x)
    | none => False
  | _ => False
def a_alen (T : am_T) (npc : Nat) : am_Act := fun _ _ _ L S h K => match S with
  | .inr o :: r => match am_len T o with
    | some n => K npc L (.inl (Int32.ofNat n) :: r) h
    | none => False
  | _ => False
def a_get (T : am_T) (ci k npc : Nat) : am_Act := fun _ _ _ L S h K => match S with
  | .inr o :: r => match am_fd T o ci k with
    | some none => K npc L (.inl (h o k) :: r) h
    | some (some t) => K npc L (.inr t :: r) h
    | none => False
  | _ => False
def a_put (T : am_T) (ci k npc : Nat) : am_Act := fun _ _ _ L S h K => match S with
  | .inl v :: .inr o :: r => match am_fd T o ci k with
    | some none => K npc L r (am_upd h o k v)
    | _ => False
  | _ => False
def a_putz (T : am_T) (ci k npc : Nat) : am_Act := fun _ _ _ L S h K => match S with
  | .inl v :: .inr o :: r => match am_fd T o ci k with
    | some none => (v = 0 ∨ v = 1) ∧ K npc L r (am_upd h o k v)
    | _ => False
  | _ => False
/-- n values off the stack, in the order of their pushing -/
def am_pop : Nat → List am_V → List am_V → Option (List am_V × List am_V)
  | 0, S, acc => some (acc, S)
  | n + 1, x :: S, acc => am_pop n S (x :: acc)
  | _ + 1, [], _ => none
def a_cvI (T : am_T) (M' : am_M) (ci n npc : Nat) : am_Act := fun _ C _ L S h K => match am_pop n S [] with
  | some (as, .inr o :: r) => am_ci T o = some ci ∧ r.length ≤ 8 ∧ C M' (.inr o :: as) h (fun v h' => K npc L (.inl v :: r) h')
  | _ => False
def a_cvV (T : am_T) (M' : am_M) (ci n npc : Nat) : am_Act := fun _ C _ L S h K => match am_pop n S [] with
  | some (as, .inr o :: r) => am_ci T o = some ci ∧ r.length ≤ 8 ∧ C M' (.inr o :: as) h (fun _ h' => K npc L r h')
  | _ => False
def a_csI (M' : am_M) (n npc : Nat) : am_Act := fun _ C _ L S h K => match am_pop n S [] with
  | some (as, r) => r.length ≤ 8 ∧ C M' as h (fun v h' => K npc L (.inl v :: r) h')
  | _ => False
def a_csV (M' : am_M) (n npc : Nat) : am_Act := fun _ C _ L S h K => match am_pop n S [] with
  | some (as, r) => r.length ≤ 8 ∧ C M' as h (fun _ h' => K npc L r h')
  | _ => False
/-- a switch: the first value that fits, else the default -/
def am_sw (x : Int32) (K : Nat → Prop) (dflt : Nat) : List (Int32 × Nat) → Prop
  | [] => K dflt
  | q :: t => (x = q.1 → K q.2) ∧ (¬ x = q.1 → am_sw x K dflt t)
def a_sw (cs : List (Int32 × Nat)) (dflt : Nat) : am_Act := fun _ _ _ L S h K => match S with
  | .inl x :: r => am_sw x (fun t => K t L r h) dflt cs
  | _ => False
def am_cpy (h : am_H) (o sp q dp n : Nat) : am_H := fun z => if z = q then va_cpy (h o) (h q) sp dp n else h z
def a_copy (T : am_T) (npc : Nat) : am_Act := fun d _ _ L S h K => match S with
  | .inl n :: .inl dp :: .inr q :: .inl sp :: .inr o :: r => match am_len T o, am_len T q with
    | some n0, some n1 => 0 < d ∧ r.length ≤ 8 ∧ ¬ sp < 0 ∧ ¬ dp < 0 ∧ ¬ n < 0 ∧ sp.toNatClampNeg + n.toNatClampNeg ≤ n0 ∧ dp.toNatClampNeg + n.toNatClampNeg ≤ n1 ∧ K npc L r (am_cpy h o sp.toNatClampNeg q dp.toNatClampNeg n.toNatClampNeg)
    | _, _ => False
  | _ => False
theorem am_putcell {al : Nat → Nat} {cA : ClassId} {h : am_H} {o k ci : Nat} {v : Int32} {fs : List (Option Nat)} (h2 : fs[k]? = some none) : am_cell al cA (am_upd h o k v) o (.inr (ci, fs)) = .inr (ci, (fs.mapIdx (fun k t => am_fl al h o k t)).set k (.int v)) := by
  simp only [am_cell]
  congr 2
  apply List.ext_getElem?
  intro i
  by_cases hi : i = k
  · subst hi
    have hl : i < fs.length := (List.getElem?_eq_some_iff.mp h2).1
    rw [List.getElem?_set_self (by simpa [List.length_mapIdx] using hl)]
    simp [List.getElem?_mapIdx, h2, am_fl, am_upd_self, upd]
  · rw [List.getElem?_set_ne (Ne.symm hi)]
    simp only [List.getElem?_mapIdx]
    cases fs[i]? with
    | none => rfl
    | some t => cases t <;> simp [am_fl, am_upd_self, upd, hi]
section OK
variable {T : am_T} {E : am_E} {M : am_M} {pc npc : Nat}

theorem ok_iconst {n : Int} {v : Int32} (hd : decode M.2.1 pc = .ok (.iconst n, 1)) (hv : Int32.ofInt n = v) (hn : pc + 1 = npc) : am_Ok T E M pc (a_const v npc) := by
  intro X d Q L S h K hR hK ha p e s m args below meth c H locs ls hh hF hP hS hl
  subst hn
  exact lv_iconst hh.1 hh.2.1 hd hv (hK _ _ _ _ ha p e s m args below meth c H locs ls hh hF hP hS hl)
theorem ok_bipush {n : Int} {v : Int32} (hd : decode M.2.1 pc = .ok (.bipush n, 2)) (hv : (Int8.ofInt n).toInt32 = v) (hn : pc + 2 = npc) : am_Ok T E M pc (a_const v npc) := by
  intro X d Q L S h K hR hK ha p e s m args below meth c H locs ls hh hF hP hS hl
  subst hn
  exact lv_bipush hh.1 hh.2.1 hd hv (hK _ _ _ _ ha p e s m args below meth c H locs ls hh hF hP hS hl)
theorem ok_sipush {n : Int} {v : Int32} (hd : decode M.2.1 pc = .ok (.sipush n, 3)) (hv : (Int16.ofInt n).toInt32 = v) (hn : pc + 3 = npc) : am_Ok T E M pc (a_const v npc) := by
  intro X d Q L S h K hR hK ha p e s m args below meth c H locs ls hh hF hP hS hl
  subst hn
  exact lv_sipush hh.1 hh.2.1 hd hv (hK _ _ _ _ ha p e s m args below meth c H locs ls hh hF hP hS hl)
theorem ok_ldc {index : Nat} {v : Int32} (hw : Cond.constant M.1.cls index v ∈ T.2.2.1) (hd : decode M.2.1 pc = .ok (.ldc index, 2)) (hn : pc + 2 = npc) : am_Ok T E M pc (a_const v npc) := by
  intro X d Q L S h K hR hK ha p e s m args below meth c H locs ls hh hF hP hS hl
  subst hn
  exact lv_ldc hh.1 hh.2.1 hh.2.2.2.2.2.1 (hh.2.2.2.2.2.2.word hw args) hd (hK _ _ _ _ ha p e s m args below meth c H locs ls hh hF hP hS hl)
theorem ok_iload_n {k : Fin 4} {i : Nat} (hd : decode M.2.1 pc = .ok (.iload_n k, 1)) (hi : (k : Nat) = i) (hn : pc + 1 = npc) : am_Ok T E M pc (a_iload i npc) := by
  intro X d Q L S h K hR hK ha p e s m args below meth c H locs ls hh hF hP hS hl
  subst hn
  unfold a_iload at ha
  cases hg : am_get L i with
  | none => rw [hg] at ha; exact ha.elim
  | some v =>
    rw [hg] at ha
    cases v with
    | inr v => exact ha.elim
    | inl v => exact lv_iload_n hh.1 hh.2.1 hd hi (am_at hl hg) (hK _ _ _ _ ha p e s m args below meth c H locs ls hh hF hP hS hl)
theorem ok_iload {i : Nat} (hd : decode M.2.1 pc = .ok (.iload i, 2)) (hn : pc + 2 = npc) : am_Ok T E M pc (a_iload i npc) := by
  intro X d Q L S h K hR hK ha p e s m args below meth c H locs ls hh hF hP hS hl
  subst hn
  unfold a_iload at ha
  cases hg : am_get L i with
  | none => rw [hg] at ha; exact ha.elim
  | some v =>
    rw [hg] at ha
    cases v with
    | inr v => exact ha.elim
    | inl v => exact lv_iload hh.1 hh.2.1 hd (am_at hl hg) (hK _ _ _ _ ha p e s m args below meth c H locs ls hh hF hP hS hl)
theorem ok_aload_n {k : Fin 4} {i : Nat} (hd : decode M.2.1 pc = .ok (.aload_n k, 1)) (hi : (k : Nat) = i) (hn : pc + 1 = npc) : am_Ok T E M pc (a_aload i npc) := by
  intro X d Q L S h K hR hK ha p e s m args below meth c H locs ls hh hF hP hS hl
  subst hn
  unfold a_aload at ha
  cases hg : am_get L i with
  | none => rw [hg] at ha; exact ha.elim
  | some v =>
    rw [hg] at ha
    cases v with
    | inl v => exact ha.elim
    | inr v => exact lv_aload_n hh.1 hh.2.1 hd hi (am_at hl hg) (hK _ _ _ _ ha p e s m args below meth c H locs ls hh hF hP hS hl)
theorem ok_aload {i : Nat} (hd : decode M.2.1 pc = .ok (.aload i, 2)) (hn : pc + 2 = npc) : am_Ok T E M pc (a_aload i npc) := by
  intro X d Q L S h K hR hK ha p e s m args below meth c H locs ls hh hF hP hS hl
  subst hn
  unfold a_aload at ha
  cases hg : am_get L i with
  | none => rw [hg] at ha; exact ha.elim
  | some v =>
    rw [hg] at ha
    cases v with
    | inl v => exact ha.elim
    | inr v => exact lv_aload hh.1 hh.2.1 hd (am_at hl hg) (hK _ _ _ _ ha p e s m args below meth c H locs ls hh hF hP hS hl)
theorem ok_istore_n {k : Fin 4} {i : Nat} (hd : decode M.2.1 pc = .ok (.istore_n k, 1)) (hi : (k : Nat) = i) (hm : i < M.2.2.1) (hn : pc + 1 = npc) : am_Ok T E M pc (a_istore i npc) := by
  intro X d Q L S h K hR hK ha p e s m args below meth c H locs ls hh hF hP hS hl
  subst hn
  match S, ha with
  | .inl v :: r, ha =>
    exact lv_istore_n hh.1 hh.2.1 hd hi hl hm rfl (fun ls' hl' => hK _ _ _ _ ha p e s m args below meth c H locs ls' hh hF hP hS (am_has_set (v := .inl v) hl'))
theorem ok_istore {i : Nat} (hd : decode M.2.1 pc = .ok (.istore i, 2)) (hm : i < M.2.2.1) (hn : pc + 2 = npc) : am_Ok T E M pc (a_istore i npc) := by
  intro X d Q L S h K hR hK ha p e s m args below meth c H locs ls hh hF hP hS hl
  subst hn
  match S, ha with
  | .inl v :: r, ha =>
    exact lv_istore hh.1 hh.2.1 hd hl hm rfl (fun ls' hl' => hK _ _ _ _ ha p e s m args below meth c H locs ls' hh hF hP hS (am_has_set (v := .inl v) hl'))
theorem ok_astore_n {k : Fin 4} {i : Nat} (hd : decode M.2.1 pc = .ok (.astore_n k, 1)) (hi : (k : Nat) = i) (hm : i < M.2.2.1) (hn : pc + 1 = npc) : am_Ok T E M pc (a_astore i npc) := by
  intro X d Q L S h K hR hK ha p e s m args below meth c H locs ls hh hF hP hS hl
  subst hn
  match S, ha with
  | .inr v :: r, ha =>
    exact lv_astore_n hh.1 hh.2.1 hd hi hl hm rfl (fun ls' hl' => hK _ _ _ _ ha p e s m args below meth c H locs ls' hh hF hP hS (am_has_set (v := .inr v) hl'))
theorem ok_astore {i : Nat} (hd : decode M.2.1 pc = .ok (.astore i, 2)) (hm : i < M.2.2.1) (hn : pc + 2 = npc) : am_Ok T E M pc (a_astore i npc) := by
  intro X d Q L S h K hR hK ha p e s m args below meth c H locs ls hh hF hP hS hl
  subst hn
  match S, ha with
  | .inr v :: r, ha =>
    exact lv_astore hh.1 hh.2.1 hd hl hm rfl (fun ls' hl' => hK _ _ _ _ ha p e s m args below meth c H locs ls' hh hF hP hS (am_has_set (v := .inr v) hl'))
theorem ok_iinc {i : Nat} {n : Int} {v : Int32} (hd : decode M.2.1 pc = .ok (.iinc i n, 3)) (hv : Int32.ofInt n = v) (hm : i < M.2.2.1) (hn : pc + 3 = npc) : am_Ok T E M pc (a_iinc i v npc) := by
  intro X d Q L S h K hR hK ha p e s m args below meth c H locs ls hh hF hP hS hl
  subst hn
  subst hv
  unfold a_iinc at ha
  cases hg : am_get L i with
  | none => rw [hg] at ha; exact ha.elim
  | some x =>
    rw [hg] at ha
    cases x with
    | inr v => exact ha.elim
    | inl x =>
      have hmem := am_lv_mem (al := E.2.2.2) L 0 i _ hg
      rw [Nat.zero_add] at hmem
      obtain ⟨k, hk⟩ := List.getElem?_of_mem hmem
      exact lv_iinc (k := k) hh.1 hh.2.1 hd hl hk rfl hm rfl (fun ls' hl' => hK _ _ _ _ ha p e s m args below meth c H locs ls' hh hF hP hS (am_has_set (v := .inl (x + Int32.ofInt n)) hl'))
theorem ok_iadd (hd : decode M.2.1 pc = .ok (.iadd, 1)) (hn : pc + 1 = npc) : am_Ok T E M pc (a_bin (fun x y => x + y) npc) := by
  intro X d Q L S h K hR hK ha p e s m args below meth c H locs ls hh hF hP hS hl
  subst hn
  match S, ha with
  | .inl y :: .inl x :: r, ha => exact lv_iadd hh.1 hh.2.1 hd (hK _ _ _ _ ha p e s m args below meth c H locs ls hh hF hP hS hl)
theorem ok_isub (hd : decode M.2.1 pc = .ok (.isub, 1)) (hn : pc + 1 = npc) : am_Ok T E M pc (a_bin (fun x y => x - y) npc) := by
  intro X d Q L S h K hR hK ha p e s m args below meth c H locs ls hh hF hP hS hl
  subst hn
  match S, ha with
  | .inl y :: .inl x :: r, ha => exact lv_isub hh.1 hh.2.1 hd (hK _ _ _ _ ha p e s m args below meth c H locs ls hh hF hP hS hl)
theorem ok_imul (hd : decode M.2.1 pc = .ok (.imul, 1)) (hn : pc + 1 = npc) : am_Ok T E M pc (a_bin (fun x y => x * y) npc) := by
  intro X d Q L S h K hR hK ha p e s m args below meth c H locs ls hh hF hP hS hl
  subst hn
  match S, ha with
  | .inl y :: .inl x :: r, ha => exact lv_imul hh.1 hh.2.1 hd (hK _ _ _ _ ha p e s m args below meth c H locs ls hh hF hP hS hl)
theorem ok_iand (hd : decode M.2.1 pc = .ok (.iand, 1)) (hn : pc + 1 = npc) : am_Ok T E M pc (a_bin (fun x y => x &&& y) npc) := by
  intro X d Q L S h K hR hK ha p e s m args below meth c H locs ls hh hF hP hS hl
  subst hn
  match S, ha with
  | .inl y :: .inl x :: r, ha => exact lv_iand hh.1 hh.2.1 hd (hK _ _ _ _ ha p e s m args below meth c H locs ls hh hF hP hS hl)
theorem ok_ior (hd : decode M.2.1 pc = .ok (.ior, 1)) (hn : pc + 1 = npc) : am_Ok T E M pc (a_bin (fun x y => x ||| y) npc) := by
  intro X d Q L S h K hR hK ha p e s m args below meth c H locs ls hh hF hP hS hl
  subst hn
  match S, ha with
  | .inl y :: .inl x :: r, ha => exact lv_ior hh.1 hh.2.1 hd (hK _ _ _ _ ha p e s m args below meth c H locs ls hh hF hP hS hl)
theorem ok_ixor (hd : decode M.2.1 pc = .ok (.ixor, 1)) (hn : pc + 1 = npc) : am_Ok T E M pc (a_bin (fun x y => x ^^^ y) npc) := by
  intro X d Q L S h K hR hK ha p e s m args below meth c H locs ls hh hF hP hS hl
  subst hn
  match S, ha with
  | .inl y :: .inl x :: r, ha => exact lv_ixor hh.1 hh.2.1 hd (hK _ _ _ _ ha p e s m args below meth c H locs ls hh hF hP hS hl)
theorem ok_idiv (hd : decode M.2.1 pc = .ok (.idiv, 1)) (hn : pc + 1 = npc) : am_Ok T E M pc (a_divr (fun x y => x / y) npc) := by
  intro X d Q L S h K hR hK ha p e s m args below meth c H locs ls hh hF hP hS hl
  subst hn
  match S, ha with
  | .inl y :: .inl x :: r, ha => exact lv_idiv hh.1 hh.2.1 hd ha.1 (hK _ _ _ _ ha.2 p e s m args below meth c H locs ls hh hF hP hS hl)
theorem ok_irem (hd : decode M.2.1 pc = .ok (.irem, 1)) (hn : pc + 1 = npc) : am_Ok T E M pc (a_divr (fun x y => x - x / y * y) npc) := by
  intro X d Q L S h K hR hK ha p e s m args below meth c H locs ls hh hF hP hS hl
  subst hn
  match S, ha with
  | .inl y :: .inl x :: r, ha => exact lv_irem hh.1 hh.2.1 hd ha.1 (hK _ _ _ _ ha.2 p e s m args below meth c H locs ls hh hF hP hS hl)
theorem ok_ishl (hd : decode M.2.1 pc = .ok (.ishl, 1)) (hn : pc + 1 = npc) : am_Ok T E M pc (a_bin (fun x y => x <<< (y &&& 31)) npc) := by
  intro X d Q L S h K hR hK ha p e s m args below meth c H locs ls hh hF hP hS hl
  subst hn
  match S, ha with
  | .inl y :: .inl x :: r, ha => exact lv_ishl hh.1 hh.2.1 hd (hK _ _ _ _ ha p e s m args below meth c H locs ls hh hF hP hS hl)
theorem ok_ishr (hd : decode M.2.1 pc = .ok (.ishr, 1)) (hn : pc + 1 = npc) : am_Ok T E M pc (a_bin (fun x y => x >>> (y &&& 31)) npc) := by
  intro X d Q L S h K hR hK ha p e s m args below meth c H locs ls hh hF hP hS hl
  subst hn
  match S, ha with
  | .inl y :: .inl x :: r, ha => exact lv_ishr hh.1 hh.2.1 hd (hK _ _ _ _ ha p e s m args below meth c H locs ls hh hF hP hS hl)
def am_ushr (x y : Int32) : Int32 := (x.toUInt32 >>> (y.toUInt32 &&& Int32.toUInt32 31)).toInt32
theorem ok_iushr (hd : decode M.2.1 pc = .ok (.iushr, 1)) (hn : pc + 1 = npc) : am_Ok T E M pc (a_bin am_ushr npc) := by
  intro X d Q L S h K hR hK ha p e s m args below meth c H locs ls hh hF hP hS hl
  subst hn
  match S, ha with
  | .inl y :: .inl x :: r, ha => exact lv_iushr hh.1 hh.2.1 hd rfl (hK _ _ _ _ ha p e s m args below meth c H locs ls hh hF hP hS hl)
def am_i2c (x : Int32) : Int32 := (x.toUInt32 % 65536).toInt32
theorem ok_i2c (hd : decode M.2.1 pc = .ok (.i2c, 1)) (hn : pc + 1 = npc) : am_Ok T E M pc (a_un am_i2c npc) := by
  intro X d Q L S h K hR hK ha p e s m args below meth c H locs ls hh hF hP hS hl
  subst hn
  match S, ha with
  | .inl x :: r, ha => exact lv_i2c hh.1 hh.2.1 hd rfl (hK _ _ _ _ ha p e s m args below meth c H locs ls hh hF hP hS hl)
theorem ok_ineg (hd : decode M.2.1 pc = .ok (.ineg, 1)) (hn : pc + 1 = npc) : am_Ok T E M pc (a_un (fun x => -x) npc) := by
  intro X d Q L S h K hR hK ha p e s m args below meth c H locs ls hh hF hP hS hl
  subst hn
  match S, ha with
  | .inl x :: r, ha => exact lv_ineg hh.1 hh.2.1 hd (hK _ _ _ _ ha p e s m args below meth c H locs ls hh hF hP hS hl)
theorem ok_dup (hd : decode M.2.1 pc = .ok (.dup, 1)) (hn : pc + 1 = npc) : am_Ok T E M pc (a_dup npc) := by
  intro X d Q L S h K hR hK ha p e s m args below meth c H locs ls hh hF hP hS hl
  subst hn
  match S, ha with
  | x :: r, ha => exact lv_dup hh.1 hh.2.1 hd (am_cat _ x) (hK _ _ _ _ ha p e s m args below meth c H locs ls hh hF hP hS hl)
theorem ok_dup2 (hd : decode M.2.1 pc = .ok (.dup2, 1)) (hn : pc + 1 = npc) : am_Ok T E M pc (a_dup2 npc) := by
  intro X d Q L S h K hR hK ha p e s m args below meth c H locs ls hh hF hP hS hl
  subst hn
  match S, ha with
  | x :: y :: r, ha => exact lv_dup2_11 hh.1 hh.2.1 hd (am_cat _ x) (am_cat _ y) (hK _ _ _ _ ha p e s m args below meth c H locs ls hh hF hP hS hl)
theorem ok_pop (hd : decode M.2.1 pc = .ok (.pop, 1)) (hn : pc + 1 = npc) : am_Ok T E M pc (a_pop npc) := by
  intro X d Q L S h K hR hK ha p e s m args below meth c H locs ls hh hF hP hS hl
  subst hn
  match S, ha with
  | x :: r, ha => exact lv_pop hh.1 hh.2.1 hd (am_cat _ x) (hK _ _ _ _ ha p e s m args below meth c H locs ls hh hF hP hS hl)
theorem ok_goto {off : Int} {t : Nat} (hd : decode M.2.1 pc = .ok (.goto off, 3)) (ht : (pc : Int) + off = (t : Int)) : am_Ok T E M pc (a_goto t) := by
  intro X d Q L S h K hR hK ha p e s m args below meth c H locs ls hh hF hP hS hl
  exact lv_goto hh.1 hh.2.1 hd ht (hK _ _ _ _ ha p e s m args below meth c H locs ls hh hF hP hS hl)
theorem ok_if_eq {off : Int} {t : Nat} (hd : decode M.2.1 pc = .ok (.ifCond .eq off, 3)) (ht : (pc : Int) + off = (t : Int)) (hn : pc + 3 = npc) : am_Ok T E M pc (a_if (fun x => x = 0) t npc) := by
  intro X d Q L S h K hR hK ha p e s m args below meth c H locs ls hh hF hP hS hl
  subst hn
  match S, ha with
  | .inl x :: r, ha => exact lv_if_eq hh.1 hh.2.1 hd ht (fun z => hK _ _ _ _ (ha.1 z) p e s m args below meth c H locs ls hh hF hP hS hl) (fun z => hK _ _ _ _ (ha.2 z) p e s m args below meth c H locs ls hh hF hP hS hl)
theorem ok_cmp_eq {off : Int} {t : Nat} (hd : decode M.2.1 pc = .ok (.if_icmp .eq off, 3)) (ht : (pc : Int) + off = (t : Int)) (hn : pc + 3 = npc) : am_Ok T E M pc (a_cmp (fun x y => x = y) t npc) := by
  intro X d Q L S h K hR hK ha p e s m args below meth c H locs ls hh hF hP hS hl
  subst hn
  match S, ha with
  | .inl y :: .inl x :: r, ha => exact lv_icmp_eq hh.1 hh.2.1 hd ht (fun z => hK _ _ _ _ (ha.1 z) p e s m args below meth c H locs ls hh hF hP hS hl) (fun z => hK _ _ _ _ (ha.2 z) p e s m args below meth c H locs ls hh hF hP hS hl)
theorem ok_if_ne {off : Int} {t : Nat} (hd : decode M.2.1 pc = .ok (.ifCond .ne off, 3)) (ht : (pc : Int) + off = (t : Int)) (hn : pc + 3 = npc) : am_Ok T E M pc (a_if (fun x => x = 0) npc t) := by
  intro X d Q L S h K hR hK ha p e s m args below meth c H locs ls hh hF hP hS hl
  subst hn
  match S, ha with
  | .inl x :: r, ha => exact lv_if_ne hh.1 hh.2.1 hd ht (fun z => hK _ _ _ _ (ha.2 z) p e s m args below meth c H locs ls hh hF hP hS hl) (fun z => hK _ _ _ _ (ha.1 z) p e s m args below meth c H locs ls hh hF hP hS hl)
theorem ok_cmp_ne {off : Int} {t : Nat} (hd : decode M.2.1 pc = .ok (.if_icmp .ne off, 3)) (ht : (pc : Int) + off = (t : Int)) (hn : pc + 3 = npc) : am_Ok T E M pc (a_cmp (fun x y => x = y) npc t) := by
  intro X d Q L S h K hR hK ha p e s m args below meth c H locs ls hh hF hP hS hl
  subst hn
  match S, ha with
  | .inl y :: .inl x :: r, ha => exact lv_icmp_ne hh.1 hh.2.1 hd ht (fun z => hK _ _ _ _ (ha.2 z) p e s m args below meth c H locs ls hh hF hP hS hl) (fun z => hK _ _ _ _ (ha.1 z) p e s m args below meth c H locs ls hh hF hP hS hl)
theorem ok_if_lt {off : Int} {t : Nat} (hd : decode M.2.1 pc = .ok (.ifCond .lt off, 3)) (ht : (pc : Int) + off = (t : Int)) (hn : pc + 3 = npc) : am_Ok T E M pc (a_if (fun x => x < 0) t npc) := by
  intro X d Q L S h K hR hK ha p e s m args below meth c H locs ls hh hF hP hS hl
  subst hn
  match S, ha with
  | .inl x :: r, ha => exact lv_if_lt hh.1 hh.2.1 hd ht (fun z => hK _ _ _ _ (ha.1 z) p e s m args below meth c H locs ls hh hF hP hS hl) (fun z => hK _ _ _ _ (ha.2 z) p e s m args below meth c H locs ls hh hF hP hS hl)
theorem ok_cmp_lt {off : Int} {t : Nat} (hd : decode M.2.1 pc = .ok (.if_icmp .lt off, 3)) (ht : (pc : Int) + off = (t : Int)) (hn : pc + 3 = npc) : am_Ok T E M pc (a_cmp (fun x y => x < y) t npc) := by
  intro X d Q L S h K hR hK ha p e s m args below meth c H locs ls hh hF hP hS hl
  subst hn
  match S, ha with
  | .inl y :: .inl x :: r, ha => exact lv_icmp_lt hh.1 hh.2.1 hd ht (fun z => hK _ _ _ _ (ha.1 z) p e s m args below meth c H locs ls hh hF hP hS hl) (fun z => hK _ _ _ _ (ha.2 z) p e s m args below meth c H locs ls hh hF hP hS hl)
theorem ok_if_ge {off : Int} {t : Nat} (hd : decode M.2.1 pc = .ok (.ifCond .ge off, 3)) (ht : (pc : Int) + off = (t : Int)) (hn : pc + 3 = npc) : am_Ok T E M pc (a_if (fun x => 0 ≤ x) t npc) := by
  intro X d Q L S h K hR hK ha p e s m args below meth c H locs ls hh hF hP hS hl
  subst hn
  match S, ha with
  | .inl x :: r, ha => exact lv_if_ge hh.1 hh.2.1 hd ht (fun z => hK _ _ _ _ (ha.1 z) p e s m args below meth c H locs ls hh hF hP hS hl) (fun z => hK _ _ _ _ (ha.2 z) p e s m args below meth c H locs ls hh hF hP hS hl)
theorem ok_cmp_ge {off : Int} {t : Nat} (hd : decode M.2.1 pc = .ok (.if_icmp .ge off, 3)) (ht : (pc : Int) + off = (t : Int)) (hn : pc + 3 = npc) : am_Ok T E M pc (a_cmp (fun x y => y ≤ x) t npc) := by
  intro X d Q L S h K hR hK ha p e s m args below meth c H locs ls hh hF hP hS hl
  subst hn
  match S, ha with
  | .inl y :: .inl x :: r, ha => exact lv_icmp_ge hh.1 hh.2.1 hd ht (fun z => hK _ _ _ _ (ha.1 z) p e s m args below meth c H locs ls hh hF hP hS hl) (fun z => hK _ _ _ _ (ha.2 z) p e s m args below meth c H locs ls hh hF hP hS hl)
theorem ok_if_gt {off : Int} {t : Nat} (hd : decode M.2.1 pc = .ok (.ifCond .gt off, 3)) (ht : (pc : Int) + off = (t : Int)) (hn : pc + 3 = npc) : am_Ok T E M pc (a_if (fun x => 0 < x) t npc) := by
  intro X d Q L S h K hR hK ha p e s m args below meth c H locs ls hh hF hP hS hl
  subst hn
  match S, ha with
  | .inl x :: r, ha => exact lv_if_gt hh.1 hh.2.1 hd ht (fun z => hK _ _ _ _ (ha.1 z) p e s m args below meth c H locs ls hh hF hP hS hl) (fun z => hK _ _ _ _ (ha.2 z) p e s m args below meth c H locs ls hh hF hP hS hl)
theorem ok_cmp_gt {off : Int} {t : Nat} (hd : decode M.2.1 pc = .ok (.if_icmp .gt off, 3)) (ht : (pc : Int) + off = (t : Int)) (hn : pc + 3 = npc) : am_Ok T E M pc (a_cmp (fun x y => y < x) t npc) := by
  intro X d Q L S h K hR hK ha p e s m args below meth c H locs ls hh hF hP hS hl
  subst hn
  match S, ha with
  | .inl y :: .inl x :: r, ha => exact lv_icmp_gt hh.1 hh.2.1 hd ht (fun z => hK _ _ _ _ (ha.1 z) p e s m args below meth c H locs ls hh hF hP hS hl) (fun z => hK _ _ _ _ (ha.2 z) p e s m args below meth c H locs ls hh hF hP hS hl)
theorem ok_if_le {off : Int} {t : Nat} (hd : decode M.2.1 pc = .ok (.ifCond .le off, 3)) (ht : (pc : Int) + off = (t : Int)) (hn : pc + 3 = npc) : am_Ok T E M pc (a_if (fun x => x ≤ 0) t npc) := by
  intro X d Q L S h K hR hK ha p e s m args below meth c H locs ls hh hF hP hS hl
  subst hn
  match S, ha with
  | .inl x :: r, ha => exact lv_if_le hh.1 hh.2.1 hd ht (fun z => hK _ _ _ _ (ha.1 z) p e s m args below meth c H locs ls hh hF hP hS hl) (fun z => hK _ _ _ _ (ha.2 z) p e s m args below meth c H locs ls hh hF hP hS hl)
theorem ok_cmp_le {off : Int} {t : Nat} (hd : decode M.2.1 pc = .ok (.if_icmp .le off, 3)) (ht : (pc : Int) + off = (t : Int)) (hn : pc + 3 = npc) : am_Ok T E M pc (a_cmp (fun x y => x ≤ y) t npc) := by
  intro X d Q L S h K hR hK ha p e s m args below meth c H locs ls hh hF hP hS hl
  subst hn
  match S, ha with
  | .inl y :: .inl x :: r, ha => exact lv_icmp_le hh.1 hh.2.1 hd ht (fun z => hK _ _ _ _ (ha.1 z) p e s m args below meth c H locs ls hh hF hP hS hl) (fun z => hK _ _ _ _ (ha.2 z) p e s m args below meth c H locs ls hh hF hP hS hl)
theorem ok_iret (hr : M.2.2.2 = some .int) (hd : decode M.2.1 pc = .ok (.ireturn, 1)) : am_Ok T E M pc a_iret := by
  intro X d Q L S h K hR hK ha
  match S, ha with
  | [.inl v], ha => exact hR pc L _ h v (Or.inr (Or.inl ⟨hr, hd, rfl⟩)) ha
theorem ok_zret (hr : M.2.2.2 = some .boolean) (hd : decode M.2.1 pc = .ok (.ireturn, 1)) : am_Ok T E M pc a_zret := by
  intro X d Q L S h K hR hK ha
  match S, ha with
  | [.inl v], ha => exact hR pc L _ h v (Or.inr (Or.inr ⟨.boolean, hr, hd, rfl, by rcases ha.1 with e | e <;> subst e <;> rfl⟩)) ha.2
theorem ok_nret {ty : FieldType} (hr : M.2.2.2 = some ty) (hd : decode M.2.1 pc = .ok (.ireturn, 1)) : am_Ok T E M pc (a_nret ty) := by
  intro X d Q L S h K hR hK ha
  match S, ha with
  | [.inl v], ha => exact hR pc L _ h v (Or.inr (Or.inr ⟨ty, hr, hd, rfl, ha.1⟩)) ha.2
theorem ok_ret (hr : M.2.2.2 = none) (hd : decode M.2.1 pc = .ok (.return_, 1)) : am_Ok T E M pc a_ret := by
  intro X d Q L S h K hR hK ha
  match S, ha with
  | [], ha => exact hR pc L _ h 0 (Or.inl ⟨hr, hd, rfl, rfl⟩) ha
theorem am_len_sh {o n : Nat} (h : am_len T o = some n) : T.1[o]? = some (.inl n) := by
  unfold am_len at h
  cases hq : T.1[o]? with
  | none => rw [hq] at h; cases h
  | some q =>
    rw [hq] at h
    cases q with
    | inl k => cases h; rfl
    | inr q => cases h
theorem am_fd_sh {o ci k : Nat} {x : Option Nat} (h : am_fd T o ci k = some x) : ∃ fs, T.1[o]? = some (.inr (ci, fs)) ∧ fs[k]? = some x := by
  unfold am_fd at h
  cases hq : T.1[o]? with
  | none => rw [hq] at h; cases h
  | some q =>
    rw [hq] at h
    cases q with
    | inl k => cases h
    | inr q =>
      obtain ⟨c, fs⟩ := q
      by_cases hc : c = ci
      · subst hc
        simp only [if_true] at h
        exact ⟨fs, rfl, h⟩
      · simp only [if_neg hc] at h
        cases h
theorem am_ci_sh {o ci : Nat} (h : am_ci T o = some ci) : ∃ fs, T.1[o]? = some (.inr (ci, fs)) := by
  unfold am_ci at h
  cases hq : T.1[o]? with
  | none => rw [hq] at h; cases h
  | some q =>
    rw [hq] at h
    cases q with
    | inl k => cases h
    | inr q =>
      obtain ⟨c, fs⟩ := q
      cases h
      exact ⟨fs, rfl⟩
theorem ok_iald (hd : decode M.2.1 pc = .ok (.iaload, 1)) (hn : pc + 1 = npc) : am_Ok T E M pc (a_iald T npc) := by
  intro X d Q L S h K hR hK ha p e s m args below meth c H locs ls hh hF hP hS hl
  subst hn
  match S, ha with
  | .inl i :: .inr o :: r, ha =>
    simp only [a_iald] at ha
    cases hq : am_len T o with
    | none => rw [hq] at ha; exact ha.elim
    | some n =>
      rw [hq] at ha
      exact va_iald hh.1 hh.2.1 hh.2.2.2.2.2.2.1 hP o 0 (am_ws_get (am_len_sh hq)) rfl ha.1 hd (hK _ _ _ _ ha.2 p e s m args below meth c H locs ls hh hF hP hS hl)
theorem ok_alen (hd : decode M.2.1 pc = .ok (.arraylength, 1)) (hn : pc + 1 = npc) : am_Ok T E M pc (a_alen T npc) := by
  intro X d Q L S h K hR hK ha p e s m args below meth c H locs ls hh hF hP hS hl
  subst hn
  match S, ha with
  | .inr o :: r, ha =>
    simp only [a_alen] at ha
    cases hq : am_len T o with
    | none => rw [hq] at ha; exact ha.elim
    | some n =>
      rw [hq] at ha
      exact va_alen hh.1 hh.2.1 hh.2.2.2.2.2.2.1 hP o 0 (am_ws_get (am_len_sh hq)) rfl rfl hd (hK _ _ _ _ ha p e s m args below meth c H locs ls hh hF hP hS hl)
theorem ok_iast (hd : decode M.2.1 pc = .ok (.iastore, 1)) (hn : pc + 1 = npc) : am_Ok T E M pc (a_iast T npc) := by
  intro X d Q L S h K hR hK ha p e s m args below meth c H locs ls hh hF hP hS hl
  subst hn
  match S, ha with
  | .inl x :: .inl i :: .inr o :: r, ha =>
    simp only [a_iast] at ha
    cases hq : am_len T o with
    | none => rw [hq] at ha; exact ha.elim
    | some n =>
      rw [hq] at ha
      refine va_iast hh.1 hh.2.1 hh.2.2.2.2.2.2.1 hP (am_D hh.2.2.2.2.2.2 h) hS o 0 (am_ws_get (am_len_sh hq)) rfl ha.1 hd (fun H1 locs1 hP1 _ hS1 => hK _ _ _ _ ha.2 p e s m args below meth c H1 locs1 ls hh hF ?_ hS1 hl)
      rw [am_ws_set (h' := am_upd h o i.toNatClampNeg x) (am_len_sh hq) (by simp only [am_cell, am_upd_self]) (fun z hz => (am_upd_ne h _ _ hz).symm)] at hP1
      exact hP1
theorem ok_get {C : String} {TT : u_T} {N ci k index : Nat} (hc : T.2.1[ci]? = some (C, TT, N)) (hin : ∀ w ∈ u_ws C TT N, w ∈ T.2.2.1) (hk : k < N) (hw : Cond.fieldLink M.1.cls index (TT k).1 (TT k).2.1 (TT k).2.2.1 ∈ T.2.2.1) (hd : decode M.2.1 pc = .ok (.getfield index, 3)) (hn : pc + 3 = npc) : am_Ok T E M pc (a_get T ci k npc) := by
  intro X d Q L S h K hR hK ha p e s m args below meth c H locs ls hh hF hP hS hl
  subst hn
  match S, ha with
  | .inr o :: r, ha =>
    simp only [a_get] at ha
    cases hq : am_fd T o ci k with
    | none => rw [hq] at ha; exact ha.elim
    | some x =>
      rw [hq] at ha
      obtain ⟨fs, h1, h2⟩ := am_fd_sh hq
      have hg : (fs.mapIdx (fun k t => am_fl E.2.2.2 h o k t))[k]? = some (am_fl E.2.2.2 h o k x) := by simp [List.getElem?_mapIdx, h2]
      refine va_get hh.1 hh.2.1 (hh.2.2.2.2.2.2.words args) hin hh.2.2.2.2.2.1 hh.2.2.2.2.2.2.1 hP o (am_ws_get h1) hc k hk (hh.2.2.2.2.2.2.word hw args) (fun _ z => z) hg hd ?_
      cases x with
      | none => exact hK _ _ _ _ ha p e s m args below meth c H locs ls hh hF hP hS hl
      | some t => exact hK _ _ _ _ ha p e s m args below meth c H locs ls hh hF hP hS hl
theorem ok_put {C : String} {TT : u_T} {N ci k index : Nat} {ty0 : Nat → FieldType} (hc : T.2.1[ci]? = some (C, TT, N)) (hin : ∀ w ∈ u_ws C TT N, w ∈ T.2.2.1) (hty : ∀ k, k < N → parseFieldDescriptor (TT k).2.2.1 = some (ty0 k)) (hnm : ∀ a, a < N → ∀ b, b < N → a ≠ b → (TT a).2.1 ≠ (TT b).2.1) (hk : k < N) (hfin : (TT k).2.2.2 = false) (hi : ty0 k = .int) (hw : Cond.fieldLink M.1.cls index (TT k).1 (TT k).2.1 (TT k).2.2.1 ∈ T.2.2.1) (hd : decode M.2.1 pc = .ok (.putfield index, 3)) (hn : pc + 3 = npc) : am_Ok T E M pc (a_put T ci k npc) := by
  intro X d Q L S h K hR hK ha p e s m args below meth c H locs ls hh hF hP hS hl
  subst hn
  match S, ha with
  | .inl v :: .inr o :: r, ha =>
    simp only [a_put] at ha
    cases hq : am_fd T o ci k with
    | none => rw [hq] at ha; exact ha.elim
    | some x =>
      rw [hq] at ha
      cases x with
      | some t => exact ha.elim
      | none =>
        obtain ⟨fs, h1, h2⟩ := am_fd_sh hq
        have hkl : k < fs.length := (List.getElem?_eq_some_iff.mp h2).1
        refine va_put (ty := .int) (v := .int v) hh.1 hh.2.1 (hh.2.2.2.2.2.2.words args) hin ty0 hty hnm hh.2.2.2.2.2.1 hh.2.2.2.2.2.2.1 hP (am_D hh.2.2.2.2.2.2 h) hS o (am_ws_get h1) hc k hk (hh.2.2.2.2.2.2.word hw args) (fun _ z => z) hfin (by rw [hty k hk, hi]) rfl rfl (by simpa [List.length_mapIdx] using hkl) hd (fun H1 locs1 hP1 _ hS1 => hK _ _ _ _ ha p e s m args below meth c H1 locs1 ls hh hF ?_ hS1 hl)
        rw [am_ws_set (h' := am_upd h o k v) h1 (am_putcell h2) (fun z hz => (am_upd_ne h _ _ hz).symm)] at hP1
        exact hP1
theorem ok_putz {C : String} {TT : u_T} {N ci k index : Nat} {ty0 : Nat → FieldType} (hc : T.2.1[ci]? = some (C, TT, N)) (hin : ∀ w ∈ u_ws C TT N, w ∈ T.2.2.1) (hty : ∀ k, k < N → parseFieldDescriptor (TT k).2.2.1 = some (ty0 k)) (hnm : ∀ a, a < N → ∀ b, b < N → a ≠ b → (TT a).2.1 ≠ (TT b).2.1) (hk : k < N) (hfin : (TT k).2.2.2 = false) (hi : ty0 k = .boolean) (hw : Cond.fieldLink M.1.cls index (TT k).1 (TT k).2.1 (TT k).2.2.1 ∈ T.2.2.1) (hd : decode M.2.1 pc = .ok (.putfield index, 3)) (hn : pc + 3 = npc) : am_Ok T E M pc (a_putz T ci k npc) := by
  intro X d Q L S h K hR hK ha p e s m args below meth c H locs ls hh hF hP hS hl
  subst hn
  match S, ha with
  | .inl v :: .inr o :: r, ha =>
    simp only [a_putz] at ha
    cases hq : am_fd T o ci k with
    | none => rw [hq] at ha; exact ha.elim
    | some x =>
      rw [hq] at ha
      cases x with
      | some t => exact ha.elim
      | none =>
        obtain ⟨fs, h1, h2⟩ := am_fd_sh hq
        have hkl : k < fs.length := (List.getElem?_eq_some_iff.mp h2).1
        refine va_put (ty := .boolean) (v := .int v) hh.1 hh.2.1 (hh.2.2.2.2.2.2.words args) hin ty0 hty hnm hh.2.2.2.2.2.1 hh.2.2.2.2.2.2.1 hP (am_D hh.2.2.2.2.2.2 h) hS o (am_ws_get h1) hc k hk (hh.2.2.2.2.2.2.word hw args) (fun _ z => z) hfin (by rw [hty k hk, hi]) (by rcases ha.1 with e | e <;> subst e <;> rfl) (by rcases ha.1 with e | e <;> subst e <;> rfl) (by simpa [List.length_mapIdx] using hkl) hd (fun H1 locs1 hP1 _ hS1 => hK _ _ _ _ ha.2 p e s m args below meth c H1 locs1 ls hh hF ?_ hS1 hl)
        rw [am_ws_set (h' := am_upd h o k v) h1 (am_putcell h2) (fun z hz => (am_upd_ne h _ _ hz).symm)] at hP1
        exact hP1
end OK
