/-! ===== part 01: a machine of ints over a fixed graph of cells, packed over the kit's judgement W ===== -/
abbrev am_V : Type := Int32 ⊕ Nat
abbrev am_H : Type := Nat → Nat → Int32
abbrev am_L : Type := List (Option am_V)
abbrev am_Sh : Type := Nat ⊕ (Nat × List (Option Nat))
abbrev am_Str : Type := Nat × List Nat × List (List Int32)
abbrev am_T : Type := List am_Sh × List vw_C × List Cond × am_Str × List (String × Nat × String × Nat)
abbrev am_E : Type := Launch × va_G × ClassId × (Nat → Nat)
abbrev am_M : Type := MethodName × ByteArray × Nat × Option FieldType
def am_dv (al : Nat → Nat) : am_V → Value
  | .inl i => .int i
  | .inr o => .ref (al o)
def am_fl (al : Nat → Nat) (h : am_H) (o k : Nat) : Option Nat → Value
  | none => .int (h o k)
  | some t => .ref (al t)
def am_cell (al : Nat → Nat) (cA : ClassId) (h : am_H) (o : Nat) : am_Sh → va_E
  | .inl n => .inl (cA, n, .inl (h o))
  | .inr q => .inr (q.1, q.2.mapIdx (fun k t => am_fl al h o k t))
def am_ws (sh : List am_Sh) (al : Nat → Nat) (cA : ClassId) (h : am_H) : va_W := sh.mapIdx (fun o q => (al o, am_cell al cA h o q))
def am_upd (h : am_H) (o k : Nat) (v : Int32) : am_H := fun q => if q = o then upd (h o) k v else h q
theorem am_upd_self (h : am_H) (o k : Nat) (v : Int32) : am_upd h o k v o = upd (h o) k v := if_pos rfl
theorem am_upd_ne (h : am_H) {o q : Nat} (k : Nat) (v : Int32) (hq : q ≠ o) : am_upd h o k v q = h q := if_neg hq
theorem am_cell_congr {al : Nat → Nat} {cA : ClassId} {h h' : am_H} {o : Nat} {q : am_Sh} (e : h o = h' o) : am_cell al cA h o q = am_cell al cA h' o q := by
  cases q with
  | inl n => simp only [am_cell, e]
  | inr q =>
    have hf : (fun k t => am_fl al h o k t) = (fun k t => am_fl al h' o k t) := by
      funext k t
      cases t <;> simp only [am_fl, e]
    simp only [am_cell, hf]
theorem am_ws_get {sh : List am_Sh} {al : Nat → Nat} {cA : ClassId} {h : am_H} {o : Nat} {q : am_Sh} (hq : sh[o]? = some q) : (am_ws sh al cA h)[o]? = some (al o, am_cell al cA h o q) := by
  simp [am_ws, List.getElem?_mapIdx, hq]
theorem am_ws_some {sh : List am_Sh} {al : Nat → Nat} {cA : ClassId} {h : am_H} {o : Nat} {x : Nat × va_E} (hx : (am_ws sh al cA h)[o]? = some x) : o < sh.length ∧ x.1 = al o := by
  simp only [am_ws, List.getElem?_mapIdx, Option.map_eq_some_iff] at hx
  obtain ⟨q, hq, rfl⟩ := hx
  exact ⟨(List.getElem?_eq_some_iff.mp hq).1, rfl⟩
theorem am_ws_set {sh : List am_Sh} {al : Nat → Nat} {cA : ClassId} {h h' : am_H} {o : Nat} {q : am_Sh} {e : va_E} (hq : sh[o]? = some q) (he : am_cell al cA h' o q = e) (ho : ∀ i, i ≠ o → h i = h' i) : (am_ws sh al cA h).set o (al o, e) = am_ws sh al cA h' := by
  apply List.ext_getElem?
  intro i
  by_cases hi : i = o
  · subst hi
    have hl : i < (am_ws sh al cA h).length := by
      simp only [am_ws, List.length_mapIdx]
      exact (List.getElem?_eq_some_iff.mp hq).1
    rw [List.getElem?_set_self hl, am_ws_get hq, he]
  · rw [List.getElem?_set_ne (Ne.symm hi)]
    simp only [am_ws, List.getElem?_mapIdx]
    cases sh[i]? with
    | none => rfl
    | some x => simp only [Option.map_some, am_cell_congr (ho i hi)]
def am_A (T : am_T) (E : am_E) : Nat → Prop := fun q => ∃ o, o < T.1.length ∧ E.2.2.2 o = q
def am_P (T : am_T) (E : am_E) (h : am_H) (H : Heap) : Prop := va_P E.2.1 T.2.1 (am_ws T.1 E.2.2.2 E.2.2.1 h) H
def am_nest : Cond → Bool
  | .methodLinkNest _ _ _ _ => true
  | _ => false
def am_stable (w : Cond) : Bool := w.onTables && (w.keeps || am_nest w)
def am_K (T : am_T) (E : am_E) (U : State) : Prop :=
  va_K E.2.1 T.2.1 [(E.2.2.1, .int)] U ∧ (∀ w ∈ T.2.2.1, am_stable w = true ∧ va_Nw w U) ∧ (∀ i j, i < T.1.length → j < T.1.length → E.2.2.2 i = E.2.2.2 j → i = j) ∧
  vk_S T.2.2.2.1.1 T.2.2.2.1.2.1 T.2.2.2.1.2.2 (fun j => E.2.2.2 (200 + j)) (fun j => E.2.2.2 (300 + j)) (am_A T E) U U.heap ∧
  (∀ r ∈ T.2.2.2.2, r.2.2.2 < T.2.2.2.1.1 ∧ vk_R r.1 r.2.1 r.2.2.1 (E.2.2.2 (200 + r.2.2.2)) U) ∧ va_Z "java/lang/String" "COMPACT_STRINGS" "Z" (.int 1) (am_A T E) U U.heap ∧
  va_X (E.2.2.2 400) (E.2.2.2 401) (fun j => nI (E.2.2.2 (500 + j))) U U.heap ∧ E.2.2.2 400 < U.heap.size ∧ ¬ am_A T E (E.2.2.2 400) ∧
  ∃ v : Value, v.isRef = true ∧ va_Z "jdk/internal/util/Preconditions" "SIOOBE_FORMATTER" "Ljava/util/function/BiFunction;" v (am_A T E) U U.heap
theorem am_stable_on {w : Cond} (h : am_stable w = true) : w.onTables = true := by
  simp only [am_stable, Bool.and_eq_true] at h
  exact h.1
theorem am_Nw_warm {w : Cond} (h : am_stable w = true) {s U : State} (hW : s.WarmedH U.vm) (hw : va_Nw w s) : va_Nw w U := by
  have h1 := h
  simp only [am_stable, Bool.and_eq_true, Bool.or_eq_true] at h1
  rcases h1.2 with h2 | h2
  · exact word_at hW (Or.inl (by simp only [Bool.and_eq_true]; exact ⟨h1.1, h2⟩)) hw
  · cases w <;> first | exact va_Nw.warmM hW hw | (cases h2)
theorem am_K.warm {T : am_T} {E : am_E} {s U : State} (hW : s.WarmedH U.vm) (hq : ∀ a : Nat, a < s.heap.size → ¬ am_A T E a → U.heap[a]? = s.heap[a]?) (h : am_K T E s) : am_K T E U := by
  obtain ⟨h1, h2, h3, h4, h5, h6, h7, h8, h9, h10⟩ := h
  have hb : U.heap[E.2.2.2 400]? = s.heap[E.2.2.2 400]? := hq _ h8 h9
  exact ⟨va_K.moved hW.alike h1, fun w hw => ⟨(h2 w hw).1, am_Nw_warm (h2 w hw).1 hW (h2 w hw).2⟩, h3, (vk_S.moved hW.alike h4).kept hq, fun r hr => ⟨(h5 r hr).1, (h5 r hr).2.warm hW⟩, (va_Z.moved hW.alike h6).kept hq, (va_X.moved hW.alike h7).kept hb, (by rw [Array.getElem?_eq_getElem h8] at hb; exact (Array.getElem?_eq_some_iff.mp hb).1), h9, h10.elim fun v z => ⟨v, z.1, (va_Z.moved hW.alike z.2).kept hq⟩⟩
theorem am_K.call {T : am_T} {E : am_E} {U : State} (g : JFrame) (mk : MethodId) (a : Array Value) (h : am_K T E U) : am_K T E (U.calling g mk a) := by
  obtain ⟨h1, h2, h3, h4, h5, h6, h7, h8, h9, h10⟩ := h
  have hvm : (U.calling g mk a).vm = U.vm := rfl
  have hh : (U.calling g mk a).heap = U.heap := rfl
  refine ⟨va_K.moved (u := U) (U := U.calling g mk a) (Vm.Alike.refl U.vm) h1, fun w hw => ⟨(h2 w hw).1, va_Nw.same (am_stable_on (h2 w hw).1) hvm.symm (h2 w hw).2⟩, h3, ?_, fun r hr => ⟨(h5 r hr).1, (h5 r hr).2.same hvm⟩, ?_, ?_, h8, h9, ?_⟩
  · rw [hh]
    exact vk_S.moved (u := U) (U := U.calling g mk a) (Vm.Alike.refl U.vm) h4
  · rw [hh]
    exact va_Z.moved (u := U) (U := U.calling g mk a) (Vm.Alike.refl U.vm) h6
  · rw [hh]
    exact va_X.moved (u := U) (U := U.calling g mk a) (Vm.Alike.refl U.vm) h7
  · rw [hh]
    exact h10.elim fun v z => ⟨v, z.1, va_Z.moved (u := U) (U := U.calling g mk a) (Vm.Alike.refl U.vm) z.2⟩
theorem am_K.word {T : am_T} {E : am_E} {U : State} (h : am_K T E U) {w : Cond} (hw : w ∈ T.2.2.1) (args : Array Value) : w.before args U = true := va_Nw.use (am_stable_on (h.2.1 w hw).1) (h.2.1 w hw).2
theorem am_K.words {T : am_T} {E : am_E} {U : State} (h : am_K T E U) (args : Array Value) : ∀ w ∈ T.2.2.1, w.before args U = true := fun _ hw => h.word hw args
theorem am_D {T : am_T} {E : am_E} {U : State} (h : am_K T E U) (hp : am_H) : va_D (am_A T E) (am_ws T.1 E.2.2.2 E.2.2.1 hp) := by
  refine ⟨fun i j p q hi hj e => ?_, fun k q hk => ?_⟩
  · obtain ⟨a1, a2⟩ := am_ws_some hi
    obtain ⟨b1, b2⟩ := am_ws_some hj
    exact h.2.2.1 i j a1 b1 (by rw [← a2, ← b2]; exact e)
  · obtain ⟨a1, a2⟩ := am_ws_some hk
    exact ⟨k, a1, a2.symm⟩
/-! locals -/
def am_get : am_L → Nat → Option am_V
  | [], _ => none
  | x :: _, 0 => x
  | _ :: t, n + 1 => am_get t n
def am_set : am_L → Nat → am_V → am_L
  | [], _, _ => []
  | _ :: t, 0, v => some v :: t
  | x :: t, n + 1, v => x :: am_set t n v
def am_lv (al : Nat → Nat) : Nat → am_L → List (Nat × Value)
  | _, [] => []
  | i, none :: t => am_lv al (i + 1) t
  | i, some v :: t => (i, am_dv al v) :: am_lv al (i + 1) t
theorem am_lv_ge {al : Nat → Nat} : ∀ (L : am_L) (i : Nat) (q : Nat × Value), q ∈ am_lv al i L → i ≤ q.1
  | [], _, _, h => by cases h
  | none :: t, i, q, h => Nat.le_of_succ_le (am_lv_ge t (i + 1) q h)
  | some v :: t, i, q, h => by
    rcases List.mem_cons.mp h with h | h
    · rw [h]; exact Nat.le_refl _
    · exact Nat.le_of_succ_le (am_lv_ge t (i + 1) q h)
theorem am_lv_mem {al : Nat → Nat} : ∀ (L : am_L) (i n : Nat) (v : am_V), am_get L n = some v → (i + n, am_dv al v) ∈ am_lv al i L
  | [], _, _, _, h => by cases h
  | none :: t, i, 0, v, h => by cases h
  | some x :: t, i, 0, v, h => by
    cases h
    exact List.mem_cons_self
  | none :: t, i, n + 1, v, h => by
    have h1 := am_lv_mem (al := al) t (i + 1) n v h
    rw [show i + (n + 1) = i + 1 + n by omega]
    exact h1
  | some x :: t, i, n + 1, v, h => by
    have h1 := am_lv_mem (al := al) t (i + 1) n v h
    rw [show i + (n + 1) = i + 1 + n by omega]
    exact List.mem_cons_of_mem _ h1
theorem am_lv_set {al : Nat → Nat} : ∀ (L : am_L) (i n : Nat) (v : am_V) (q : Nat × Value), q ∈ am_lv al i (am_set L n v) → q = (i + n, am_dv al v) ∨ (q ∈ am_lv al i L ∧ q.1 ≠ i + n)
  | [], _, _, _, _, h => by cases h
  | none :: t, i, 0, v, q, h => by
    rcases List.mem_cons.mp h with h | h
    · exact Or.inl h
    · have := am_lv_ge t (i + 1) q h
      exact Or.inr ⟨h, by omega⟩
  | some x :: t, i, 0, v, q, h => by
    rcases List.mem_cons.mp h with h | h
    · exact Or.inl h
    · have := am_lv_ge t (i + 1) q h
      exact Or.inr ⟨List.mem_cons_of_mem _ h, by omega⟩
  | none :: t, i, n + 1, v, q, h => by
    rcases am_lv_set t (i + 1) n v q h with h | h
    · exact Or.inl (by rw [h]; simp; omega)
    · exact Or.inr ⟨h.1, by omega⟩
  | some x :: t, i, n + 1, v, q, h => by
    rcases List.mem_cons.mp h with h | h
    · refine Or.inr ⟨by rw [h]; exact List.mem_cons_self, by rw [h]; simp⟩
    · rcases am_lv_set t (i + 1) n v q h with h | h
      · exact Or.inl (by rw [h]; simp; omega)
      · exact Or.inr ⟨List.mem_cons_of_mem _ h.1, by omega⟩
theorem am_has_mono {ls : Array Slot} {n : Nat} {l l' : List (Nat × Value)} (h : lv_has ls n l) (hs : ∀ q ∈ l', q ∈ l) : lv_has ls n l' := ⟨h.1, h.2.1, fun q hq => h.2.2 q (hs q hq)⟩
theorem am_cat (al : Nat → Nat) (v : am_V) : (am_dv al v).category = 1 := by cases v <;> rfl
theorem am_lv_cat {al : Nat → Nat} : ∀ (L : am_L) (i : Nat) (q : Nat × Value), q ∈ am_lv al i L → q.2.category = 1
  | [], _, _, h => by cases h
  | none :: t, i, q, h => am_lv_cat t (i + 1) q h
  | some v :: t, i, q, h => by
    rcases List.mem_cons.mp h with h | h
    · rw [h]; exact am_cat al v
    · exact am_lv_cat t (i + 1) q h
theorem am_has_set {ls : Array Slot} {nL : Nat} {al : Nat → Nat} {L : am_L} {n : Nat} {v : am_V} (h : lv_has ls nL ((n, am_dv al v) :: (am_lv al 0 L).filter (fun q => !(q.1 == n) && !(q.1 + 1 == n && q.2.category == 2)))) : lv_has ls nL (am_lv al 0 (am_set L n v)) := by
  refine am_has_mono h fun q hq => ?_
  rcases am_lv_set L 0 n v q hq with h1 | ⟨h1, h2⟩
  · rw [h1, Nat.zero_add]
    exact List.mem_cons_self
  · refine List.mem_cons_of_mem _ (List.mem_filter.mpr ⟨h1, ?_⟩)
    rw [Nat.zero_add] at h2
    simp [h2, am_lv_cat L 0 q h1]
theorem am_at {ls : Array Slot} {nL : Nat} {al : Nat → Nat} {L : am_L} {n : Nat} {v : am_V} (h : lv_has ls nL (am_lv al 0 L)) (hg : am_get L n = some v) : ls[n]? = some (.val (am_dv al v)) := by
  have h1 := h.2.2 _ (am_lv_mem (al := al) L 0 n v hg)
  rw [Nat.zero_add] at h1
  exact h1
/-! the judgements -/
def am_rm (d : Nat) : Room := { frames := d, cells := 0, slots := 0, locals := 40 * d }
def am_Qc (T : am_T) (E : am_E) (ret : Option FieldType) (Q : Int32 → am_H → Prop) : Array Value → State → Outcome → State → Prop := match ret with
  | none => va_Qv (fun h' => Q 0 h') (fun h' t => am_P T E h' t.heap) (am_A T E)
  | some _ => va_Qi Q (fun h' t => am_P T E h' t.heap) (am_A T E)
def am_here (T : am_T) (E : am_E) (M : am_M) (p : Program) (s : State) (m : MethodId) (meth : Method) (c : Code) : Prop :=
  p.tables.exec = Jvm.exec ∧ c.code = M.2.1 ∧ c.maxLocals = M.2.2.1 ∧ meth.sig.returnType = M.2.2.2 ∧ meth.locks = false ∧ s.vm.findClass M.1.cls = some m.cls ∧ am_K T E s
/-- what a walk is for: its room, the cells and slots that are made already, its end -/
abbrev am_X : Type := Room × Nat × Nat × (Array Value → State → List Frame → State → Prop)
def am_fit (X : am_X) (d : Nat) : Prop := d ≤ X.1.frames ∧ 40 * d ≤ X.1.locals ∧ X.2.1 ≤ X.1.cells ∧ X.2.2.1 ≤ X.1.slots
def am_B (T : am_T) (E : am_E) (X : am_X) (d : Nat) (M : am_M) (pc : Nat) (L : am_L) (S : List am_V) (h : am_H) : Prop :=
  ∀ (p : Program) (e : Env) (s : State) (m : MethodId) (args : Array Value) (below : List Frame) (meth : Method) (c : Code) (H : Heap) (locs : List Loc) (ls : Array Slot),
    am_here T E M p s m meth c → am_fit X d → am_P T E h H → va_S (am_A T E) s.heap H locs → lv_has ls M.2.2.1 (am_lv E.2.2.2 0 L) →
    W p E.1 e X.1 s m args below meth c H locs X.2.1 X.2.2.1 (X.2.2.2 args s below) (F0 m pc ls (S.map (am_dv E.2.2.2)))
def am_mX (T : am_T) (E : am_E) (d : Nat) (M : am_M) (Q : Int32 → am_H → Prop) : am_X := (am_rm d, 0, 0, fun args s below => MQ below (am_Qc T E M.2.2.2 Q) args s 0 0 (am_A T E))
def am_R (T : am_T) (E : am_E) (d : Nat) (M : am_M) (Q : Int32 → am_H → Prop) (pc : Nat) (L : am_L) (S : List am_V) (h : am_H) : Prop := am_B T E (am_mX T E d M Q) d M pc L S h
/-- how a method's return stands on the stack -/
def am_rst (ret : Option FieldType) (cc : ByteArray) (pc : Nat) (S : List am_V) (v : Int32) : Prop :=
  (ret = none ∧ decode cc pc = .ok (.return_, 1) ∧ S = [] ∧ v = 0) ∨ (ret = some .int ∧ decode cc pc = .ok (.ireturn, 1) ∧ S = [.inl v]) ∨ (∃ ty, ret = some ty ∧ decode cc pc = .ok (.ireturn, 1) ∧ S = [.inl v] ∧ narrow ty (.int v) = .int v)
/-- the walk's end takes a return with Q -/
def am_Ret (T : am_T) (E : am_E) (M : am_M) (X : am_X) (d : Nat) (Q : Int32 → am_H → Prop) : Prop := ∀ (pc : Nat) (L : am_L) (S : List am_V) (h : am_H) (v : Int32), am_rst M.2.2.2 M.2.1 pc S v → Q v h → am_B T E X d M pc L S h
theorem am_ret_m {T : am_T} {E : am_E} {M : am_M} {d : Nat} {Q : Int32 → am_H → Prop} : am_Ret T E M (am_mX T E d M Q) d Q := by
  intro pc L S h v hst hq p e s m args below meth c H locs ls hh hF hP hS hl
  have hlocks : meth.locks = false := hh.2.2.2.2.1
  have hr := hh.2.2.2.1
  show W p E.1 e (am_rm d) s m args below meth c H locs 0 0 (MQ below (am_Qc T E M.2.2.2 Q) args s 0 0 (am_A T E)) _
  rcases hst with ⟨h1, h2, rfl, rfl⟩ | ⟨h1, h2, rfl⟩ | ⟨ty, h1, h2, rfl, h3⟩
  · rw [h1] at hr ⊢
    refine W.vret hh.1 hh.2.1 hr (fun t ht hW => ⟨⟨h, rfl, hq, ?_⟩, hS.F ht⟩) hS.2.2 h2
    show am_P T E h t.heap
    rw [ht]
    exact hP
  · rw [h1] at hr ⊢
    refine W.iret hh.1 hh.2.1 hr (fun t ht hW => ⟨⟨v, h, rfl, hq, ?_⟩, hS.F ht⟩) hS.2.2 h2
    show am_P T E h t.heap
    rw [ht]
    exact hP
  · rw [h1] at hr ⊢
    refine W.zret hh.1 hh.2.1 hr h3 (fun t ht hW => ⟨⟨v, h, rfl, hq, ?_⟩, hS.F ht⟩) hS.2.2 h2
    show am_P T E h t.heap
    rw [ht]
    exact hP
def am_Pre (T : am_T) (E : am_E) (av : List am_V) (h : am_H) : Array Value → State → Prop := va_Pc (av.map (am_dv E.2.2.2)) (fun U => am_P T E h U.heap ∧ am_K T E U)
def am_C (T : am_T) (E : am_E) (d : Nat) (M : am_M) (av : List am_V) (h : am_H) (Q : Int32 → am_H → Prop) : Prop :=
  ∃ Q0 : Int32 → am_H → Prop, Met E.1 M.1 [.code M.1 M.2.1 M.2.2.1 M.2.2.2] (am_rm d) (am_Pre T E av h) (am_Qc T E M.2.2.2 Q0) 0 0 (am_A T E) ∧ ∀ r h', Q0 r h' → Q r h'
theorem am_C.mono {T : am_T} {E : am_E} {d : Nat} {M : am_M} {av : List am_V} {h : am_H} {Q Q' : Int32 → am_H → Prop} (hC : am_C T E d M av h Q) (hq : ∀ r h', Q r h' → Q' r h') : am_C T E d M av h Q' := by
  obtain ⟨Q0, h1, h2⟩ := hC
  exact ⟨Q0, h1, fun r h' z => hq r h' (h2 r h' z)⟩
theorem am_blind (T : am_T) (E : am_E) (av : List am_V) (h : am_H) : FrameBlind (am_Pre T E av h) := fun a _ g mk q => ⟨q.1, q.2.1, q.2.2.call g mk a⟩
def am_init (n : Nat) (av : List am_V) : am_L := av.map some ++ List.replicate (n - av.length) none
theorem am_lv_rep {al : Nat → Nat} : ∀ (n i : Nat), am_lv al i (List.replicate n none) = []
  | 0, _ => rfl
  | n + 1, i => am_lv_rep n (i + 1)
theorem am_lv_init {al : Nat → Nat} (n : Nat) : ∀ (av : List am_V) (i : Nat), am_lv al i (av.map some ++ List.replicate n none) = lv_args i (av.map (am_dv al))
  | [], i => am_lv_rep n i
  | v :: t, i => by
    show (i, am_dv al v) :: am_lv al (i + 1) (t.map some ++ List.replicate n none) = (i, am_dv al v) :: lv_args (if (am_dv al v).category = 2 then i + 2 else i + 1) (t.map (am_dv al))
    rw [am_cat, am_lv_init n t (i + 1)]
    rfl
theorem am_sl_len (al : Nat → Nat) : ∀ av : List am_V, (lg_sl (av.map (am_dv al))).length = av.length
  | [] => rfl
  | v :: t => by
    have h := am_sl_len al t
    simp only [lg_sl, List.map_cons, List.flatMap_cons, List.length_append, List.length_cons] at h ⊢
    rw [h, am_cat]
    simp; omega
theorem am_C.of {T : am_T} {E : am_E} {d : Nat} {M : am_M} {av : List am_V} {h : am_H} {Q : Int32 → am_H → Prop} (hy : plainName M.1.cls = true) (hn : av.length ≤ M.2.2.1) (hR : am_R T E d M Q 0 (am_init M.2.2.1 av) [] h) : am_C T E d M av h Q := by
  refine ⟨Q, ?_, fun _ _ z => z⟩
  refine Met.ofW (cc := M.2.1) (maxL := M.2.2.1) (ret := M.2.2.2) hy rfl ?_
  intro p e s m args below meth c s₁ B hml hv
  obtain ⟨rfl, hP, hK⟩ := hv
  have hl := lv_entry (av.map (am_dv E.2.2.2)) (n := M.2.2.1) (by rw [am_sl_len]; exact hn)
  rw [lg_entry_eq]
  refine hR p e s m _ below meth c s.heap [] _ ⟨B.exec, B.bytes, hml, B.returns, B.notSynchronized, findClass_of_methodNamed B.named, hK⟩ ⟨Nat.le_refl _, Nat.le_refl _, Nat.le_refl _, Nat.le_refl _⟩ hP va_S.rf ?_
  rw [am_init, am_lv_init]
  exact hl
/-! actions: what an instruction asks, and what comes behind it -/
abbrev am_Kt : Type := Nat → am_L → List am_V → am_H → Prop
abbrev am_Ct : Type := am_M → List am_V → am_H → (Int32 → am_H → Prop) → Prop
abbrev am_Act : Type := Nat → am_Ct → (Int32 → am_H → Prop) → am_L → List am_V → am_H → am_Kt → Prop
def am_Cd (T : am_T) (E : am_E) (d : Nat) : am_Ct := fun M av h Q => match d with
  | 0 => False
  | d' + 1 => am_C T E d' M av h Q
def am_Ok (T : am_T) (E : am_E) (M : am_M) (pc : Nat) (a : am_Act) : Prop := ∀ (X : am_X) (d : Nat) (Q : Int32 → am_H → Prop) (L : am_L) (S : List am_V) (h : am_H) (K : am_Kt),
  am_Ret T E M X d Q → (∀ pc' L' S' h', K pc' L' S' h' → am_B T E X d M pc' L' S' h') → a d (am_Cd T E d) Q L S h K → am_B T E X d M pc L S h
def am_GoodE (T : am_T) (E : am_E) (M : am_M) (tbl : Nat → Option am_Act) : Prop := ∀ (pc : Nat) (a : am_Act), tbl pc = some a → am_Ok T E M pc a
def am_Good (T : am_T) (M : am_M) (tbl : Nat → Option am_Act) : Prop := ∀ (E : am_E), am_GoodE T E M tbl
