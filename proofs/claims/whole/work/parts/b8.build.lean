/-! ===== part b8: objects as their constructors make them ===== -/
def KW (D : va_G) (cA : ClassId) (U : State) : Prop := va_K D tcl [(cA, .int)] U ∧ (∀ w ∈ tbw, am_stable w = true ∧ va_Nw w U) ∧ va_Nw (.arrayClass .int) U
theorem KW.word {D : va_G} {cA : ClassId} {U : State} (h : KW D cA U) {w : Cond} (hw : w ∈ tbw) (args : Array Value) : w.before args U = true := va_Nw.use (am_stable_on (h.2.1 w hw).1) (h.2.1 w hw).2
theorem KW.words {D : va_G} {cA : ClassId} {U : State} (h : KW D cA U) (args : Array Value) : ∀ w ∈ tbw, w.before args U = true := fun _ hw => h.word hw args
theorem KW.arr {D : va_G} {cA : ClassId} {U : State} (h : KW D cA U) (args : Array Value) : (Cond.arrayClass .int).before args U = true := h.2.2
theorem KW.warm {D : va_G} {cA : ClassId} {s U : State} (hW : s.WarmedH U.vm) (h : KW D cA s) : KW D cA U := ⟨va_K.moved hW.alike h.1, fun w hw => ⟨(h.2.1 w hw).1, am_Nw_warm (h.2.1 w hw).1 hW (h.2.1 w hw).2⟩, word_at hW (Or.inr ⟨_, rfl⟩) h.2.2⟩
theorem KW.call {D : va_G} {cA : ClassId} {U : State} (g : JFrame) (mk : MethodId) (a : Array Value) (h : KW D cA U) : KW D cA (U.calling g mk a) := by
  have hvm : (U.calling g mk a).vm = U.vm := rfl
  exact ⟨va_K.moved (u := U) (U := U.calling g mk a) (Vm.Alike.refl U.vm) h.1, fun w hw => ⟨(h.2.1 w hw).1, va_Nw.same (am_stable_on (h.2.1 w hw).1) hvm.symm (h.2.1 w hw).2⟩, h.2.2⟩
def cb_rm (d mc ms : Nat) : Room := { frames := d, cells := mc, slots := ms, locals := 40 * d }
def cb_Pre (D : va_G) (cA : ClassId) (ci : Nat) (fs0 avs : List Value) (q sz : Nat) : Array Value → State → Prop := va_Pc (.ref q :: avs) (fun U => U.heap.size = sz ∧ va_P D tcl [(q, .inr (ci, fs0))] U.heap ∧ KW D cA U)
def cb_Q (D : va_G) (w1 : Nat → (Nat → Nat) → va_W) (ci : Nat) (fs0 : List Value) (q sz : Nat) : Array Value → State → Outcome → State → Prop := va_Qv (fun _ : Nat → Nat => True) (fun u t => va_P D tcl (w1 q u) t.heap ∧ va_D (va_A [(q, .inr (ci, fs0))] sz) (w1 q u)) (va_A [(q, .inr (ci, fs0))] sz)
/-- a constructor: from the own cell with its defaults to the cells w1 -/
def cb_C (l : Launch) (D : va_G) (cA : ClassId) (M : am_M) (d mc ms ci : Nat) (fs0 avs : List Value) (w1 : Nat → (Nat → Nat) → va_W) : Prop :=
  ∀ (q sz : Nat), Met l M.1 [.code M.1 M.2.1 M.2.2.1 M.2.2.2] (cb_rm d mc ms) (cb_Pre D cA ci fs0 avs q sz) (cb_Q D w1 ci fs0 q sz) mc ms (va_A [(q, .inr (ci, fs0))] sz)
def cb_here (D : va_G) (cA : ClassId) (M : am_M) (p : Program) (s : State) (m : MethodId) (meth : Method) (c : Code) : Prop :=
  p.tables.exec = Jvm.exec ∧ c.code = M.2.1 ∧ c.maxLocals = M.2.2.1 ∧ meth.sig.returnType = M.2.2.2 ∧ meth.locks = false ∧ s.vm.findClass M.1.cls = some m.cls ∧ KW D cA s
def cb_B (l : Launch) (D : va_G) (cA : ClassId) (M : am_M) (R : Room) (A : Nat → Prop) (Z : Array Value → State → List Frame → State → Prop) (Y : State → Method → Array Value → Prop) (pc : Nat) (L : List (Nat × Value)) (S : List Value) (ws : va_W) (cells slots : Nat) : Prop :=
  ∀ (p : Program) (e : Env) (s : State) (m : MethodId) (args : Array Value) (below : List Frame) (meth : Method) (c : Code) (H : Heap) (locs : List Loc) (ls : Array Slot),
    cb_here D cA M p s m meth c → Y s meth args → (∀ q, s.heap.size ≤ q → A q) → va_P D tcl ws H → va_D A ws → va_S A s.heap H locs → lv_has ls M.2.2.1 L →
    W p l e R s m args below meth c H locs cells slots (Z args s below) (F0 m pc ls S)
section CB
variable {l : Launch} {D : va_G} {cA : ClassId} {M : am_M} {R : Room} {A : Nat → Prop} {Z : Array Value → State → List Frame → State → Prop} {Y : State → Method → Array Value → Prop} {pc npc : Nat} {L : List (Nat × Value)} {S : List Value} {ws : va_W} {cells slots : Nat}
theorem cb_aload {k : Fin 4} {x : Nat} (hd : decode M.2.1 pc = .ok (.aload_n k, 1)) (i : Nat) (hi : L[i]? = some ((k : Nat), .ref x)) (hn : pc + 1 = npc) (kk : cb_B l D cA M R A Z Y npc L (.ref x :: S) ws cells slots) : cb_B l D cA M R A Z Y pc L S ws cells slots := by
  intro p e s m args below meth c H locs ls hh hY hA hP hD hS hl
  subst hn
  exact lv_aload_n hh.1 hh.2.1 hd rfl (lv_at hl i hi) (kk p e s m args below meth c H locs ls hh hY hA hP hD hS hl)
theorem cb_astore {k : Fin 4} {x : Nat} (hd : decode M.2.1 pc = .ok (.astore_n k, 1)) (hk : (k : Nat) < M.2.2.1) {L' : List (Nat × Value)} (hL : ((k : Nat), Value.ref x) :: L.filter (fun q => !(q.1 == (k : Nat)) && !(q.1 + 1 == (k : Nat) && q.2.category == 2)) = L') (hn : pc + 1 = npc) (kk : cb_B l D cA M R A Z Y npc L' S ws cells slots) : cb_B l D cA M R A Z Y pc L (.ref x :: S) ws cells slots := by
  intro p e s m args below meth c H locs ls hh hY hA hP hD hS hl
  subst hn
  exact lv_astore_n hh.1 hh.2.1 hd rfl hl hk hL (fun ls' hl' => kk p e s m args below meth c H locs ls' hh hY hA hP hD hS hl')
theorem cb_iconst {n : Int} {v : Int32} (hd : decode M.2.1 pc = .ok (.iconst n, 1)) (hv : Int32.ofInt n = v) (hn : pc + 1 = npc) (kk : cb_B l D cA M R A Z Y npc L (.int v :: S) ws cells slots) : cb_B l D cA M R A Z Y pc L S ws cells slots := by
  intro p e s m args below meth c H locs ls hh hY hA hP hD hS hl
  subst hn
  exact lv_iconst hh.1 hh.2.1 hd hv (kk p e s m args below meth c H locs ls hh hY hA hP hD hS hl)
theorem cb_bipush {n : Int} {v : Int32} (hd : decode M.2.1 pc = .ok (.bipush n, 2)) (hv : (Int8.ofInt n).toInt32 = v) (hn : pc + 2 = npc) (kk : cb_B l D cA M R A Z Y npc L (.int v :: S) ws cells slots) : cb_B l D cA M R A Z Y pc L S ws cells slots := by
  intro p e s m args below meth c H locs ls hh hY hA hP hD hS hl
  subst hn
  exact lv_bipush hh.1 hh.2.1 hd hv (kk p e s m args below meth c H locs ls hh hY hA hP hD hS hl)
theorem cb_sipush {n : Int} {v : Int32} (hd : decode M.2.1 pc = .ok (.sipush n, 3)) (hv : (Int16.ofInt n).toInt32 = v) (hn : pc + 3 = npc) (kk : cb_B l D cA M R A Z Y npc L (.int v :: S) ws cells slots) : cb_B l D cA M R A Z Y pc L S ws cells slots := by
  intro p e s m args below meth c H locs ls hh hY hA hP hD hS hl
  subst hn
  exact lv_sipush hh.1 hh.2.1 hd hv (kk p e s m args below meth c H locs ls hh hY hA hP hD hS hl)
theorem cb_dup {v : Value} (hd : decode M.2.1 pc = .ok (.dup, 1)) (hv : v.category = 1) (hn : pc + 1 = npc) (kk : cb_B l D cA M R A Z Y npc L (v :: v :: S) ws cells slots) : cb_B l D cA M R A Z Y pc L (v :: S) ws cells slots := by
  intro p e s m args below meth c H locs ls hh hY hA hP hD hS hl
  subst hn
  exact lv_dup hh.1 hh.2.1 hd hv (kk p e s m args below meth c H locs ls hh hY hA hP hD hS hl)
theorem cb_obj {x idx : Nat} (hd : decode M.2.1 pc = .ok (.invokespecial idx, 3)) (w1 : Cond.methodLink M.1.cls idx Lib.objectInit ∈ tbw) (w2 : Cond.instanceMethod Lib.objectInit ∈ tbw) (w3 : Cond.code Lib.objectInit ⟨#[0xb1]⟩ 1 none ∈ tbw) (hf : 1 ≤ R.frames) (hlo : 12 ≤ R.locals) (hn : pc + 3 = npc) (kk : cb_B l D cA M R A Z Y npc L [] ws cells slots) : cb_B l D cA M R A Z Y pc L [.ref x] ws cells slots := by
  intro p e s m args below meth c H locs ls hh hY hA hP hD hS hl
  subst hn
  exact W.objInit hh.1 hh.2.1 hh.2.2.2.2.2.1 (hh.2.2.2.2.2.2.word w1 args) (hh.2.2.2.2.2.2.word w2 args) (hh.2.2.2.2.2.2.word w3 args) rfl (by rw [hh.2.2.1]; exact hl.1) rfl hd hf hlo (kk p e s m args below meth c H locs ls hh hY hA hP hD hS hl)
theorem cb_newa {n : Int32} {N : Nat} (hd : decode M.2.1 pc = .ok (.newarray .int, 2)) (hn0 : ¬ n < 0) (hN : n.toNatClampNeg = N) (hby : N * componentBytes .int ≤ 536870912) (hc : cells + 1 ≤ R.cells) (hs : slots + N ≤ R.slots) (hn : pc + 2 = npc) (kk : ∀ q, cb_B l D cA M R A Z Y npc L (.ref q :: S) (ws ++ [(q, .inl (cA, N, .inl (fun _ => 0)))]) (cells + 1) (slots + N)) : cb_B l D cA M R A Z Y pc L (.int n :: S) ws cells slots := by
  intro p e s m args below meth c H locs ls hh hY hA hP hD hS hl
  subst hn
  have hK := hh.2.2.2.2.2.2
  refine va_newa (atype := .int) (ty := .int) (a0 := (N, .inl (fun _ => 0))) hh.1 hh.2.1 (hK.arr args) rfl hK.1 hP hD hS hA (fun _ => rfl) hn0 hN hby hc hs hd (fun q cB H1 hK1 hP1 hD1 hS1 => ?_)
  have ec : cB = cA := by
    have h1 := (hK1.2 1 (cB, .int) rfl).2
    have h2 := (hK1.2 0 (cA, .int) rfl).2
    simp only [va_RA] at h1 h2
    exact Option.some.inj (h1.symm.trans h2)
  subst ec
  exact kk q p e s m args below meth c H1 locs ls hh hY hA hP1 hD1 hS1 hl
theorem cb_new {C : String} {T : u_T} {N ci index : Nat} {ty : Nat → FieldType} {fs : List Value} (hd : decode M.2.1 pc = .ok (.new index, 3)) (hin : ∀ w ∈ u_ws C T N, w ∈ tbw) (hty : ∀ k, k < N → parseFieldDescriptor (T k).2.2.1 = some (ty k)) (w1 : Cond.classLink M.1.cls index C ∈ tbw) (w2 : Cond.instantiable C N ∈ tbw) (w3 : Cond.initialized C ∈ tbw) (hc : tcl[ci]? = some (C, T, N)) (hfs : ∀ j, j < N → defaultValue (ty j) = vp_V fs j) (hce : cells + 1 ≤ R.cells) (hsl : slots + N ≤ R.slots) (hn : pc + 3 = npc) (kk : ∀ q, cb_B l D cA M R A Z Y npc L (.ref q :: S) (ws ++ [(q, .inr (ci, fs))]) (cells + 1) (slots + N)) : cb_B l D cA M R A Z Y pc L S ws cells slots := by
  intro p e s m args below meth c H locs ls hh hY hA hP hD hS hl
  subst hn
  have hK := hh.2.2.2.2.2.2
  exact va_new hh.1 hh.2.1 (hK.words args) hin ty hty hh.2.2.2.2.2.1 (hK.word w1 args) (hK.word w2 args) (hK.word w3 args) hK.1 hP hD hS hA hc hfs hce hsl hd (fun q H1 hP1 hD1 hS1 => kk q p e s m args below meth c H1 locs ls hh hY hA hP1 hD1 hS1 hl)
theorem cb_put {C : String} {T : u_T} {N ci k index a : Nat} {ty0 : Nat → FieldType} {ty : FieldType} {fs : List Value} {v : Value} (q0 : Nat) (hd : decode M.2.1 pc = .ok (.putfield index, 3)) (hin : ∀ w ∈ u_ws C T N, w ∈ tbw) (hty : ∀ k, k < N → parseFieldDescriptor (T k).2.2.1 = some (ty0 k)) (hnm : ∀ a, a < N → ∀ b, b < N → a ≠ b → (T a).2.1 ≠ (T b).2.1) (hc : tcl[ci]? = some (C, T, N)) (hk : k < N) (w1 : Cond.fieldLink M.1.cls index (T k).1 (T k).2.1 (T k).2.2.1 ∈ tbw) (hfin : (T k).2.2.2 = false) (he : ws[q0]? = some (a, .inr (ci, fs))) (hdt : ty0 k = ty) (hnr : narrow ty v = v) (hfit : fits ty v = true) (hl0 : k < fs.length) (hn : pc + 3 = npc) {ws' : va_W} (hws : ws.set q0 (a, .inr (ci, fs.set k v)) = ws') (kk : cb_B l D cA M R A Z Y npc L S ws' cells slots) : cb_B l D cA M R A Z Y pc L (v :: .ref a :: S) ws cells slots := by
  intro p e s m args below meth c H locs ls hh hY hA hP hD hS hl
  subst hn
  subst hws
  have hK := hh.2.2.2.2.2.2
  exact va_put hh.1 hh.2.1 (hK.words args) hin ty0 hty hnm hh.2.2.2.2.2.1 hK.1 hP hD hS q0 he hc k hk (hK.word w1 args) (fun _ z => z) hfin (by rw [hty k hk, hdt]) hnr hfit hl0 hd (fun H1 locs1 hP1 hD1 hS1 => kk p e s m args below meth c H1 locs1 ls hh hY hA hP1 hD1 hS1 hl)
theorem cb_putF {C : String} {T : u_T} {N ci k index a : Nat} {ty0 : Nat → FieldType} {ty : FieldType} {fs : List Value} {v : Value} (hYn : ∀ s meth args, Y s meth args → meth.name = "<init>") (q0 : Nat) (hd : decode M.2.1 pc = .ok (.putfield index, 3)) (hin : ∀ w ∈ u_ws C T N, w ∈ tbw) (hty : ∀ k, k < N → parseFieldDescriptor (T k).2.2.1 = some (ty0 k)) (hnm : ∀ a, a < N → ∀ b, b < N → a ≠ b → (T a).2.1 ≠ (T b).2.1) (hc : tcl[ci]? = some (C, T, N)) (hk : k < N) (w1 : Cond.fieldLink M.1.cls index (T k).1 (T k).2.1 (T k).2.2.1 ∈ tbw) (hfin : (T k).2.2.2 = true) (hdc : (T k).1 = M.1.cls) (he : ws[q0]? = some (a, .inr (ci, fs))) (hdt : ty0 k = ty) (hnr : narrow ty v = v) (hfit : fits ty v = true) (hl0 : k < fs.length) (hn : pc + 3 = npc) {ws' : va_W} (hws : ws.set q0 (a, .inr (ci, fs.set k v)) = ws') (kk : cb_B l D cA M R A Z Y npc L S ws' cells slots) : cb_B l D cA M R A Z Y pc L (v :: .ref a :: S) ws cells slots := by
  intro p e s m args below meth c H locs ls hh hY hA hP hD hS hl
  subst hn
  subst hws
  have hK := hh.2.2.2.2.2.2
  exact va_putF hh.1 hh.2.1 (hK.words args) hin ty0 hty hnm hh.2.2.2.2.2.1 hK.1 hP hD hS q0 he hc k hk (hK.word w1 args) (fun _ z => z) hfin (hYn _ _ _ hY) hdc (by rw [hty k hk, hdt]) hnr hfit hl0 hd (fun H1 locs1 hP1 hD1 hS1 => kk p e s m args below meth c H1 locs1 ls hh hY hA hP1 hD1 hS1 hl)
theorem cb_D1 {q : Nat} {e : va_E} {sz : Nat} : va_D (va_A [(q, e)] sz) [(q, e)] := by
  refine ⟨fun i j p r hi hj _ => ?_, fun k r hk => va_A.in hk⟩
  have h1 := (List.getElem?_eq_some_iff.mp hi).1
  have h2 := (List.getElem?_eq_some_iff.mp hj).1
  simp at h1 h2
  omega
theorem cb_mapR (wr w : va_W) : (List.range wr.length).map (fun i => (wr ++ w)[i]?) = wr.map some := by
  apply List.ext_getElem?
  intro i
  by_cases hi : i < wr.length
  · simp [hi, List.getElem?_append_left]
  · simp [hi]
theorem cb_nd : ∀ (n k : Nat), va_nd (List.range' k n) = true
  | 0, _ => rfl
  | n + 1, k => by
    simp only [List.range', va_nd, Bool.and_eq_true, decide_eq_true_eq]
    refine ⟨?_, cb_nd n (k + 1)⟩
    simp only [List.mem_range']
    omega
theorem cb_ndr (n : Nat) : va_nd (List.range n) = true := by rw [List.range_eq_range']; exact cb_nd n 0
/-- the words that a call of a constructor asks -/
def cb_mw (M' : am_M) (n : Nat) : Prop := am_mw tbw M' n ∧ Cond.instanceMethod M'.1 ∈ tbw ∧ M'.1.name = "<init>" ∧ M'.2.2.2 = none
theorem cb_call0 {M' : am_M} {n idx d' mc ms ci q : Nat} {fs0 : List Value} {avs rest : List Value} {w1 : Nat → (Nat → Nat) → va_W} {wr : va_W} (hM : cb_mw M' n) (hl : Cond.methodLink M.1.cls idx M'.1 ∈ tbw ∨ ∃ host, Cond.methodLinkNest M.1.cls idx M'.1 host ∈ tbw) (hd : decode M.2.1 pc = .ok (.invokespecial idx, 3)) (hC : cb_C l D cA M' d' mc ms ci fs0 avs w1) (hav : avs.length = n) (hst : S = avs.reverse ++ .ref q :: rest) (hrs : (rest.map fun v => v.category).sum ≤ 8) (hws : ws = wr ++ [(q, .inr (ci, fs0))]) (hfr : d' + 1 ≤ R.frames) (hlo : 40 * (d' + 1) ≤ R.locals) (hce : cells + mc ≤ R.cells) (hsl : slots + ms ≤ R.slots) (hn : pc + 3 = npc) (kk : ∀ u, cb_B l D cA M R A Z Y npc L rest (wr ++ w1 q u) (cells + mc) (slots + ms)) : cb_B l D cA M R A Z Y pc L S ws cells slots := by
  intro p e s m args below meth c H locs ls hh hY hA hP hD hS hl'
  subst hn
  subst hws
  have hK := hh.2.2.2.2.2.2
  obtain ⟨⟨h1, h2, h3, h4, h5⟩, h6, h7, h8⟩ := hM
  have hCf := va_free (wc := [(q, .inr (ci, fs0))]) hD hS hA [wr.length] (by simp)
  have hPc : va_P D tcl [(q, .inr (ci, fs0))] H := by
    intro k r hk
    have hk1 := (List.getElem?_eq_some_iff.mp hk).1
    simp at hk1
    subst hk1
    exact hP wr.length r (by rw [List.getElem?_append_right (Nat.le_refl _)]; simpa using hk)
  have hpre : PreS s H (cb_Pre D cA ci fs0 avs q H.size) (.ref q :: avs) := ⟨fun a U g mk z => ⟨z.1, z.2.1, z.2.2.1, z.2.2.2.call g mk a⟩, fun U hU hW => ⟨rfl, by rw [hU], by rw [hU]; exact hPc, hK.warm hW⟩⟩
  have hfix : CallFix p m c M.2.1 M.2.2.1 s args tbw M.1.cls := ⟨hh.1, hh.2.1, hh.2.2.1, hh.2.2.2.2.2.1, hK.words args⟩
  have hw : ∀ w ∈ [Cond.code M'.1 M'.2.1 M'.2.2.1 M'.2.2.2], ∀ (a' : Array Value) (U : State), s.WarmedH U.vm → w.before a' U = true := fun w hw a' U hW => by
    rw [List.mem_singleton.mp hw]
    exact va_Nw.use (am_stable_on (hK.2.1 _ h2).1) (am_Nw_warm (hK.2.1 _ h2).1 hW (hK.2.1 _ h2).2)
  have hlen : ∀ sig, parseMethodDescriptor M'.1.desc = some sig → n = sig.parameters.length := fun sig h => by
    rw [h] at h5
    exact (Option.some.inj h5).symm
  have hloc : 8 + (M'.2.2.1 + 11) + (cb_rm d' mc ms).locals ≤ R.locals := by
    show 8 + (M'.2.2.1 + 11) + 40 * d' ≤ R.locals
    omega
  have hcode := hK.word h2 args
  have hMet := hC q H.size
  rw [h8] at hw hcode hMet
  have hrun : va_Run p l e R s m args below meth c H locs cells slots mc ms (F0 m pc ls S) rest (cb_Q D w1 ci fs0 q H.size (Value.ref q :: avs).toArray) (va_A [(q, .inr (ci, fs0))] H.size) := by
    rcases hl with hl | ⟨host, hl⟩
    · exact va_runI (g := F0 m pc ls S) (As := avs) (rest := rest) (b := q) hfix hMet ⟨⟨rfl, rfl, hfr, hloc, hw, List.mem_cons_self, hcode, hK.word h1 args, h4, hlen, hK.word hl args⟩, h7, hK.word h6 args⟩ hpre rfl hav hl'.1 hst (by show 2 * 0 + _ ≤ 8; omega) hd ⟨hce, hsl⟩
    · exact va_runIN (g := F0 m pc ls S) (As := avs) (rest := rest) (b := q) hfix hMet ⟨⟨⟨rfl, rfl, hfr, hloc, hw, List.mem_cons_self⟩, hcode, hK.word h1 args, h4, hlen, hK.word hl args⟩, h7, hK.word h6 args⟩ hpre rfl hav hl'.1 hst (by show 2 * 0 + _ ≤ 8; omega) hd ⟨hce, hsl⟩
  refine va_callv hrun hS (fun z _ h => hCf z h) hCf (fun u t H1 locs1 ht hvm _ hB hz1 hk1 hS1 => ?_)
  obtain ⟨hP1, hD1⟩ := hB
  rw [ht] at hP1
  obtain ⟨hP2, hD2⟩ := va_join (wr := wr) (w1 := w1 q u) hP hD [wr.length] (List.range wr.length) (by simp) (cb_mapR wr _) (cb_ndr _) (fun i hi => by simp at hi ⊢; omega) hk1 hCf hP1 hD1
  exact kk u p e s m args below meth c H1 locs1 ls hh hY hA hP2 hD2 hS1 hl'
end CB
def cb_Y (sz : Nat) : State → Method → Array Value → Prop := fun s meth _ => meth.name = "<init>" ∧ s.heap.size = sz
theorem cb_Yn {sz : Nat} : ∀ s meth args, cb_Y sz s meth args → meth.name = "<init>" := fun _ _ _ h => h.1
def cb_Z (D : va_G) (w1 : Nat → (Nat → Nat) → va_W) (ci : Nat) (fs0 : List Value) (mc ms q sz : Nat) : Array Value → State → List Frame → State → Prop := fun args s below => MQ below (cb_Q D w1 ci fs0 q sz) args s mc ms (va_A [(q, .inr (ci, fs0))] sz)
theorem cb_ret {l : Launch} {D : va_G} {cA : ClassId} {M : am_M} {R : Room} {w1 : Nat → (Nat → Nat) → va_W} {ci mc ms q sz : Nat} {fs0 : List Value} {Y : State → Method → Array Value → Prop} {pc : Nat} {L : List (Nat × Value)} {ws : va_W} {cells slots : Nat} (u : Nat → Nat) (hd : decode M.2.1 pc = .ok (.return_, 1)) (hr : M.2.2.2 = none) (hw : w1 q u = ws) (hc : cells = mc) (hs : slots = ms) : cb_B l D cA M R (va_A [(q, .inr (ci, fs0))] sz) (cb_Z D w1 ci fs0 mc ms q sz) Y pc L [] ws cells slots := by
  intro p e s m args below meth c H locs ls hh hY hA hP hD hS hl
  subst hc
  subst hs
  subst hw
  have hlocks : meth.locks = false := hh.2.2.2.2.1
  have hrr : meth.sig.returnType = none := by rw [hh.2.2.2.1]; exact hr
  exact W.vret hh.1 hh.2.1 hrr (fun t ht hW => ⟨⟨u, rfl, trivial, by rw [ht]; exact hP, hD⟩, hS.F ht⟩) hS.2.2 hd
theorem cb_of {l : Launch} {D : va_G} {cA : ClassId} {M : am_M} {d mc ms ci : Nat} {fs0 avs : List Value} {w1 : Nat → (Nat → Nat) → va_W} (hy : plainName M.1.cls = true) (hnm : M.1.name = "<init>") (hsl : ∀ q, (lg_sl (Value.ref q :: avs)).length ≤ M.2.2.1)
    (h : ∀ q sz, cb_B l D cA M (cb_rm d mc ms) (va_A [(q, .inr (ci, fs0))] sz) (cb_Z D w1 ci fs0 mc ms q sz) (cb_Y sz) 0 (lv_args 0 (.ref q :: avs)) [] [(q, .inr (ci, fs0))] 0 0) : cb_C l D cA M d mc ms ci fs0 avs w1 := by
  intro q sz
  refine Met.ofW (cc := M.2.1) (maxL := M.2.2.1) (ret := M.2.2.2) hy rfl ?_
  intro p e s m args below meth c s₁ B hml hv
  obtain ⟨rfl, hsz, hP, hK⟩ := hv
  have hl := lv_entry (Value.ref q :: avs) (n := M.2.2.1) (hsl q)
  rw [lg_entry_eq]
  refine h q sz p e s m _ below meth c s.heap [] _ ⟨B.exec, B.bytes, hml, B.returns, B.notSynchronized, findClass_of_methodNamed B.named, hK⟩ ⟨?_, hsz⟩ (fun z hz => Or.inr (by omega)) hP cb_D1 va_S.rf hl
  rw [← hnm]
  exact (name_of_methodNamed B.named B.method).1
