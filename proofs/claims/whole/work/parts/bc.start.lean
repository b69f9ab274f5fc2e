/-! ===== part bc: the law from its entry ===== -/
def R_law : String := "TollOfNamesLaw"
def lw_P (b : Addr) (xs : List Int32) (args : Array Value) (s : State) : Prop := args = #[.ref b] ∧ s.IntsAt b xs ∧ xs.length ≤ 3584 ∧ (Jvm.Cond.and given_1 narrow_1).before args s = true
def lw_Q (_ : Array Value) (s : State) (o : Outcome) (t : State) : Prop := o = .returned (some (.int 1)) ∧ Framed s o t [] 600000 7302250
def lw_Z (below : List Frame) (a : Array Value) (s : State) : State → Prop := fun t => ∃ o, t.status = .running ∧ Ended t below o ∧ lw_Q a s o t
/-- the law's own end, with 1 on the stack, nothing written that was there before, its room as the claim has it -/
theorem lw_ret {p : Program} {l : Launch} {e : Env} {s : State} {m : MethodId} {below : List Frame} {meth : Method} {c : Code} {b : Nat} (hx : p.tables.exec = Jvm.exec) (hb : c.code = code) (hr : meth.sig.returnType = ret) (hlocks : meth.locks = false) {pc : Nat} {H : Heap} {ls : Array Slot} (hdg : decode code pc = .ok (.ireturn, 1)) : W p l e room_1 s m #[Value.ref b] below meth c H [] 600000 7302250 (lw_Z below #[Value.ref b] s) (F0 m pc ls [.int 1]) := by
  intro T hT X
  obtain ⟨fs, hret, hrun, hended, hW, hframe⟩ := X.leave (v := some (.int 1)) (hlocks := hlocks) (fun h => by rw [hr] at h; cases h)
  have hmeth' : T.vm.method? m = some meth := X.method'
  refine ⟨T.setFrames fs, ?_, .returned (some (.int 1)), hrun, hended, rfl, ⟨_, rfl⟩, hW, hframe⟩
  jvm_step X.here [X.here.top, hx, hb, hdg, hmeth', hr, ret, narrow_b1]
  (try refine ⟨rfl, ?_⟩); (try refine ⟨rfl, ?_⟩)
  first | (intro acts; rw [hret _ acts rfl rfl rfl]) | rw [hret _ _ rfl rfl rfl]
  exact Steps.refl _
/-- what holds at the law's entry: the machine, the code, the tables' words (any of lw_tbl by 'hts w (by decide +kernel)'), the script of L ints xs at the cell b, what the Statement gives of the start (any of its parts by flat_of_before) -/
def lw_At (p : Program) (s : State) (m : MethodId) (meth : Method) (c : Code) (b L : Nat) (xs : Nat → Int32) : Prop :=
  p.tables.exec = Jvm.exec ∧ c.code = code ∧ meth.sig.returnType = ret ∧ c.maxLocals = 4 ∧ s.vm.findClass R_law = some m.cls ∧ (∀ w ∈ lw_tbl, w.before #[Value.ref b] s = true) ∧ va_X b L xs s s.heap ∧ b < s.heap.size ∧ meth.locks = false ∧ (Jvm.Cond.and given_1 narrow_1).before #[Value.ref b] s = true

theorem lw_retA {p : Program} {l : Launch} {e : Env} {s : State} {m : MethodId} {args : Array Value} {below : List Frame} {meth : Method} {c : Code} (hx : p.tables.exec = Jvm.exec) (hb : c.code = code) (hr : meth.sig.returnType = ret) (hlocks : meth.locks = false) {pc : Nat} {H : Heap} {ls : Array Slot} (hdg : decode code pc = .ok (.ireturn, 1)) : W p l e room_1 s m args below meth c H [] 600000 7302250 (lw_Z below args s) (F0 m pc ls [.int 1]) := by
  intro T hT X
  obtain ⟨fs, hret, hrun, hended, hW, hframe⟩ := X.leave (v := some (.int 1)) (hlocks := hlocks) (fun h => by rw [hr] at h; cases h)
  have hmeth' : T.vm.method? m = some meth := X.method'
  refine ⟨T.setFrames fs, ?_, .returned (some (.int 1)), hrun, hended, rfl, ⟨_, rfl⟩, hW, hframe⟩
  jvm_step X.here [X.here.top, hx, hb, hdg, hmeth', hr, ret, narrow_b1]
  (try refine ⟨rfl, ?_⟩); (try refine ⟨rfl, ?_⟩)
  first | (intro acts; rw [hret _ acts rfl rfl rfl]) | rw [hret _ _ rfl rfl rfl]
  exact Steps.refl _
/-- the end, for walks from the claim's own start -/
def lw_ZX (sz : Nat) : Array Value → State → List Frame → State → Prop := fun args s below t => s.heap.size = sz → lw_Z below args s t
theorem law_Ret {E : am_E} {sz : Nat} (hE : ∀ q, am_A tT E q → sz ≤ q) : am_Ret tT E mL_law (room_1, 600000, 7302250, lw_ZX sz) (60 + 1) (fun v _ => v = nI 1) := by
  intro pc L S h v hst hq p e s m args below meth c H locs ls hh hF hP hS hl
  by_cases hs : s.heap.size = sz
  · have hd : decode code pc = .ok (.ireturn, 1) ∧ S = [.inl v] := by
      rcases hst with ⟨h1, _⟩ | ⟨h1, _⟩ | ⟨ty, h1, h2, h3, _⟩
      · cases h1
      · cases h1
      · exact ⟨h2, h3⟩
    obtain ⟨hd, rfl⟩ := hd
    subst hq
    have hW := lw_retA (l := E.1) (e := e) (s := s) (m := m) (args := args) (below := below) (H := H) (ls := ls) hh.1 hh.2.1 hh.2.2.2.1 hh.2.2.2.2.1 hd
    have hW2 := va_forget (locs := locs) (fun q hq => by rw [hs]; exact hE _ (hS.2.2 q hq)) hW
    intro T hT X
    obtain ⟨t, a, b⟩ := hW2 T hT X
    exact ⟨t, a, fun _ => b⟩
  · intro T hT X
    exact ⟨_, Steps.refl _, fun z => absurd z hs⟩
theorem s_cg {N : Nat} {len : List Nat} {byt : List (List Int32)} {adK adV adK' adV' : Nat → Nat} {A : Nat → Prop} {U : State} {H : Heap} (h : vk_S N len byt adK adV A U H) (hk : ∀ i, i < N → adK' i = adK i) (hv : ∀ i, i < N → adV' i = adV i) : vk_S N len byt adK' adV' A U H :=
  ⟨fun i hi => by rw [hk i hi, hv i hi]; exact h.1 i hi, fun i j hi hj e => h.2 i j hi hj (by rw [← hk i hi, ← hk j hj]; exact e)⟩
theorem s_go {l : Launch} {D : va_G} {cA : ClassId} {s : State} {b L : Nat} {xs : Nat → Int32} {adK adV : Nat → Nat} {v : Value} (hL : L ≤ 3584) (hKW : KW D cA s) (hSt : vk_S 16 tlen tbyt adK adV (fun q => s.heap.size ≤ q) s s.heap) (hSr : ∀ r ∈ tsr, r.2.2.2 < 16 ∧ vk_R r.1 r.2.1 r.2.2.1 (adK r.2.2.2) s)
    (hCS : va_Z "java/lang/String" "COMPACT_STRINGS" "Z" (.int 1) (fun q => s.heap.size ≤ q) s s.heap) (hv : v.isRef = true) (hFM : va_Z "jdk/internal/util/Preconditions" "SIOOBE_FORMATTER" "Ljava/util/function/BiFunction;" v (fun q => s.heap.size ≤ q) s s.heap) (hX : va_X b L xs s s.heap) (hbl : b < s.heap.size)
    {q0 q1 : Nat} {u0 u1 : Nat → Nat} {p : Program} {e : Env} {m : MethodId} {args : Array Value} {below : List Frame} {meth : Method} {c : Code} {H : Heap} {locs : List Loc} {ls : Array Slot} (hh : cb_here D cA mL_law p s m meth c) (hP : va_P D tcl (wc_X11 cA q0 u0 ++ wc_X12 cA q1 u1) H) (hD : va_D (fun q => s.heap.size ≤ q) (wc_X11 cA q0 u0 ++ wc_X12 cA q1 u1)) (hS : va_S (fun q => s.heap.size ≤ q) s.heap H locs) (hl : lv_has ls 4 [(2, .ref q1), (1, .ref q0), (0, .ref b)])
    {cells slots : Nat} (hc : cells ≤ 600000) (hs : slots ≤ 7302250) : W p l e room_1 s m args below meth c H locs cells slots (lw_ZX s.heap.size args s below) (F0 m 16 ls []) := by
  obtain ⟨E, hE⟩ : ∃ E : am_E, E = (l, D, cA, alF q0 q1 u0 u1 adK adV (fun j => un (xs j)) b L) := ⟨_, rfl⟩
  have hws : wc_X11 cA q0 u0 ++ wc_X12 cA q1 u1 = am_ws tT.1 E.2.2.2 E.2.2.1 h00 := by
    rw [hE]
    show _ = am_ws tsh (alF q0 q1 u0 u1 adK adV (fun j => un (xs j)) b L) cA h00
    exact ws_allW (q0 := q0) (q1 := q1) (u0 := u0) (u1 := u1) (adK := adK) (adV := adV) (un' := fun j => un (xs j)) (b := b) (L := L) cA
  rw [hws] at hP hD
  have hAE : ∀ q, am_A tT E q → s.heap.size ≤ q := by
    intro q hq
    obtain ⟨o, ho, e1⟩ := hq
    rw [← e1]
    exact hD.2 o _ (am_ws_get (List.getElem?_eq_getElem ho))
  have hSA : va_S (am_A tT E) s.heap H [] := ⟨hS.1, fun q h1 _ => hS.2.1 q h1 (Nat.not_le.mpr h1), fun l hl => by cases hl⟩
  have h200 : ∀ j, j < 16 → E.2.2.2 (200 + j) = adK j := fun j hj => by rw [hE]; show alF q0 q1 u0 u1 adK adV (fun j => un (xs j)) b L (200 + j) = adK j; rw [al_200 hj]
  have h300 : ∀ j, j < 16 → E.2.2.2 (300 + j) = adV j := fun j hj => by rw [hE]; show alF q0 q1 u0 u1 adK adV (fun j => un (xs j)) b L (300 + j) = adV j; rw [al_300 hj]
  have h400 : E.2.2.2 400 = b := by rw [hE]; show alF q0 q1 u0 u1 adK adV (fun j => un (xs j)) b L 400 = b; rw [al_400]
  have h401 : E.2.2.2 401 = L := by rw [hE]; show alF q0 q1 u0 u1 adK adV (fun j => un (xs j)) b L 401 = L; rw [al_401]
  have h500 : (fun j => nI (E.2.2.2 (500 + j))) = xs := by
    funext j
    rw [hE]
    show nI (alF q0 q1 u0 u1 adK adV (fun j => un (xs j)) b L (500 + j)) = xs j
    rw [al_500, ni_un]
  have hD1 : E.2.1 = D := by rw [hE]
  have hcA : E.2.2.1 = cA := by rw [hE]
  have hK : am_K tT E s := by
    refine ⟨by rw [hD1, hcA]; exact hKW.1, hKW.2.1, fun i j hi hj e1 => hD.1 i j _ _ (am_ws_get (List.getElem?_eq_getElem hi)) (am_ws_get (List.getElem?_eq_getElem hj)) e1, (s_cg hSt h200 h300).narrow hAE, fun r hr => ⟨(hSr r hr).1, ?_⟩, hCS.narrow hAE, ?_, ?_, ?_, v, hv, hFM.narrow hAE⟩
    · rw [h200 _ (hSr r hr).1]
      exact (hSr r hr).2
    · rw [h400, h401, h500]
      exact hX
    · rw [h400]
      exact hbl
    · rw [h400]
      exact fun z => Nat.not_le.mpr hbl (hAE _ z)
  refine va_forget (fun q hq => hS.2.2 q hq) ?_
  refine W.widen hc hs ?_
  refine lv_iconst (v := 0) hh.1 hh.2.1 dL_law_16 (by decide) ?_
  refine lv_istore_n (lv' := [(3, .int 0), (2, .ref q1), (1, .ref q0), (0, .ref b)]) hh.1 hh.2.1 dL_law_17 rfl hl (by decide) rfl (fun ls hl => ?_)
  have hB := law_loop (E := E) (X := (room_1, 600000, 7302250, lw_ZX s.heap.size)) (law_Ret hAE) (fun _ => rfl) h401 hL (L + 1) 0 0 h00 (by omega) (by omega) rfl inv0
  have hP2 : am_P tT E h00 H := by
    show va_P E.2.1 tT.2.1 (am_ws tT.1 E.2.2.2 E.2.2.1 h00) H
    rw [hD1]
    exact hP
  have hfit : am_fit (room_1, 600000, 7302250, lw_ZX s.heap.size) (60 + 1) := ⟨(Nat.le_of_ble_eq_true rfl), (Nat.le_of_ble_eq_true rfl), (Nat.le_of_ble_eq_true rfl), (Nat.le_of_ble_eq_true rfl)⟩
  have hhere : am_here tT E mL_law p s m meth c := ⟨hh.1, hh.2.1, hh.2.2.1, hh.2.2.2.1, hh.2.2.2.2.1, hh.2.2.2.2.2.1, hK⟩
  have h9 := hB p e s m args below meth c H [] ls hhere hfit hP2 hSA
  subst hE
  exact h9 (lv_sub hl [3, 2, 1, 0] rfl)
theorem dl_0 : decode cL_law 0 = .ok (.new 7, 3) := by decide +kernel
theorem dl_4 : decode cL_law 4 = .ok (.invokespecial 9, 3) := by decide +kernel
theorem dl_8 : decode cL_law 8 = .ok (.new 10, 3) := by decide +kernel
theorem dl_12 : decode cL_law 12 = .ok (.invokespecial 12, 3) := by decide +kernel
theorem s_cb {l : Launch} {D : va_G} {cA : ClassId} {s : State} {b L : Nat} {xs : Nat → Int32} {adK adV : Nat → Nat} {v : Value} (hL : L ≤ 3584) (hKW : KW D cA s) (hSt : vk_S 16 tlen tbyt adK adV (fun q => s.heap.size ≤ q) s s.heap) (hSr : ∀ r ∈ tsr, r.2.2.2 < 16 ∧ vk_R r.1 r.2.1 r.2.2.1 (adK r.2.2.2) s)
    (hCS : va_Z "java/lang/String" "COMPACT_STRINGS" "Z" (.int 1) (fun q => s.heap.size ≤ q) s s.heap) (hv : v.isRef = true) (hFM : va_Z "jdk/internal/util/Preconditions" "SIOOBE_FORMATTER" "Ljava/util/function/BiFunction;" v (fun q => s.heap.size ≤ q) s s.heap) (hX : va_X b L xs s s.heap) (hbl : b < s.heap.size) : cb_B l D cA mL_law room_1 (fun q => s.heap.size ≤ q) (lw_ZX s.heap.size) (fun s' _ _ => s' = s) 0 [(0, .ref b)] [] [] 0 0 := by
  refine cb_new (npc := 3) (ci := 11) (fs := [.null, .null, .int 0, .null, .null, .null, .null, .null, .null, .null]) dl_0 inw_X11 tyX11_ok lk_X11 ins_X11 in_X11 rfl (by decide) (Nat.le_of_ble_eq_true rfl) (Nat.le_of_ble_eq_true rfl) rfl (fun q0 => ?_)
  refine cb_dup (npc := 4) dL_law_3 rfl rfl ?_
  refine cb_call0 (npc := 7) (M' := mX11_init) (n := 0) (wr := []) (rest := [.ref q0]) (q := q0) (w1 := wc_X11 cA) (fs0 := [.null, .null, .int 0, .null, .null, .null, .null, .null, .null, .null]) (ci := 11) ⟨⟨in_X11, co_X11, by decide, by decide +kernel, by decide +kernel⟩, im_X11, rfl, rfl⟩ (Or.inl ml_X11) dl_4 (c_X11_init l D cA) rfl rfl (Nat.le_of_ble_eq_true rfl) rfl (Nat.le_of_ble_eq_true rfl) (Nat.le_of_ble_eq_true rfl) (Nat.le_of_ble_eq_true rfl) (Nat.le_of_ble_eq_true rfl) rfl (fun u0 => ?_)
  refine cb_astore (npc := 8) (L' := [(1, .ref q0), (0, .ref b)]) dL_law_7 (by decide) rfl rfl ?_
  refine cb_new (npc := 11) (ci := 12) (fs := [.null, .null, .null, .null, .int 0, .int 0, .null, .null, .null, .null, .null, .int 0, .int 0, .int 0, .int 0, .int 0, .int 0, .int 0, .int 0, .int 0, .int 0, .int 0, .int 0, .null, .null, .int 0, .int 0, .null, .null, .null, .int 0]) dl_8 inw_X12 tyX12_ok lk_X12 ins_X12 in_X12 rfl (by decide) (Nat.le_of_ble_eq_true rfl) (Nat.le_of_ble_eq_true rfl) rfl (fun q1 => ?_)
  refine cb_dup (npc := 12) dL_law_11 rfl rfl ?_
  refine cb_call0 (npc := 15) (M' := mX12_init) (n := 0) (wr := wc_X11 cA q0 u0) (rest := [.ref q1]) (q := q1) (w1 := wc_X12 cA) (fs0 := [.null, .null, .null, .null, .int 0, .int 0, .null, .null, .null, .null, .null, .int 0, .int 0, .int 0, .int 0, .int 0, .int 0, .int 0, .int 0, .int 0, .int 0, .int 0, .int 0, .null, .null, .int 0, .int 0, .null, .null, .null, .int 0]) (ci := 12) ⟨⟨in_X12, co_X12, by decide, by decide +kernel, by decide +kernel⟩, im_X12, rfl, rfl⟩ (Or.inl ml_X12) dl_12 (c_X12_init l D cA) rfl rfl (Nat.le_of_ble_eq_true rfl) rfl (Nat.le_of_ble_eq_true rfl) (Nat.le_of_ble_eq_true rfl) (Nat.le_of_ble_eq_true rfl) (Nat.le_of_ble_eq_true rfl) rfl (fun u1 => ?_)
  refine cb_astore (npc := 16) (L' := [(2, .ref q1), (1, .ref q0), (0, .ref b)]) dL_law_15 (by decide) rfl rfl ?_
  intro p e s' m args below meth c H locs ls hh hY hA hP hD hS hl
  subst hY
  exact s_go hL hKW hSt hSr hCS hv hFM hX hbl hh hP hD hS hl (Nat.le_of_ble_eq_true rfl) (Nat.le_of_ble_eq_true rfl)
/-- from the entry, for every script of at most 3584 ints, the law comes to its end with true -/
theorem whole_start {p : Program} {e : Env} {s : State} {m : MethodId} {below : List Frame} {meth : Method} {c : Code} (l : Launch) {b L : Nat} {xs : Nat → Int32} (hL : L ≤ 3584) (C0 : lw_At p s m meth c b L xs) : W p l e room_1 s m #[Value.ref b] below meth c s.heap [] 0 0 (lw_Z below #[Value.ref b] s) (entryFrame m ([Value.ref b] : List Value).toArray 4) := by
  obtain ⟨hx, hb, hr, hml, hown, hts, hX, hbl, hlocks, hgv⟩ := id C0
  have hfl : ∀ w ∈ flN, w.before #[Value.ref b] s = true := flat_of_before _ hgv
  obtain ⟨D, cA, hKW⟩ := s_kw hts
  obtain ⟨adK, adV, hSt, hSr⟩ := s_str hts hgv
  have hCS := va_Zof (A := fun q => s.heap.size ≤ q) (hts _ sq_cs) (hts _ sq_is) (va_eqi (hfl _ sN_cs)) (fun a ha => Nat.not_le.mpr ha)
  obtain ⟨v, hv1, hv2⟩ := Cond.isRef_spec (args := #[Value.ref b]) (first := s) (o := none) (s := s) (idx := []) (hfl _ sN_fm)
  have hFM := va_Zof (A := fun q => s.heap.size ≤ q) (hts _ sq_fm) (hts _ sq_ip) hv1 (fun a ha => Nat.not_le.mpr ha)
  have hB := s_cb (l := l) hL hKW hSt hSr hCS hv2 hFM hX hbl
  have hl := lv_entry ([.ref b]) (n := 4) (Nat.le_of_ble_eq_true rfl)
  rw [lg_entry_eq]
  have h9 := hB p e s m #[Value.ref b] below meth c s.heap [] _ ⟨hx, hb, hml, hr, hlocks, hown, hKW⟩ rfl (fun _ h => h) (fun k q h => by simp at h) ⟨fun i j p q h => by simp at h, fun k q h => by simp at h⟩ va_S.rf hl
  intro T hT X
  obtain ⟨t, a1, b1⟩ := h9 T hT X
  exact ⟨t, a1, b1 rfl⟩
