/-! ===== part 03: calls, switches, copies ===== -/
theorem am_pop_spec : ∀ (n : Nat) (S acc as r : List am_V), am_pop n S acc = some (as, r) → ∃ pre, as = pre ++ acc ∧ S = pre.reverse ++ r ∧ pre.length = n
  | 0, S, acc, as, r, h => by
    cases h
    exact ⟨[], rfl, rfl, rfl⟩
  | n + 1, [], acc, as, r, h => by cases h
  | n + 1, x :: S, acc, as, r, h => by
    obtain ⟨pre, h1, h2, h3⟩ := am_pop_spec n S (x :: acc) as r h
    exact ⟨pre ++ [x], by rw [h1]; simp, by rw [h2]; simp, by simp [h3]⟩
theorem am_sum (al : Nat → Nat) : ∀ r : List am_V, ((r.map (am_dv al)).map fun v => v.category).sum = r.length
  | [] => rfl
  | v :: t => by
    simp only [List.map_cons, List.sum_cons, List.length_cons, am_cat, am_sum al t]
    omega
theorem am_sw_imp {x : Int32} {K : Nat → Prop} {dflt : Nat} : ∀ (cs : List (Int32 × Nat)), am_sw x K dflt cs → (∃ q ∈ cs, x = q.1 ∧ K q.2) ∨ ((∀ q ∈ cs, ¬ x = q.1) ∧ K dflt)
  | [], h => Or.inr ⟨fun q hq => (by cases hq), h⟩
  | q :: t, h => by
    by_cases hx : x = q.1
    · exact Or.inl ⟨q, List.mem_cons_self, hx, h.1 hx⟩
    · rcases am_sw_imp t (h.2 hx) with ⟨z, hz, h1, h2⟩ | ⟨h1, h2⟩
      · exact Or.inl ⟨z, List.mem_cons_of_mem _ hz, h1, h2⟩
      · refine Or.inr ⟨fun z hz => ?_, h2⟩
        rcases List.mem_cons.mp hz with h | h
        · rw [h]; exact hx
        · exact h1 z h
/-- what a callee asks of the tables -/
def am_mw (tb : List Cond) (M' : am_M) (n : Nat) : Prop := Cond.initialized M'.1.cls ∈ tb ∧ Cond.code M'.1 M'.2.1 M'.2.2.1 M'.2.2.2 ∈ tb ∧ M'.2.2.1 ≤ 21 ∧
  (M'.1.cls ≠ "java/lang/invoke/MethodHandle" ∧ M'.1.cls ≠ "java/lang/invoke/VarHandle") ∧ (parseMethodDescriptor M'.1.desc).map (fun d => d.parameters.length) = some n
section OKC
variable {T : am_T} {E : am_E} {M : am_M} {pc npc : Nat}
theorem am_callB {s : State} {M' : am_M} {n idx d : Nat} {X : am_X} (hF : am_fit X (d + 1)) (args : Array Value) (hK : am_K T E s) (hM : am_mw T.2.2.1 M' n) (hl : Cond.methodLink M.1.cls idx M'.1 ∈ T.2.2.1) : CallB X.1 s args M.1.cls idx M'.1 M'.2.1 M'.2.2.1 M'.2.2.2 [.code M'.1 M'.2.1 M'.2.2.1 M'.2.2.2] (am_rm d) 0 0 n := by
  obtain ⟨h1, h2, h3, h4, h5⟩ := hM
  refine ⟨rfl, rfl, hF.1, ?_, fun w hw a' U hW => ?_, List.mem_cons_self, hK.word h2 args, hK.word h1 args, h4, fun sig h => ?_, hK.word hl args⟩
  · show 8 + (M'.2.2.1 + 11) + 40 * d ≤ X.1.locals
    have := hF.2.1
    omega
  · rw [List.mem_singleton.mp hw]
    exact va_Nw.use (am_stable_on (hK.2.1 _ h2).1) (am_Nw_warm (hK.2.1 _ h2).1 hW (hK.2.1 _ h2).2)
  · rw [h] at h5
    exact (Option.some.inj h5).symm
theorem am_preS {s : State} {H : Heap} {locs : List Loc} {h : am_H} (hK : am_K T E s) (hP : am_P T E h H) (hS : va_S (am_A T E) s.heap H locs) (av : List am_V) : PreS s H (am_Pre T E av h) (av.map (am_dv E.2.2.2)) :=
  ⟨am_blind T E av h, fun U hU hW => ⟨rfl, by rw [hU]; exact hP, hK.warm hW (fun a h1 h2 => by rw [hU]; exact hS.2.1 a h1 h2)⟩⟩
theorem am_preV {s : State} {H : Heap} {locs : List Loc} {h : am_H} {o ci : Nat} {q : vw_C} (hK : am_K T E s) (hP : am_P T E h H) (hS : va_S (am_A T E) s.heap H locs) (hc : T.2.1[ci]? = some q) (ho : am_ci T o = some ci) (as : List am_V) : PreV s H q.1 (E.2.2.2 o) (am_Pre T E (.inr o :: as) h) (as.map (am_dv E.2.2.2)) := by
  obtain ⟨fs, hsh⟩ := am_ci_sh ho
  exact ⟨am_blind T E _ h, va_recv hK.1 hP hc (am_ws_get hsh), (am_preS hK hP hS (.inr o :: as)).2⟩
theorem ok_cvI {M' : am_M} {n ci idx : Nat} {q : vw_C} {rt : FieldType} (hr : M'.2.2.2 = some rt) (hM : am_mw T.2.2.1 M' n) (hc : T.2.1[ci]? = some q) (hq : q.1 = M'.1.cls) (w1 : Cond.methodLink M.1.cls idx M'.1 ∈ T.2.2.1) (w2 : Cond.instanceMethod M'.1 ∈ T.2.2.1) (w3 : Cond.selects q.1 M'.1 M'.1 ∈ T.2.2.1) (hd : decode M.2.1 pc = .ok (.invokevirtual idx, 3)) (hn : pc + 3 = npc) : am_Ok T E M pc (a_cvI T M' ci n npc) := by
  intro X d Q L S h K hR hK ha p e s m args below meth c H locs ls hh hF hP hS hl
  subst hn
  unfold a_cvI at ha
  cases hp : am_pop n S [] with
  | none => rw [hp] at ha; exact ha.elim
  | some x =>
    obtain ⟨as, r0⟩ := x
    rw [hp] at ha
    match r0, ha, hp with
    | .inr o :: r, ha, hp =>
      obtain ⟨pre, e1, e2, e3⟩ := am_pop_spec n S [] as _ hp
      rw [List.append_nil] at e1
      subst e1
      obtain ⟨ho, hlen, hC⟩ := ha
      cases d with
      | zero => exact hC.elim
      | succ d =>
        obtain ⟨Q0, hMet, hQ0⟩ := hC
        have hKs := hh.2.2.2.2.2.2
        rw [e2]
        have hrun := va_runV (H := H) (locs := locs) (cells := X.2.1) (slots := X.2.2.1) (e := e) (below := below) (meth := meth) (As := as.map (am_dv E.2.2.2)) (rest := r.map (am_dv E.2.2.2)) (b := E.2.2.2 o) (g := F0 m pc ls ((as.reverse ++ .inr o :: r).map (am_dv E.2.2.2))) (C := q.1) ⟨hh.1, hh.2.1, hh.2.2.1, hh.2.2.2.2.2.1, hKs.words args⟩ hMet ⟨am_callB hF args hKs hM w1, hKs.word w2 args, hKs.word w3 args⟩ (am_preV hKs hP hS hc ho as) rfl (by rw [List.length_map]; exact e3) hl.1 (by simp [am_dv]) (by rw [am_sum]; show 2 * 0 + r.length ≤ 8; omega) hd ⟨hF.2.2.1, hF.2.2.2⟩
        rw [hr] at hrun
        exact va_calli (a := #[]) hrun hS (fun z _ hz => hz) (fun z hz => hz) (fun v h' t H1 locs1 ht hvm hp1 hB hz hk hS1 => hK _ _ _ _ (hQ0 v h' hp1) p e s m args below meth c H1 locs1 ls hh hF (by rw [← ht]; exact hB) hS1 hl)
theorem ok_cvV {M' : am_M} {n ci idx : Nat} {q : vw_C} (hr : M'.2.2.2 = none) (hM : am_mw T.2.2.1 M' n) (hc : T.2.1[ci]? = some q) (hq : q.1 = M'.1.cls) (w1 : Cond.methodLink M.1.cls idx M'.1 ∈ T.2.2.1) (w2 : Cond.instanceMethod M'.1 ∈ T.2.2.1) (w3 : Cond.selects q.1 M'.1 M'.1 ∈ T.2.2.1) (hd : decode M.2.1 pc = .ok (.invokevirtual idx, 3)) (hn : pc + 3 = npc) : am_Ok T E M pc (a_cvV T M' ci n npc) := by
  intro X d Q L S h K hR hK ha p e s m args below meth c H locs ls hh hF hP hS hl
  subst hn
  unfold a_cvV at ha
  cases hp : am_pop n S [] with
  | none => rw [hp] at ha; exact ha.elim
  | some x =>
    obtain ⟨as, r0⟩ := x
    rw [hp] at ha
    match r0, ha, hp with
    | .inr o :: r, ha, hp =>
      obtain ⟨pre, e1, e2, e3⟩ := am_pop_spec n S [] as _ hp
      rw [List.append_nil] at e1
      subst e1
      obtain ⟨ho, hlen, hC⟩ := ha
      cases d with
      | zero => exact hC.elim
      | succ d =>
        obtain ⟨Q0, hMet, hQ0⟩ := hC
        have hKs := hh.2.2.2.2.2.2
        rw [e2]
        have hrun := va_runV (H := H) (locs := locs) (cells := X.2.1) (slots := X.2.2.1) (e := e) (below := below) (meth := meth) (As := as.map (am_dv E.2.2.2)) (rest := r.map (am_dv E.2.2.2)) (b := E.2.2.2 o) (g := F0 m pc ls ((as.reverse ++ .inr o :: r).map (am_dv E.2.2.2))) (C := q.1) ⟨hh.1, hh.2.1, hh.2.2.1, hh.2.2.2.2.2.1, hKs.words args⟩ hMet ⟨am_callB hF args hKs hM w1, hKs.word w2 args, hKs.word w3 args⟩ (am_preV hKs hP hS hc ho as) rfl (by rw [List.length_map]; exact e3) hl.1 (by simp [am_dv]) (by rw [am_sum]; show 2 * 0 + r.length ≤ 8; omega) hd ⟨hF.2.2.1, hF.2.2.2⟩
        rw [hr] at hrun
        exact va_callv (a := #[]) hrun hS (fun z _ hz => hz) (fun z hz => hz) (fun h' t H1 locs1 ht hvm hp1 hB hz hk hS1 => hK _ _ _ _ (hQ0 0 h' hp1) p e s m args below meth c H1 locs1 ls hh hF (by rw [← ht]; exact hB) hS1 hl)
theorem ok_csI {M' : am_M} {n idx : Nat} {rt : FieldType} (hr : M'.2.2.2 = some rt) (hM : am_mw T.2.2.1 M' n) (w1 : Cond.methodLink M.1.cls idx M'.1 ∈ T.2.2.1) (w2 : Cond.static M'.1 ∈ T.2.2.1) (hd : decode M.2.1 pc = .ok (.invokestatic idx, 3)) (hn : pc + 3 = npc) : am_Ok T E M pc (a_csI M' n npc) := by
  intro X d Q L S h K hR hK ha p e s m args below meth c H locs ls hh hF hP hS hl
  subst hn
  unfold a_csI at ha
  cases hp : am_pop n S [] with
  | none => rw [hp] at ha; exact ha.elim
  | some x =>
    obtain ⟨as, r⟩ := x
    rw [hp] at ha
    obtain ⟨pre, e1, e2, e3⟩ := am_pop_spec n S [] as _ hp
    rw [List.append_nil] at e1
    subst e1
    obtain ⟨hlen, hC⟩ := ha
    cases d with
    | zero => exact hC.elim
    | succ d =>
      obtain ⟨Q0, hMet, hQ0⟩ := hC
      have hKs := hh.2.2.2.2.2.2
      rw [e2]
      have hrun := va_runS (H := H) (locs := locs) (cells := X.2.1) (slots := X.2.2.1) (e := e) (below := below) (meth := meth) (As := as.map (am_dv E.2.2.2)) (rest := r.map (am_dv E.2.2.2)) (g := F0 m pc ls ((as.reverse ++ r).map (am_dv E.2.2.2))) ⟨hh.1, hh.2.1, hh.2.2.1, hh.2.2.2.2.2.1, hKs.words args⟩ hMet ⟨am_callB hF args hKs hM w1, hKs.word w2 args⟩ (am_preS hKs hP hS as) rfl (by rw [List.length_map]; exact e3) hl.1 (by simp) (by rw [am_sum]; show 2 * 0 + r.length ≤ 8; omega) hd ⟨hF.2.2.1, hF.2.2.2⟩
      rw [hr] at hrun
      exact va_calli (a := #[]) hrun hS (fun z _ hz => hz) (fun z hz => hz) (fun v h' t H1 locs1 ht hvm hp1 hB hz hk hS1 => hK _ _ _ _ (hQ0 v h' hp1) p e s m args below meth c H1 locs1 ls hh hF (by rw [← ht]; exact hB) hS1 hl)
theorem ok_csV {M' : am_M} {n idx : Nat} (hr : M'.2.2.2 = none) (hM : am_mw T.2.2.1 M' n) (w1 : Cond.methodLink M.1.cls idx M'.1 ∈ T.2.2.1) (w2 : Cond.static M'.1 ∈ T.2.2.1) (hd : decode M.2.1 pc = .ok (.invokestatic idx, 3)) (hn : pc + 3 = npc) : am_Ok T E M pc (a_csV M' n npc) := by
  intro X d Q L S h K hR hK ha p e s m args below meth c H locs ls hh hF hP hS hl
  subst hn
  unfold a_csV at ha
  cases hp : am_pop n S [] with
  | none => rw [hp] at ha; exact ha.elim
  | some x =>
    obtain ⟨as, r⟩ := x
    rw [hp] at ha
    obtain ⟨pre, e1, e2, e3⟩ := am_pop_spec n S [] as _ hp
    rw [List.append_nil] at e1
    subst e1
    obtain ⟨hlen, hC⟩ := ha
    cases d with
    | zero => exact hC.elim
    | succ d =>
      obtain ⟨Q0, hMet, hQ0⟩ := hC
      have hKs := hh.2.2.2.2.2.2
      rw [e2]
      have hrun := va_runS (H := H) (locs := locs) (cells := X.2.1) (slots := X.2.2.1) (e := e) (below := below) (meth := meth) (As := as.map (am_dv E.2.2.2)) (rest := r.map (am_dv E.2.2.2)) (g := F0 m pc ls ((as.reverse ++ r).map (am_dv E.2.2.2))) ⟨hh.1, hh.2.1, hh.2.2.1, hh.2.2.2.2.2.1, hKs.words args⟩ hMet ⟨am_callB hF args hKs hM w1, hKs.word w2 args⟩ (am_preS hKs hP hS as) rfl (by rw [List.length_map]; exact e3) hl.1 (by simp) (by rw [am_sum]; show 2 * 0 + r.length ≤ 8; omega) hd ⟨hF.2.2.1, hF.2.2.2⟩
      rw [hr] at hrun
      exact va_callv (a := #[]) hrun hS (fun z _ hz => hz) (fun z hz => hz) (fun h' t H1 locs1 ht hvm hp1 hB hz hk hS1 => hK _ _ _ _ (hQ0 0 h' hp1) p e s m args below meth c H1 locs1 ls hh hF (by rw [← ht]; exact hB) hS1 hl)
theorem am_callN {s : State} {M' : am_M} {n idx d : Nat} {host : String} {X : am_X} (hF : am_fit X (d + 1)) (args : Array Value) (hK : am_K T E s) (hM : am_mw T.2.2.1 M' n) (hl : Cond.methodLinkNest M.1.cls idx M'.1 host ∈ T.2.2.1) : va_CN X.1 s args M.1.cls idx M'.1 host M'.2.1 M'.2.2.1 M'.2.2.2 [.code M'.1 M'.2.1 M'.2.2.1 M'.2.2.2] (am_rm d) 0 0 n := by
  obtain ⟨h1, h2, h3, h4, h5⟩ := hM
  refine ⟨⟨rfl, rfl, hF.1, ?_, fun w hw a' U hW => ?_, List.mem_cons_self⟩, hK.word h2 args, hK.word h1 args, h4, fun sig h => ?_, hK.word hl args⟩
  · show 8 + (M'.2.2.1 + 11) + 40 * d ≤ X.1.locals
    have := hF.2.1
    omega
  · rw [List.mem_singleton.mp hw]
    exact va_Nw.use (am_stable_on (hK.2.1 _ h2).1) (am_Nw_warm (hK.2.1 _ h2).1 hW (hK.2.1 _ h2).2)
  · rw [h] at h5
    exact (Option.some.inj h5).symm
theorem ok_csIN {M' : am_M} {n idx : Nat} {rt : FieldType} (hr : M'.2.2.2 = some rt) (hM : am_mw T.2.2.1 M' n) {host : String} (w1 : Cond.methodLinkNest M.1.cls idx M'.1 host ∈ T.2.2.1) (w2 : Cond.static M'.1 ∈ T.2.2.1) (hd : decode M.2.1 pc = .ok (.invokestatic idx, 3)) (hn : pc + 3 = npc) : am_Ok T E M pc (a_csI M' n npc) := by
  intro X d Q L S h K hR hK ha p e s m args below meth c H locs ls hh hF hP hS hl
  subst hn
  unfold a_csI at ha
  cases hp : am_pop n S [] with
  | none => rw [hp] at ha; exact ha.elim
  | some x =>
    obtain ⟨as, r⟩ := x
    rw [hp] at ha
    obtain ⟨pre, e1, e2, e3⟩ := am_pop_spec n S [] as _ hp
    rw [List.append_nil] at e1
    subst e1
    obtain ⟨hlen, hC⟩ := ha
    cases d with
    | zero => exact hC.elim
    | succ d =>
      obtain ⟨Q0, hMet, hQ0⟩ := hC
      have hKs := hh.2.2.2.2.2.2
      rw [e2]
      have hrun := va_runSN (H := H) (locs := locs) (cells := X.2.1) (slots := X.2.2.1) (e := e) (below := below) (meth := meth) (As := as.map (am_dv E.2.2.2)) (rest := r.map (am_dv E.2.2.2)) (g := F0 m pc ls ((as.reverse ++ r).map (am_dv E.2.2.2))) ⟨hh.1, hh.2.1, hh.2.2.1, hh.2.2.2.2.2.1, hKs.words args⟩ hMet ⟨am_callN hF args hKs hM w1, hKs.word w2 args, trivial⟩ (am_preS hKs hP hS as) rfl (by rw [List.length_map]; exact e3) hl.1 (by simp) (by rw [am_sum]; show 2 * 0 + r.length ≤ 8; omega) hd ⟨hF.2.2.1, hF.2.2.2⟩
      rw [hr] at hrun
      exact va_calli (a := #[]) hrun hS (fun z _ hz => hz) (fun z hz => hz) (fun v h' t H1 locs1 ht hvm hp1 hB hz hk hS1 => hK _ _ _ _ (hQ0 v h' hp1) p e s m args below meth c H1 locs1 ls hh hF (by rw [← ht]; exact hB) hS1 hl)
theorem ok_tsw {dflt lo hi : Int} {offs : Array Int} {len dt : Nat} {cs : List (Int32 × Nat)} (hd : decode M.2.1 pc = .ok (.tableswitch dflt lo hi offs, len)) (hdt : (pc : Int) + dflt = (dt : Int))
    (h1 : ∀ x ∈ cs, ¬ x.1.toInt < lo ∧ ¬ hi < x.1.toInt ∧ (offs[(x.1.toInt - lo).toNat]?).map (fun o => (pc : Int) + o) = some (x.2 : Int)) (h2 : ∀ j ∈ List.range (hi - lo + 1).toNat, ∃ x ∈ cs, x.1.toInt = lo + j) : am_Ok T E M pc (a_sw cs dt) := by
  intro X d Q L S h K hR hK ha p e s m args below meth c H locs ls hh hF hP hS hl
  match S, ha with
  | .inl x :: r, ha =>
    rcases am_sw_imp cs ha with ⟨q, hq, rfl, hk⟩ | ⟨hno, hk⟩
    · obtain ⟨a1, a2, a3⟩ := h1 q hq
      cases ho : offs[(q.1.toInt - lo).toNat]? with
      | none => rw [ho] at a3; cases a3
      | some off =>
        rw [ho] at a3
        exact lv_tableIn hh.1 hh.2.1 hd a1 a2 ho (Option.some.inj a3) (hK _ _ _ _ hk p e s m args below meth c H locs ls hh hF hP hS hl)
    · refine lv_tableOut hh.1 hh.2.1 hd ?_ hdt (hK _ _ _ _ hk p e s m args below meth c H locs ls hh hF hP hS hl)
      by_cases hlo : x.toInt < lo
      · exact Or.inl hlo
      · by_cases hhi : hi < x.toInt
        · exact Or.inr hhi
        · exfalso
          obtain ⟨q, hq, e1⟩ := h2 (x.toInt - lo).toNat (List.mem_range.mpr (by omega))
          exact hno q hq (Int32.toInt_inj.mp (by rw [e1]; omega))
theorem am_off_no {x d : Int} : ∀ (ps : List (Int × Int)), (∀ q ∈ ps, ¬ q.1 = x) → Op.lookupswitch.offset ps d x = d
  | [], _ => by first | rfl | simp [Op.lookupswitch.offset]
  | (a, o) :: t, h => by
    rw [Op.lookupswitch.offset_cons, if_neg (h (a, o) List.mem_cons_self)]
    exact am_off_no t (fun q hq => h q (List.mem_cons_of_mem _ hq))
theorem ok_lsw {dflt : Int} {ps : Array (Int × Int)} {len dt : Nat} {cs : List (Int32 × Nat)} (hd : decode M.2.1 pc = .ok (.lookupswitch dflt ps, len)) (hdt : (pc : Int) + dflt = (dt : Int)) (hp : (ps.toList.zip (ps.toList.drop 1)).all (fun (a, next) => a.1 < next.1) = true)
    (h1 : ∀ x ∈ cs, (pc : Int) + Op.lookupswitch.offset ps.toList dflt x.1.toInt = (x.2 : Int)) (h2 : ∀ q ∈ ps.toList, ∃ x ∈ cs, x.1.toInt = q.1) : am_Ok T E M pc (a_sw cs dt) := by
  intro X d Q L S h K hR hK ha p e s m args below meth c H locs ls hh hF hP hS hl
  match S, ha with
  | .inl x :: r, ha =>
    rcases am_sw_imp cs ha with ⟨q, hq, rfl, hk⟩ | ⟨hno, hk⟩
    · exact lv_lookup hh.1 hh.2.1 hd hp rfl (h1 q hq) (hK _ _ _ _ hk p e s m args below meth c H locs ls hh hF hP hS hl)
    · refine lv_lookup hh.1 hh.2.1 hd hp (am_off_no _ (fun q hq e1 => ?_)) hdt (hK _ _ _ _ hk p e s m args below meth c H locs ls hh hF hP hS hl)
      obtain ⟨z, hz, e2⟩ := h2 q hq
      exact hno z hz (Int32.toInt_inj.mp (by rw [e2, e1]))
theorem ok_copy {idx : Nat} (w1 : Cond.methodLink M.1.cls idx arraycopyName ∈ T.2.2.1) (w2 : Cond.native arraycopyName ∈ T.2.2.1) (w3 : Cond.static arraycopyName ∈ T.2.2.1) (w4 : Cond.initialized "java/lang/System" ∈ T.2.2.1) (hd : decode M.2.1 pc = .ok (.invokestatic idx, 3)) (hn : pc + 3 = npc) : am_Ok T E M pc (a_copy T npc) := by
  intro X d Q L S h K hR hK ha p e s m args below meth c H locs ls hh hF hP hS hl
  subst hn
  match S, ha with
  | .inl n :: .inl dp :: .inr q :: .inl sp :: .inr o :: r, ha =>
    simp only [a_copy] at ha
    cases h0 : am_len T o with
    | none => rw [h0] at ha; exact ha.elim
    | some n0 =>
      cases h1 : am_len T q with
      | none => rw [h0, h1] at ha; exact ha.elim
      | some n1 =>
        rw [h0, h1] at ha
        obtain ⟨c0, c1, c2, c3, c4, c5, c6, c7⟩ := ha
        have hKs := hh.2.2.2.2.2.2
        refine va_copyi (ty := .int) hh.1 hh.2.1 (hh.2.2.1.trans hl.1.symm) hh.2.2.2.2.2.1 (hKs.word w1 args) (hKs.word w2 args) (hKs.word w3 args) (hKs.word w4 args) hKs.1 hP (am_D hKs h) hS o q 0 0 (am_ws_get (am_len_sh h0)) (am_ws_get (am_len_sh h1)) rfl rfl rfl c2 c3 c4 c5 c6 (fun _ _ => rfl) (Nat.le_trans c0 hF.1) ?_ hd (fun H1 locs1 hP1 _ hS1 => hK _ _ _ _ c7 p e s m args below meth c H1 locs1 ls hh hF ?_ hS1 hl)
        · rw [am_sum]
          have hw : nativeFrameWords "java/lang/System" "arraycopy" 5 ≤ 20 := by decide
          have h40 := hF.2.1
          omega
        · rw [am_ws_set (h' := am_cpy h o sp.toNatClampNeg q dp.toNatClampNeg n.toNatClampNeg) (am_len_sh h1) (by simp only [am_cell, am_cpy, if_true]) (fun z hz => by simp only [am_cpy, if_neg hz])] at hP1
          exact hP1
end OKC
/-- a String constant, j by its number -/
def a_ldS (j npc : Nat) : am_Act := fun _ _ _ L S h K => K npc L (.inr (200 + j) :: S) h
def a_cvS (T : am_T) (M' : am_M) (n npc : Nat) : am_Act := fun _ C _ L S h K => match am_pop n S [] with
  | some (as, .inr o :: r) => 200 ≤ o ∧ o - 200 < T.2.2.2.1.1 ∧ r.length ≤ 8 ∧ C M' (.inr o :: as) h (fun v h' => K npc L (.inl v :: r) h')
  | _ => False
section OKS
variable {T : am_T} {E : am_E} {M : am_M} {pc npc : Nat}
theorem ok_ldS {tx : String} {index j : Nat} (hr : (M.1.cls, index, tx, j) ∈ T.2.2.2.2) (hd : decode M.2.1 pc = .ok (.ldc index, 2)) (hn : pc + 2 = npc) : am_Ok T E M pc (a_ldS j npc) := by
  intro X d Q L S h K hR hK ha p e s m args below meth c H locs ls hh hF hP hS hl
  subst hn
  exact va_ldcS hh.1 hh.2.1 hh.2.2.2.2.2.1 (hh.2.2.2.2.2.2.2.2.2.2.1 _ hr).2 hd (hK _ _ _ _ ha p e s m args below meth c H locs ls hh hF hP hS hl)
theorem ok_cvS {M' : am_M} {n idx : Nat} {rt : FieldType} (hr : M'.2.2.2 = some rt) (hM : am_mw T.2.2.1 M' n) (hq : M'.1.cls = "java/lang/String") (w1 : Cond.methodLink M.1.cls idx M'.1 ∈ T.2.2.1) (w2 : Cond.instanceMethod M'.1 ∈ T.2.2.1) (w3 : Cond.selects "java/lang/String" M'.1 M'.1 ∈ T.2.2.1) (hd : decode M.2.1 pc = .ok (.invokevirtual idx, 3)) (hn : pc + 3 = npc) : am_Ok T E M pc (a_cvS T M' n npc) := by
  intro X d Q L S h K hR hK ha p e s m args below meth c H locs ls hh hF hP hS hl
  subst hn
  unfold a_cvS at ha
  cases hp : am_pop n S [] with
  | none => rw [hp] at ha; exact ha.elim
  | some x =>
    obtain ⟨as, r0⟩ := x
    rw [hp] at ha
    match r0, ha, hp with
    | .inr o :: r, ha, hp =>
      obtain ⟨pre, e1, e2, e3⟩ := am_pop_spec n S [] as _ hp
      rw [List.append_nil] at e1
      subst e1
      obtain ⟨ho, ho2, hlen, hC⟩ := ha
      cases d with
      | zero => exact hC.elim
      | succ d =>
        obtain ⟨Q0, hMet, hQ0⟩ := hC
        have hKs := hh.2.2.2.2.2.2
        have hrec := vk_recv hKs.2.2.2.1 ho2 hS
        simp only [show 200 + (o - 200) = o by omega] at hrec
        rw [e2]
        have hrun := va_runV (H := H) (locs := locs) (cells := X.2.1) (slots := X.2.2.1) (e := e) (below := below) (meth := meth) (As := as.map (am_dv E.2.2.2)) (rest := r.map (am_dv E.2.2.2)) (b := E.2.2.2 o) (g := F0 m pc ls ((as.reverse ++ .inr o :: r).map (am_dv E.2.2.2))) (C := "java/lang/String") ⟨hh.1, hh.2.1, hh.2.2.1, hh.2.2.2.2.2.1, hKs.words args⟩ hMet ⟨am_callB hF args hKs hM w1, hKs.word w2 args, hKs.word w3 args⟩ ⟨am_blind T E _ h, hrec, (am_preS hKs hP hS (.inr o :: as)).2⟩ rfl (by rw [List.length_map]; exact e3) hl.1 (by simp [am_dv]) (by rw [am_sum]; show 2 * 0 + r.length ≤ 8; omega) hd ⟨hF.2.2.1, hF.2.2.2⟩
        rw [hr] at hrun
        exact va_calli (a := #[]) hrun hS (fun z _ hz => hz) (fun z hz => hz) (fun v h' t H1 locs1 ht hvm hp1 hB hz hk hS1 => hK _ _ _ _ (hQ0 v h' hp1) p e s m args below meth c H1 locs1 ls hh hF (by rw [← ht]; exact hB) hS1 hl)
end OKS
/-! what the JDK's own methods of String, StringLatin1, Integer need -/
def a_gst (npc : Nat) : am_Act := fun _ _ _ L S h K => K npc L (.inl 1 :: S) h
def a_gsv (T : am_T) (npc : Nat) : am_Act := fun _ _ _ L S h K => match S with
  | .inr o :: r => 200 ≤ o ∧ o - 200 < T.2.2.2.1.1 ∧ K npc L (.inr (100 + o) :: r) h
  | _ => False
def a_gsc (T : am_T) (npc : Nat) : am_Act := fun _ _ _ L S h K => match S with
  | .inr o :: r => 200 ≤ o ∧ o - 200 < T.2.2.2.1.1 ∧ K npc L (.inl 0 :: r) h
  | _ => False
def a_bald (T : am_T) (npc : Nat) : am_Act := fun _ _ _ L S h K => match S with
  | .inl i :: .inr o :: r => 300 ≤ o ∧ o - 300 < T.2.2.2.1.1 ∧ vp_in i (T.2.2.2.1.2.1.getD (o - 300) 0) ∧ K npc L (.inl ((T.2.2.2.1.2.2.getD (o - 300) []).getD i.toNatClampNeg 0) :: r) h
  | _ => False
def a_blen (T : am_T) (npc : Nat) : am_Act := fun _ _ _ L S h K => match S with
  | .inr o :: r => 300 ≤ o ∧ o - 300 < T.2.2.2.1.1 ∧ K npc L (.inl (Int32.ofNat (T.2.2.2.1.2.1.getD (o - 300) 0)) :: r) h
  | _ => False
/-- the law's own script -/
def a_sld (xs : Nat → Int32) (N npc : Nat) : am_Act := fun _ _ _ L S h K => match S with
  | .inl i :: .inr o :: r => o = 400 ∧ vp_in i N ∧ K npc L (.inl (xs i.toNatClampNeg) :: r) h
  | _ => False
def a_slen (N npc : Nat) : am_Act := fun _ _ _ L S h K => match S with
  | .inr o :: r => o = 400 ∧ K npc L (.inl (Int32.ofNat N) :: r) h
  | _ => False
def am_i2b (x : Int32) : Int32 := x.toInt8.toInt32
section OKJ
variable {T : am_T} {E : am_E} {M : am_M} {pc npc : Nat}
theorem ok_gst {index : Nat} (hw : Cond.fieldLink M.1.cls index "java/lang/String" "COMPACT_STRINGS" "Z" ∈ T.2.2.1) (hd : decode M.2.1 pc = .ok (.getstatic index, 3)) (hn : pc + 3 = npc) : am_Ok T E M pc (a_gst npc) := by
  intro X d Q L S h K hR hK ha p e s m args below meth c H locs ls hh hF hP hS hl
  subst hn
  exact va_gets hh.1 hh.2.1 hh.2.2.2.2.2.2.2.2.2.2.2.1 hS hh.2.2.2.2.2.1 (hh.2.2.2.2.2.2.word hw args) (fun _ z => z) hd (hK _ _ _ _ ha p e s m args below meth c H locs ls hh hF hP hS hl)
theorem ok_gsv {index : Nat} (hw : Cond.fieldLink M.1.cls index "java/lang/String" "value" "[B" ∈ T.2.2.1) (hd : decode M.2.1 pc = .ok (.getfield index, 3)) (hn : pc + 3 = npc) : am_Ok T E M pc (a_gsv T npc) := by
  intro X d Q L S h K hR hK ha p e s m args below meth c H locs ls hh hF hP hS hl
  subst hn
  match S, ha with
  | .inr o :: r, ha =>
    obtain ⟨h1, h2, ha⟩ := ha
    have hE := (hh.2.2.2.2.2.2.2.2.2.1.1 _ h2).2.2.1
    simp only [show 200 + (o - 200) = o by omega, show 300 + (o - 200) = 100 + o by omega] at hE
    exact vk_getf hh.1 hh.2.1 hE hS hh.2.2.2.2.2.1 (hh.2.2.2.2.2.2.word hw args) (fun _ z => z) hd (hK _ _ _ _ ha p e s m args below meth c H locs ls hh hF hP hS hl)
theorem ok_gsc {index : Nat} (hw : Cond.fieldLink M.1.cls index "java/lang/String" "coder" "B" ∈ T.2.2.1) (hd : decode M.2.1 pc = .ok (.getfield index, 3)) (hn : pc + 3 = npc) : am_Ok T E M pc (a_gsc T npc) := by
  intro X d Q L S h K hR hK ha p e s m args below meth c H locs ls hh hF hP hS hl
  subst hn
  match S, ha with
  | .inr o :: r, ha =>
    obtain ⟨h1, h2, ha⟩ := ha
    have hE := (hh.2.2.2.2.2.2.2.2.2.1.1 _ h2).2.1
    simp only [show 200 + (o - 200) = o by omega] at hE
    exact vk_getf hh.1 hh.2.1 hE hS hh.2.2.2.2.2.1 (hh.2.2.2.2.2.2.word hw args) (fun _ z => z) hd (hK _ _ _ _ ha p e s m args below meth c H locs ls hh hF hP hS hl)
theorem ok_bald (hd : decode M.2.1 pc = .ok (.baload, 1)) (hn : pc + 1 = npc) : am_Ok T E M pc (a_bald T npc) := by
  intro X d Q L S h K hR hK ha p e s m args below meth c H locs ls hh hF hP hS hl
  subst hn
  match S, ha with
  | .inl i :: .inr o :: r, ha =>
    obtain ⟨h1, h2, h3, ha⟩ := ha
    have hE := (hh.2.2.2.2.2.2.2.2.2.1.1 _ h2).2.2.2
    simp only [show 300 + (o - 300) = o by omega] at hE
    exact va_tb hh.1 hh.2.1 hE hS h3 rfl hd (hK _ _ _ _ ha p e s m args below meth c H locs ls hh hF hP hS hl)
theorem ok_blen (hd : decode M.2.1 pc = .ok (.arraylength, 1)) (hn : pc + 1 = npc) : am_Ok T E M pc (a_blen T npc) := by
  intro X d Q L S h K hR hK ha p e s m args below meth c H locs ls hh hF hP hS hl
  subst hn
  match S, ha with
  | .inr o :: r, ha =>
    obtain ⟨h1, h2, ha⟩ := ha
    have hE := (hh.2.2.2.2.2.2.2.2.2.1.1 _ h2).2.2.2
    simp only [show 300 + (o - 300) = o by omega] at hE
    exact va_tlen hh.1 hh.2.1 hE hS rfl hd (hK _ _ _ _ ha p e s m args below meth c H locs ls hh hF hP hS hl)
theorem ok_ldcw {index : Nat} {v : Int32} (hw : Cond.constant M.1.cls index v ∈ T.2.2.1) (hd : decode M.2.1 pc = .ok (.ldc_w index, 3)) (hn : pc + 3 = npc) : am_Ok T E M pc (a_const v npc) := by
  intro X d Q L S h K hR hK ha p e s m args below meth c H locs ls hh hF hP hS hl
  subst hn
  exact lv_ldcw hh.1 hh.2.1 hh.2.2.2.2.2.1 (hh.2.2.2.2.2.2.word hw args) hd (hK _ _ _ _ ha p e s m args below meth c H locs ls hh hF hP hS hl)
theorem ok_i2b (hd : decode M.2.1 pc = .ok (.i2b, 1)) (hn : pc + 1 = npc) : am_Ok T E M pc (a_un am_i2b npc) := by
  intro X d Q L S h K hR hK ha p e s m args below meth c H locs ls hh hF hP hS hl
  subst hn
  match S, ha with
  | .inl x :: r, ha => exact lv_i2b hh.1 hh.2.1 hd rfl (hK _ _ _ _ ha p e s m args below meth c H locs ls hh hF hP hS hl)
theorem ok_sld (hd : decode M.2.1 pc = .ok (.iaload, 1)) (hn : pc + 1 = npc) : am_Ok T E M pc (a_sld (fun j => nI (E.2.2.2 (500 + j))) (E.2.2.2 401) npc) := by
  intro X d Q L S h K hR hK ha p e s m args below meth c H locs ls hh hF hP hS hl
  subst hn
  match S, ha with
  | .inl i :: .inr o :: r, ha =>
    obtain ⟨rfl, h1, ha⟩ := ha
    have hKs := hh.2.2.2.2.2.2.2.2.2.2.2.2
    exact va_sld hh.1 hh.2.1 hKs.1 hKs.2.1 hKs.2.2.1 hS h1 hd (hK _ _ _ _ ha p e s m args below meth c H locs ls hh hF hP hS hl)
theorem ok_slen (hd : decode M.2.1 pc = .ok (.arraylength, 1)) (hn : pc + 1 = npc) : am_Ok T E M pc (a_slen (E.2.2.2 401) npc) := by
  intro X d Q L S h K hR hK ha p e s m args below meth c H locs ls hh hF hP hS hl
  subst hn
  match S, ha with
  | .inr o :: r, ha =>
    obtain ⟨rfl, ha⟩ := ha
    have hKs := hh.2.2.2.2.2.2.2.2.2.2.2.2
    exact va_slen hh.1 hh.2.1 hKs.1 hKs.2.1 hKs.2.2.1 hS hd (hK _ _ _ _ ha p e s m args below meth c H locs ls hh hF hP hS hl)
end OKJ
/-! tables of a method's code as a tree over its pcs -/
def am_nd (k : Nat) (t1 t2 : Nat → Option am_Act) : Nat → Option am_Act := fun pc => bif Nat.blt pc k then t1 pc else t2 pc
def am_lf (k : Nat) (a : am_Act) : Nat → Option am_Act := fun pc => bif Nat.beq pc k then some a else none
theorem am_ndE_ok {T : am_T} {E : am_E} {M : am_M} {k : Nat} {t1 t2 : Nat → Option am_Act} (h1 : am_GoodE T E M t1) (h2 : am_GoodE T E M t2) : am_GoodE T E M (am_nd k t1 t2) := by
  intro pc a h
  unfold am_nd at h
  cases hb : Nat.blt pc k with
  | true => rw [hb] at h; exact h1 pc a h
  | false => rw [hb] at h; exact h2 pc a h
theorem am_lfE_ok {T : am_T} {E : am_E} {M : am_M} {k : Nat} {a : am_Act} (h1 : am_Ok T E M k a) : am_GoodE T E M (am_lf k a) := by
  intro pc b h
  unfold am_lf at h
  cases hb : Nat.beq pc k with
  | true =>
    rw [hb] at h
    have e1 := Nat.eq_of_beq_eq_true hb
    subst e1
    cases h
    exact h1
  | false => rw [hb] at h; cases h
theorem am_nd_ok {T : am_T} {M : am_M} {k : Nat} {t1 t2 : Nat → Option am_Act} (h1 : am_Good T M t1) (h2 : am_Good T M t2) : am_Good T M (am_nd k t1 t2) := fun E => am_ndE_ok (h1 E) (h2 E)
theorem am_lf_ok {T : am_T} {M : am_M} {k : Nat} {a : am_Act} (h1 : ∀ E, am_Ok T E M k a) : am_Good T M (am_lf k a) := fun E => am_lfE_ok (h1 E)
