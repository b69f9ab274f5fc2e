/-! ===== part bb: what the start gives (written by gen_d.py) ===== -/
theorem lw_in_1 {w : Cond} (i : Nat) (h : tables_1_1[i]? = some w) : w ∈ lw_tbl := List.mem_append_right _ (show w ∈ tables_1 from List.mem_append_left _ (List.mem_of_getElem? h))
theorem lw_in_2 {w : Cond} (i : Nat) (h : tables_1_2[i]? = some w) : w ∈ lw_tbl := List.mem_append_right _ (show w ∈ tables_1 from List.mem_append_right _ (List.mem_append_left _ (List.mem_of_getElem? h)))
theorem lw_in_3 {w : Cond} (i : Nat) (h : tables_1_3[i]? = some w) : w ∈ lw_tbl := List.mem_append_right _ (show w ∈ tables_1 from List.mem_append_right _ (List.mem_append_right _ (List.mem_append_left _ (List.mem_of_getElem? h))))
theorem lw_in_4 {w : Cond} (i : Nat) (h : tables_1_4[i]? = some w) : w ∈ lw_tbl := List.mem_append_right _ (show w ∈ tables_1 from List.mem_append_right _ (List.mem_append_right _ (List.mem_append_right _ (List.mem_append_left _ (List.mem_of_getElem? h)))))
theorem lw_in_5 {w : Cond} (i : Nat) (h : tables_1_5[i]? = some w) : w ∈ lw_tbl := List.mem_append_right _ (show w ∈ tables_1 from List.mem_append_right _ (List.mem_append_right _ (List.mem_append_right _ (List.mem_append_right _ (List.mem_append_left _ (List.mem_of_getElem? h))))))
theorem lw_in_6 {w : Cond} (i : Nat) (h : tables_1_6[i]? = some w) : w ∈ lw_tbl := List.mem_append_right _ (show w ∈ tables_1 from List.mem_append_right _ (List.mem_append_right _ (List.mem_append_right _ (List.mem_append_right _ (List.mem_append_right _ (List.mem_append_left _ (List.mem_of_getElem? h)))))))
theorem lw_in_7 {w : Cond} (i : Nat) (h : tables_1_7[i]? = some w) : w ∈ lw_tbl := List.mem_append_right _ (show w ∈ tables_1 from List.mem_append_right _ (List.mem_append_right _ (List.mem_append_right _ (List.mem_append_right _ (List.mem_append_right _ (List.mem_append_right _ (List.mem_of_getElem? h)))))))
theorem sq_0 : Cond.stringRef "TollOfNames$LawReader" 114 "leave keep when or and not kind letters names order like bridge day kept " ∈ lw_tbl := lw_in_3 62 rfl
theorem sq_1 : Cond.stringRef "TollOfNames$LawReader" 107 ";+-*/()<=>" ∈ lw_tbl := lw_in_3 126 rfl
theorem sq_2 : Cond.stringRef "TollOfNamesModel" 135 "when" ∈ lw_tbl := lw_in_6 15 rfl
theorem sq_3 : Cond.stringRef "TollOfNamesModel" 137 "or" ∈ lw_tbl := lw_in_6 22 rfl
theorem sq_4 : Cond.stringRef "TollOfNamesModel" 139 "and" ∈ lw_tbl := lw_in_6 23 rfl
theorem sq_5 : Cond.stringRef "TollOfNamesModel" 141 "not" ∈ lw_tbl := lw_in_6 24 rfl
theorem sq_6 : Cond.stringRef "TollOfNamesModel" 143 "leave" ∈ lw_tbl := lw_in_6 25 rfl
theorem sq_7 : Cond.stringRef "TollOfNamesModel" 145 "keep" ∈ lw_tbl := lw_in_6 26 rfl
theorem sq_8 : Cond.stringRef "TollOfNamesModel" 116 "kind" ∈ lw_tbl := lw_in_6 31 rfl
theorem sq_9 : Cond.stringRef "TollOfNamesModel" 122 "letters" ∈ lw_tbl := lw_in_6 32 rfl
theorem sq_10 : Cond.stringRef "TollOfNamesModel" 124 "names" ∈ lw_tbl := lw_in_6 33 rfl
theorem sq_11 : Cond.stringRef "TollOfNamesModel" 126 "order" ∈ lw_tbl := lw_in_6 34 rfl
theorem sq_12 : Cond.stringRef "TollOfNamesModel" 128 "like" ∈ lw_tbl := lw_in_6 35 rfl
theorem sq_13 : Cond.stringRef "TollOfNamesModel" 130 "bridge" ∈ lw_tbl := lw_in_6 36 rfl
theorem sq_14 : Cond.stringRef "TollOfNamesModel" 132 "day" ∈ lw_tbl := lw_in_6 37 rfl
theorem sq_15 : Cond.stringRef "TollOfNamesModel" 134 "kept" ∈ lw_tbl := lw_in_6 38 rfl
theorem sq_cs : Cond.laysStatic "java/lang/String" "COMPACT_STRINGS" "Z" ∈ lw_tbl := lw_in_3 72 rfl
theorem sq_fm : Cond.laysStatic "jdk/internal/util/Preconditions" "SIOOBE_FORMATTER" "Ljava/util/function/BiFunction;" ∈ lw_tbl := lw_in_3 88 rfl
theorem sq_is : Cond.initialized "java/lang/String" ∈ lw_tbl := lw_in_1 16 rfl
theorem sq_ip : Cond.initialized "jdk/internal/util/Preconditions" ∈ lw_tbl := lw_in_1 18 rfl
theorem sq_ac : Cond.arrayClass .int ∈ lw_tbl := lw_in_1 85 rfl
theorem ins_X0 : Cond.instantiable RX0 8 ∈ tbw := am_in_2 112 rfl rfl
theorem ins_X1 : Cond.instantiable RX1 8 ∈ tbw := am_in_2 61 rfl rfl
theorem ins_X2 : Cond.instantiable RX2 3 ∈ tbw := am_in_1 87 rfl rfl
theorem ins_X3 : Cond.instantiable RX3 4 ∈ tbw := am_in_1 107 rfl rfl
theorem ins_X4 : Cond.instantiable RX4 9 ∈ tbw := am_in_2 7 rfl rfl
theorem ins_X5 : Cond.instantiable RX5 8 ∈ tbw := am_in_1 38 rfl rfl
theorem ins_X6 : Cond.instantiable RX6 3 ∈ tbw := am_in_2 95 rfl rfl
theorem ins_X7 : Cond.instantiable RX7 4 ∈ tbw := am_in_1 200 rfl rfl
theorem ins_X8 : Cond.instantiable RX8 2 ∈ tbw := am_in_2 47 rfl rfl
theorem ins_X9 : Cond.instantiable RX9 7 ∈ tbw := am_in_1 219 rfl rfl
theorem ins_X10 : Cond.instantiable RX10 14 ∈ tbw := am_in_1 32 rfl rfl
theorem ins_X11 : Cond.instantiable RX11 10 ∈ tbw := am_in_1 24 rfl rfl
theorem ins_X12 : Cond.instantiable RX12 31 ∈ tbw := am_in_5 67 rfl rfl
theorem lk_X11 : Cond.classLink mL_law.1.cls 7 RX11 ∈ tbw := am_in_1 23 rfl rfl
theorem in_X11 : Cond.initialized RX11 ∈ tbw := am_in_1 1 rfl rfl
theorem ml_X11 : Cond.methodLink mL_law.1.cls 9 mX11_init.1 ∈ tbw := am_in_1 25 rfl rfl
theorem im_X11 : Cond.instanceMethod mX11_init.1 ∈ tbw := am_in_1 26 rfl rfl
theorem co_X11 : Cond.code mX11_init.1 mX11_init.2.1 mX11_init.2.2.1 mX11_init.2.2.2 ∈ tbw := am_in_1 27 rfl rfl
theorem lk_X12 : Cond.classLink mL_law.1.cls 10 RX12 ∈ tbw := am_in_5 66 rfl rfl
theorem in_X12 : Cond.initialized RX12 ∈ tbw := am_in_1 13 rfl rfl
theorem ml_X12 : Cond.methodLink mL_law.1.cls 12 mX12_init.1 ∈ tbw := am_in_5 68 rfl rfl
theorem im_X12 : Cond.instanceMethod mX12_init.1 ∈ tbw := am_in_5 69 rfl rfl
theorem co_X12 : Cond.code mX12_init.1 mX12_init.2.1 mX12_init.2.2.1 mX12_init.2.2.2 ∈ tbw := am_in_5 70 rfl rfl
def flN : List Cond := flatC (Jvm.Cond.and given_1 narrow_1)
def tmS (i : Nat) : Term := Term.string (tsr.getD i ("", 0, "", 0)).1 (tsr.getD i ("", 0, "", 0)).2.1
theorem sN_ex : ∀ i, i < 16 → Cond.exactly (tmS i) "java/lang/String" ∈ flN := by decide +kernel
theorem sN_co : ∀ i, i < 16 → Cond.eq (.field (tmS i) "java/lang/String" "coder" "B") (.int 0) ∈ flN := by decide +kernel
theorem sN_ar : ∀ i, i < 16 → Cond.arrayOf (.field (tmS i) "java/lang/String" "value" "[B") .byte ∈ flN := by decide +kernel
theorem sN_le : ∀ i, i < 16 → Cond.eq (.length (.field (tmS i) "java/lang/String" "value" "[B")) (.int (Int32.ofNat (tlen.getD i 0))) ∈ flN := by decide +kernel
theorem sN_el : ∀ i, i < 16 → ∀ j, j < tlen.getD i 0 → Cond.eq (.elem (.field (tmS i) "java/lang/String" "value" "[B") (.int (Int32.ofNat j))) (.int ((tbyt.getD i []).getD j 0)) ∈ flN := by decide +kernel
def sOwn (k : Nat) : String := if k = 114 ∨ k = 107 then "TollOfNames$LawReader" else "TollOfNamesModel"
def sKey (i : Nat) : Nat := [114, 107, 135, 137, 139, 141, 143, 145, 116, 122, 124, 126, 128, 130, 132, 134].getD i 0
def sPr : Cond → Option (Nat × Nat)
  | .not (.eq (.string o1 k1) (.string o2 k2)) => if o1 = sOwn k1 ∧ o2 = sOwn k2 then some (k1, k2) else none
  | _ => none
theorem sPr_of {c : Cond} {a b : Nat} (h : sPr c = some (a, b)) : c = .not (.eq (.string (sOwn a) a) (.string (sOwn b) b)) := by
  unfold sPr at h
  split at h
  · split at h
    · rename_i h1
      simp only [Option.some.injEq, Prod.mk.injEq] at h
      rw [h1.1, h1.2, h.1, h.2]
    · cases h
  · cases h
theorem sTm : ∀ i, i < 16 → tmS i = Term.string (sOwn (sKey i)) (sKey i) := fun i hi => by
  match i, hi with
  | 0, _ => rfl
  | 1, _ => rfl
  | 2, _ => rfl
  | 3, _ => rfl
  | 4, _ => rfl
  | 5, _ => rfl
  | 6, _ => rfl
  | 7, _ => rfl
  | 8, _ => rfl
  | 9, _ => rfl
  | 10, _ => rfl
  | 11, _ => rfl
  | 12, _ => rfl
  | 13, _ => rfl
  | 14, _ => rfl
  | 15, _ => rfl
  | k + 16, h => omega
def sPs : List (Nat × Nat) := [(114, 107), (114, 135), (107, 135), (114, 137), (107, 137), (135, 137), (114, 139), (107, 139), (135, 139), (137, 139), (114, 141), (107, 141), (135, 141), (137, 141), (139, 141), (114, 143), (107, 143), (135, 143), (137, 143), (139, 143), (141, 143), (114, 145), (107, 145), (135, 145), (137, 145), (139, 145), (141, 145), (143, 145), (114, 116), (107, 116), (135, 116), (137, 116), (139, 116), (141, 116), (143, 116), (145, 116), (114, 122), (107, 122), (135, 122), (137, 122), (139, 122), (141, 122), (143, 122), (145, 122), (116, 122), (114, 124), (107, 124), (135, 124), (137, 124), (139, 124), (141, 124), (143, 124), (145, 124), (116, 124), (122, 124), (114, 126), (107, 126), (135, 126), (137, 126), (139, 126), (141, 126), (143, 126), (145, 126), (116, 126), (122, 126), (124, 126), (114, 128), (107, 128), (135, 128), (137, 128), (139, 128), (141, 128), (143, 128), (145, 128), (116, 128), (122, 128), (124, 128), (126, 128), (114, 130), (107, 130), (135, 130), (137, 130), (139, 130), (141, 130), (143, 130), (145, 130), (116, 130), (122, 130), (124, 130), (126, 130), (128, 130), (114, 132), (107, 132), (135, 132), (137, 132), (139, 132), (141, 132), (143, 132), (145, 132), (116, 132), (122, 132), (124, 132), (126, 132), (128, 132), (130, 132), (114, 134), (107, 134), (135, 134), (137, 134), (139, 134), (141, 134), (143, 134), (145, 134), (116, 134), (122, 134), (124, 134), (126, 134), (128, 134), (130, 134), (132, 134)]
theorem sPs_all : sPs.all (fun p => (flN.filterMap sPr).contains p) = true := by decide +kernel
theorem sPs_hasB : (List.range 16).all (fun i => (List.range 16).all (fun j => (i == j) || (sPs.contains (sKey i, sKey j) || sPs.contains (sKey j, sKey i)))) = true := by decide +kernel
theorem sPs_has : ∀ i, i < 16 → ∀ j, j < 16 → i ≠ j → (sKey i, sKey j) ∈ sPs ∨ (sKey j, sKey i) ∈ sPs := by
  intro i hi j hj hne
  have h1 := List.all_eq_true.mp (List.all_eq_true.mp sPs_hasB i (List.mem_range.mpr hi)) j (List.mem_range.mpr hj)
  simp only [Bool.or_eq_true, beq_iff_eq, List.contains_iff_mem] at h1
  exact h1.resolve_left hne
theorem sPs_in {a b : Nat} (h : (a, b) ∈ sPs) : Cond.not (Cond.eq (.string (sOwn a) a) (.string (sOwn b) b)) ∈ flN := by
  have h1 := List.all_eq_true.mp sPs_all _ h
  simp only [List.contains_iff_mem, List.mem_filterMap] at h1
  obtain ⟨c, hc, hs⟩ := h1
  rw [← sPr_of hs]
  exact hc
theorem sN_ne : ∀ i, i < 16 → ∀ j, j < 16 → i ≠ j → Cond.not (Cond.eq (tmS i) (tmS j)) ∈ flN ∨ Cond.not (Cond.eq (tmS j) (tmS i)) ∈ flN := by
  intro i hi j hj hne
  rw [sTm i hi, sTm j hj]
  exact (sPs_has i hi j hj hne).imp sPs_in sPs_in
theorem sN_cs : Cond.eq (.static "java/lang/String" "COMPACT_STRINGS" "Z") (.int 1) ∈ flN := by decide +kernel
theorem sN_fm : Cond.isRef (.static "jdk/internal/util/Preconditions" "SIOOBE_FORMATTER" "Ljava/util/function/BiFunction;") ∈ flN := by decide +kernel
theorem s_kw {s : State} {b : Nat} (hts : ∀ w ∈ lw_tbl, w.before #[Value.ref b] s = true) : ∃ (D : va_G) (cA : ClassId), KW D cA s := by
  have htw : ∀ w ∈ tbw, w.before #[Value.ref b] s = true := fun w hw => hts w (List.mem_filter.mp hw).1
  have h0 : ∀ k : Nat, ∃ x : ClassId × (Nat → Nat), ∀ q, tcl[k]? = some q → u_Kn s q.1 q.2.1 q.2.2 x.1 x.2 := by
    intro k
    match k with
    | 0 => obtain ⟨c, i, h⟩ := u_known (C := RX0) (T := TX0) (N := 8) htw inw_X0 (htw _ ins_X0); exact ⟨(c, i), fun q hq => by cases hq; exact h⟩
    | 1 => obtain ⟨c, i, h⟩ := u_known (C := RX1) (T := TX1) (N := 8) htw inw_X1 (htw _ ins_X1); exact ⟨(c, i), fun q hq => by cases hq; exact h⟩
    | 2 => obtain ⟨c, i, h⟩ := u_known (C := RX2) (T := TX2) (N := 3) htw inw_X2 (htw _ ins_X2); exact ⟨(c, i), fun q hq => by cases hq; exact h⟩
    | 3 => obtain ⟨c, i, h⟩ := u_known (C := RX3) (T := TX3) (N := 4) htw inw_X3 (htw _ ins_X3); exact ⟨(c, i), fun q hq => by cases hq; exact h⟩
    | 4 => obtain ⟨c, i, h⟩ := u_known (C := RX4) (T := TX4) (N := 9) htw inw_X4 (htw _ ins_X4); exact ⟨(c, i), fun q hq => by cases hq; exact h⟩
    | 5 => obtain ⟨c, i, h⟩ := u_known (C := RX5) (T := TX5) (N := 8) htw inw_X5 (htw _ ins_X5); exact ⟨(c, i), fun q hq => by cases hq; exact h⟩
    | 6 => obtain ⟨c, i, h⟩ := u_known (C := RX6) (T := TX6) (N := 3) htw inw_X6 (htw _ ins_X6); exact ⟨(c, i), fun q hq => by cases hq; exact h⟩
    | 7 => obtain ⟨c, i, h⟩ := u_known (C := RX7) (T := TX7) (N := 4) htw inw_X7 (htw _ ins_X7); exact ⟨(c, i), fun q hq => by cases hq; exact h⟩
    | 8 => obtain ⟨c, i, h⟩ := u_known (C := RX8) (T := TX8) (N := 2) htw inw_X8 (htw _ ins_X8); exact ⟨(c, i), fun q hq => by cases hq; exact h⟩
    | 9 => obtain ⟨c, i, h⟩ := u_known (C := RX9) (T := TX9) (N := 7) htw inw_X9 (htw _ ins_X9); exact ⟨(c, i), fun q hq => by cases hq; exact h⟩
    | 10 => obtain ⟨c, i, h⟩ := u_known (C := RX10) (T := TX10) (N := 14) htw inw_X10 (htw _ ins_X10); exact ⟨(c, i), fun q hq => by cases hq; exact h⟩
    | 11 => obtain ⟨c, i, h⟩ := u_known (C := RX11) (T := TX11) (N := 10) htw inw_X11 (htw _ ins_X11); exact ⟨(c, i), fun q hq => by cases hq; exact h⟩
    | 12 => obtain ⟨c, i, h⟩ := u_known (C := RX12) (T := TX12) (N := 31) htw inw_X12 (htw _ ins_X12); exact ⟨(c, i), fun q hq => by cases hq; exact h⟩
    | k + 13 => exact ⟨(0, fun _ => 0), fun q hq => by simp [tcl] at hq⟩
  obtain ⟨f, hf⟩ := Classical.axiomOfChoice h0
  obtain ⟨cA, kA, comp, hfind, hk, hkind⟩ := Cond.arrayClass_spec (hts _ sq_ac)
  refine ⟨(fun k => (f k).1, fun k => (f k).2), cA, ⟨fun k q hq => hf k q hq, fun k q hq => ?_⟩, fun w hw => ⟨(List.mem_filter.mp hw).2, va_tabs (am_stable_on (List.mem_filter.mp hw).2) rfl (htw w hw)⟩, hts _ sq_ac⟩
  match k, hq with
  | 0, hq =>
    cases hq
    exact ⟨fun n z => ⟨fun k h => (by cases h), kA, hk, comp, hkind⟩, hfind⟩
theorem s_str {s : State} {b : Nat} (hts : ∀ w ∈ lw_tbl, w.before #[Value.ref b] s = true) (hgv : (Jvm.Cond.and given_1 narrow_1).before #[Value.ref b] s = true) : ∃ adK adV : Nat → Nat, vk_S 16 tlen tbyt adK adV (fun q => s.heap.size ≤ q) s s.heap ∧ ∀ r ∈ tsr, r.2.2.2 < 16 ∧ vk_R r.1 r.2.1 r.2.2.1 (adK r.2.2.2) s := by
  have hfl : ∀ w ∈ flN, w.before #[Value.ref b] s = true := flat_of_before _ hgv
  obtain ⟨adK, adV, h1, h2⟩ := vk_Sof (args := #[Value.ref b]) (s := s) (N := 16) (tm := tmS) (len := tlen) (byt := tbyt) (A := fun q => s.heap.size ≤ q) (by decide +kernel) (fun i hi => hfl _ (sN_ex i hi)) (fun i hi => hfl _ (sN_co i hi)) (fun i hi => hfl _ (sN_ar i hi)) (fun i hi => hfl _ (sN_le i hi)) (fun i hi j hj => hfl _ (sN_el i hi j hj)) (fun i j hi hj hne => (sN_ne i hi j hj hne).imp (hfl _) (hfl _)) (fun a ha => Nat.not_le.mpr ha)
  refine ⟨adK, adV, h1, ?_⟩
  exact List.forall_mem_cons.mpr ⟨⟨by decide, vk_R.of (A := #[Value.ref b]) (hts _ sq_0) (h2 0 (by decide))⟩, List.forall_mem_cons.mpr ⟨⟨by decide, vk_R.of (A := #[Value.ref b]) (hts _ sq_1) (h2 1 (by decide))⟩, List.forall_mem_cons.mpr ⟨⟨by decide, vk_R.of (A := #[Value.ref b]) (hts _ sq_2) (h2 2 (by decide))⟩, List.forall_mem_cons.mpr ⟨⟨by decide, vk_R.of (A := #[Value.ref b]) (hts _ sq_3) (h2 3 (by decide))⟩, List.forall_mem_cons.mpr ⟨⟨by decide, vk_R.of (A := #[Value.ref b]) (hts _ sq_4) (h2 4 (by decide))⟩, List.forall_mem_cons.mpr ⟨⟨by decide, vk_R.of (A := #[Value.ref b]) (hts _ sq_5) (h2 5 (by decide))⟩, List.forall_mem_cons.mpr ⟨⟨by decide, vk_R.of (A := #[Value.ref b]) (hts _ sq_6) (h2 6 (by decide))⟩, List.forall_mem_cons.mpr ⟨⟨by decide, vk_R.of (A := #[Value.ref b]) (hts _ sq_7) (h2 7 (by decide))⟩, List.forall_mem_cons.mpr ⟨⟨by decide, vk_R.of (A := #[Value.ref b]) (hts _ sq_8) (h2 8 (by decide))⟩, List.forall_mem_cons.mpr ⟨⟨by decide, vk_R.of (A := #[Value.ref b]) (hts _ sq_9) (h2 9 (by decide))⟩, List.forall_mem_cons.mpr ⟨⟨by decide, vk_R.of (A := #[Value.ref b]) (hts _ sq_10) (h2 10 (by decide))⟩, List.forall_mem_cons.mpr ⟨⟨by decide, vk_R.of (A := #[Value.ref b]) (hts _ sq_11) (h2 11 (by decide))⟩, List.forall_mem_cons.mpr ⟨⟨by decide, vk_R.of (A := #[Value.ref b]) (hts _ sq_12) (h2 12 (by decide))⟩, List.forall_mem_cons.mpr ⟨⟨by decide, vk_R.of (A := #[Value.ref b]) (hts _ sq_13) (h2 13 (by decide))⟩, List.forall_mem_cons.mpr ⟨⟨by decide, vk_R.of (A := #[Value.ref b]) (hts _ sq_14) (h2 14 (by decide))⟩, List.forall_mem_cons.mpr ⟨⟨by decide, vk_R.of (A := #[Value.ref b]) (hts _ sq_15) (h2 15 (by decide))⟩, fun _ h => absurd h List.not_mem_nil⟩⟩⟩⟩⟩⟩⟩⟩⟩⟩⟩⟩⟩⟩⟩⟩
