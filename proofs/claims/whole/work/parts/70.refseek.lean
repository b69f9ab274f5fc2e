/-! ===== part 70: the reference's search for the best way ===== -/
section RSEEK
variable {E : am_E} {d : Nat} {h : am_H} {Q : Int32 → am_H → Prop} {g g0 : Nat → Nat} {c : Nat → Nat → Nat} {t : Nat}
theorem WA_app {A A' : Nat → Int32} : ∀ (ch : List Nat) (k : Nat), (∀ i, i < k + ch.length → A' i = A i) → WA A ch k → WA A' ch k := fun ch k h w => WA_cp ch k (fun i hi => h _ (by omega)) w
theorem r_record {dd p to been lf : Nat} {ws : List Nat} {v6 v7 v8 v9 : Option am_V} (hl : ws.length ≤ 7) (hwa : WA (h 73) ws 0) (hq : ∀ h' : am_H, (∀ o, o ≠ 63 → o ≠ 74 → h' o = h o) → (∀ k, k ≠ 25 → k ≠ 26 → h' 63 k = h 63 k) → h' 63 25 = nI lf → h' 63 26 = nI ws.length → WA (h' 74) ws 0 → Q 0 (hs h' g)) :
    am_R tT E dd mX12_seeks Q 50 [some (.inr 63), some (.inl (nI p)), some (.inl (nI to)), some (.inl (nI been)), some (.inl (nI ws.length)), some (.inl (nI lf)), v6, v7, v8, v9] [] (hs h g) := by
  refine am_goS gX12_seeks [65, 102] 400 ?_
  simp only [am_eqs, am_eqk, am_eqv, lX12_seeks_0, lX12_seeks_1, lX12_seeks_2, lX12_seeks_3, lX12_seeks_4, fx_ref, ↓reduceIte, List.mem_cons, List.not_mem_nil, or_false, or_self, false_or, true_and, and_true, Nat.reduceEqDiff, reduceCtorEq, List.length_cons, List.length_nil, Nat.reduceAdd, Nat.reduceLeDiff, Nat.reduceSub, Nat.reduceLT, Nat.zero_le, Nat.zero_add, forall_const, not_true_eq_false, not_false_eq_true, false_implies, true_implies, implies_true, Nat.zero_lt_succ, am_z0, am_z1]
  try simp (disch := omega) only [hs_at, hs_put, hs_63, NH_at, NH_put, NH_cpy, ni_add, ni_mul, ni_clamp, ni_in, ni_eq, ni_lt, ni_le, ni_sub, Nat.reduceAdd, Nat.reduceMul, Nat.reduceSub, eq_self, true_implies, not_true_eq_false, false_implies, and_true, true_and, not_false_eq_true, Nat.reduceEqDiff, Nat.reduceLeDiff, Nat.reduceLT, implies_true, ite_true, ite_false, hs_up63]
  have loop : ∀ n k (h1 : am_H), k + n = ws.length → (∀ o, o ≠ 63 → o ≠ 74 → h1 o = h o) → (∀ k, k ≠ 25 → k ≠ 26 → h1 63 k = h 63 k) → h1 63 25 = nI lf → h1 63 26 = nI ws.length → (∀ i, i < k → h1 74 i = h 73 i) → am_R tT E dd mX12_seeks Q 65 [some (.inr 63), some (.inl (nI p)), some (.inl (nI to)), some (.inl (nI been)), some (.inl (nI ws.length)), some (.inl (nI lf)), v6, some (.inl (nI k)), v8, v9] [] (hs h1 g) := by
    intro n
    induction n with
    | zero =>
      intro k h1 hk hf hf3 h25 h26 h74
      have e : k = ws.length := by omega
      refine am_goS gX12_seeks [65, 102] 400 ?_
      simp only [am_eqs, am_eqk, am_eqv, lX12_seeks_0, lX12_seeks_1, lX12_seeks_2, lX12_seeks_3, lX12_seeks_4, fx_ref, ↓reduceIte, List.mem_cons, List.not_mem_nil, or_false, or_self, false_or, true_and, and_true, Nat.reduceEqDiff, reduceCtorEq, List.length_cons, List.length_nil, Nat.reduceAdd, Nat.reduceLeDiff, Nat.reduceSub, Nat.reduceLT, Nat.zero_le, Nat.zero_add, forall_const, not_true_eq_false, not_false_eq_true, false_implies, true_implies, implies_true, Nat.zero_lt_succ, am_z0, am_z1]
      try simp (disch := omega) only [hs_at, hs_put, hs_63, NH_at, NH_put, NH_cpy, ni_add, ni_mul, ni_clamp, ni_in, ni_eq, ni_lt, ni_le, ni_sub, Nat.reduceAdd, Nat.reduceMul, Nat.reduceSub, eq_self, true_implies, not_true_eq_false, false_implies, and_true, true_and, not_false_eq_true, Nat.reduceEqDiff, Nat.reduceLeDiff, Nat.reduceLT, implies_true, ite_true, ite_false]
      exact ⟨fun _ => hq h1 hf hf3 h25 h26 (WA_cp ws 0 (fun i hi => h74 _ (by omega)) hwa), fun z => absurd z (by omega)⟩
    | succ n ih =>
      intro k h1 hk hf hf3 h25 h26 h74
      refine am_goS gX12_seeks [65, 102] 400 ?_
      simp only [am_eqs, am_eqk, am_eqv, lX12_seeks_0, lX12_seeks_1, lX12_seeks_2, lX12_seeks_3, lX12_seeks_4, fx_ref, ↓reduceIte, List.mem_cons, List.not_mem_nil, or_false, or_self, false_or, true_and, and_true, Nat.reduceEqDiff, reduceCtorEq, List.length_cons, List.length_nil, Nat.reduceAdd, Nat.reduceLeDiff, Nat.reduceSub, Nat.reduceLT, Nat.zero_le, Nat.zero_add, forall_const, not_true_eq_false, not_false_eq_true, false_implies, true_implies, implies_true, Nat.zero_lt_succ, am_z0, am_z1]
      try simp (disch := omega) only [hs_at, hs_put, hs_63, NH_at, NH_put, NH_cpy, ni_add, ni_mul, ni_clamp, ni_in, ni_eq, ni_lt, ni_le, ni_sub, Nat.reduceAdd, Nat.reduceMul, Nat.reduceSub, eq_self, true_implies, not_true_eq_false, false_implies, and_true, true_and, not_false_eq_true, Nat.reduceEqDiff, Nat.reduceLeDiff, Nat.reduceLT, implies_true, ite_true, ite_false, hs_upo, hs_off]
      refine ⟨fun z => absurd z (by omega), fun _ => ⟨by omega, by omega, ?_⟩⟩
      refine ih (k + 1) _ (by omega) (fun o x y => ?_) (fun j x y => ?_) ?_ ?_ (fun i hi => ?_)
      · rw [am_upd_ne _ _ _ y]; exact hf o x y
      · rw [am_upd_ne _ _ _ (by omega)]; exact hf3 j x y
      · rw [am_upd_ne _ _ _ (by omega)]; exact h25
      · rw [am_upd_ne _ _ _ (by omega)]; exact h26
      · rw [am_upd_self]
        simp only [upd]
        split
        · rename_i e
          rw [e, hf 73 (by omega) (by omega)]
        · exact h74 i (by omega)
  refine loop ws.length 0 _ (by omega) (fun o x y => ?_) (fun j x y => ?_) ?_ ?_ (fun i hi => absurd hi (by omega))
  · rw [am_upd_ne _ _ _ x, am_upd_ne _ _ _ x]
  · rw [am_upd_self, am_upd_self]
    simp only [upd, if_neg x, if_neg y]
  · rw [am_upd_self, am_upd_self]
    simp [upd]
  · rw [am_upd_self]
    simp [upd]
theorem r_seeks {lw : Lw} {p to : Nat} (hok : LOK lw) (hto : to < 8) : ∀ (n : Nat) (g : Nat → Nat) (been lf t dd : Nat) (ws : List Nat) (B : Option (Nat × List Nat)) (h : am_H) (Q : Int32 → am_H → Prop), dd = d + 4 + n → p < g 1 → WF g t → LRl g lw 0 0 → been < 256 → cntK been 8 + n = 9 → ws.length + n = 8 → lf ≤ ws.length → WA (h 73) ws 0 → BR h B → (og g p 0 = to → 1 ≤ ws.length) →
    (∀ h' : am_H, BR h' (skF lw p to n g been ws lf B) → FS h h' ws.length → WA (h' 73) ws 0 → Q 0 (hs h' g)) →
    am_C tT E dd mX12_seeks [.inr 63, .inl (nI p), .inl (nI to), .inl (nI been), .inl (nI ws.length), .inl (nI lf)] (hs h g) Q := by
  intro n
  induction n with
  | zero =>
    intro g been lf t dd ws B h Q hdd hp hW hL hbe hcn hwl hlf hwa hbr hne hq
    have := cnt_le been 8
    omega
  | succ n ih =>
    intro g been lf t dd ws B h Q hdd hp hW hL hbe hcn hwl hlf hwa hbr hne hq
    obtain ⟨d2, hd2⟩ : ∃ d2, dd = d2 + 3 + 1 := ⟨d + 1 + n, by omega⟩
    subst hd2
    have w1 := hW.1.2.1
    have w2 := hW.1.2.2.1
    have w0 := hW.1.1
    have hpe := hW.p (show p < 8 by omega)
    have h9 := hpe.2.2.1
    have hpl := hpe.1
    refine am_C.of (by decide) (Nat.le_of_ble_eq_true rfl) ?_
    show am_R tT E _ mX12_seeks _ 0 [some (.inr 63), some (.inl (nI p)), some (.inl (nI to)), some (.inl (nI been)), some (.inl (nI ws.length)), some (.inl (nI lf)), none, none, none, none] [] (hs h g)
    refine am_goS gX12_seeks [50, 102] 400 ?_
    simp only [am_eqs, am_eqk, am_eqv, lX12_seeks_0, lX12_seeks_1, lX12_seeks_2, lX12_seeks_3, lX12_seeks_4, fx_ref, ↓reduceIte, List.mem_cons, List.not_mem_nil, or_false, or_self, false_or, true_and, and_true, Nat.reduceEqDiff, reduceCtorEq, List.length_cons, List.length_nil, Nat.reduceAdd, Nat.reduceLeDiff, Nat.reduceSub, Nat.reduceLT, Nat.zero_le, Nat.zero_add, forall_const, not_true_eq_false, not_false_eq_true, false_implies, true_implies, implies_true, Nat.zero_lt_succ, am_z0, am_z1]
    refine r_own (by omega) (by omega) ?_
    rw [skF] at hq
    by_cases hat : og g p 0 = to
    · rw [if_pos hat] at hq
      have hyes : upB B lf ws = some (lf, ws) → am_R tT E (d2 + 3 + 1) mX12_seeks Q 50 [some (.inr 63), some (.inl (nI p)), some (.inl (nI to)), some (.inl (nI been)), some (.inl (nI ws.length)), some (.inl (nI lf)), some (.inl (nI (og g p 0))), none, none, none] [] (hs h g) := by
        intro e
        refine r_record (by omega) hwa (fun h' f1 f2 h25 h26 h74 => ?_)
        have hne1 := hne hat
        refine hq h' ?_ ⟨fun o x1 x2 x3 x4 x5 x6 => f1 o x1 x6, f2, fun j _ => by rw [f1 67 (by omega) (by omega)]⟩ (by rw [f1 73 (by omega) (by omega)]; exact hwa)
        rw [e]
        exact ⟨h25, h26, h74, show lf ≤ 8 by omega, hne1, show ws.length ≤ 7 by omega⟩
      have hno : upB B lf ws = B → Q 0 (hs h g) := by
        intro e
        exact hq h (by rw [e]; exact hbr) (FS.refl h _) hwa
      try simp (disch := omega) only [hs_at, hs_put, hs_63, NH_at, NH_put, NH_cpy, ni_add, ni_mul, ni_clamp, ni_in, ni_eq, ni_lt, ni_le, ni_sub, Nat.reduceAdd, Nat.reduceMul, Nat.reduceSub, eq_self, true_implies, not_true_eq_false, false_implies, and_true, true_and, not_false_eq_true, Nat.reduceEqDiff, Nat.reduceLeDiff, Nat.reduceLT, implies_true, ite_true, ite_false]
      refine ⟨fun _ => ?_, fun z => absurd hat z⟩
      cases B with
      | none =>
        have e25 : h 63 25 = -1 := hbr
        try simp (disch := omega) only [hs_at, hs_put, hs_63, NH_at, NH_put, NH_cpy, ni_add, ni_mul, ni_clamp, ni_in, ni_eq, ni_lt, ni_le, ni_sub, Nat.reduceAdd, Nat.reduceMul, Nat.reduceSub, eq_self, true_implies, not_true_eq_false, false_implies, and_true, true_and, not_false_eq_true, Nat.reduceEqDiff, Nat.reduceLeDiff, Nat.reduceLT, implies_true, ite_true, ite_false, hs_63, e25]
        exact hyes rfl
      | some x =>
        obtain ⟨h25, h26, h74, x8, x1, x7⟩ := hbr
        try simp (disch := omega) only [hs_at, hs_put, hs_63, NH_at, NH_put, NH_cpy, ni_add, ni_mul, ni_clamp, ni_in, ni_eq, ni_lt, ni_le, ni_sub, Nat.reduceAdd, Nat.reduceMul, Nat.reduceSub, eq_self, true_implies, not_true_eq_false, false_implies, and_true, true_and, not_false_eq_true, Nat.reduceEqDiff, Nat.reduceLeDiff, Nat.reduceLT, implies_true, ite_true, ite_false, hs_63, h25, h26, ni_m1]
        simp only [upB] at hyes hno
        refine ⟨fun z => absurd z (by omega), fun _ => ⟨fun z => hno (if_pos (Or.inl z)), fun z => ⟨fun y => ⟨fun q => ?_, fun q => ?_⟩, fun y => ?_⟩⟩⟩
        · exact hyes (if_neg (by omega))
        · exact hno (if_pos (by omega))
        · exact hyes (if_neg (by omega))
    · rw [if_neg hat] at hq
      generalize hF : (fun b B => cif (tou g b (og g p 0) ∧ been >>> oth g b (og g p 0) &&& 1 = 0) (if duG g lw p b = 200 then B else skF lw p to n (stG g lw p b) (been ||| 1 <<< oth g b (og g p 0)) (ws ++ [b]) (lf + if duG g lw p b = 100 then 0 else 1) B) B) = F at hq
      have hFb : ∀ b B, F b B = cif (tou g b (og g p 0) ∧ been >>> oth g b (og g p 0) &&& 1 = 0) (if duG g lw p b = 200 then B else skF lw p to n (stG g lw p b) (been ||| 1 <<< oth g b (og g p 0)) (ws ++ [b]) (lf + if duG g lw p b = 100 then 0 else 1) B) B := fun b B => by rw [← hF]
      try simp (disch := omega) only [hs_at, hs_put, hs_63, NH_at, NH_put, NH_cpy, ni_add, ni_mul, ni_clamp, ni_in, ni_eq, ni_lt, ni_le, ni_sub, Nat.reduceAdd, Nat.reduceMul, Nat.reduceSub, eq_self, true_implies, not_true_eq_false, false_implies, and_true, true_and, not_false_eq_true, Nat.reduceEqDiff, Nat.reduceLeDiff, Nat.reduceLT, implies_true, ite_true, ite_false]
      refine ⟨fun z => absurd z hat, fun _ => ?_⟩
      refine r_laysAside (by omega) (fun h2 f1 f2 f3 => ?_)
      have loop : ∀ m b (h1 : am_H) (B1 : Option (Nat × List Nat)) (v8 v9 : Option am_V), b + m = g 2 → bfF F m b B1 = bfF F (g 2) 0 B → BR h1 B1 → FS h h1 ws.length → WA (h1 73) ws 0 → (∀ k, k < 370 → h1 67 (370 * ws.length + k) = nI (g (90 + k))) → am_R tT E (d2 + 3 + 1) mX12_seeks Q 102 [some (.inr 63), some (.inl (nI p)), some (.inl (nI to)), some (.inl (nI been)), some (.inl (nI ws.length)), some (.inl (nI lf)), some (.inl (nI (og g p 0))), some (.inl (nI b)), v8, v9] [] (hs h1 g) := by
        intro m
        induction m with
        | zero =>
          intro b h1 B1 v8 v9 hb hbf hbr1 hfs1 hwa1 hl1
          have e : b = g 2 := by omega
          refine am_goS gX12_seeks [65, 102] 400 ?_
          simp only [am_eqs, am_eqk, am_eqv, lX12_seeks_0, lX12_seeks_1, lX12_seeks_2, lX12_seeks_3, lX12_seeks_4, fx_ref, ↓reduceIte, List.mem_cons, List.not_mem_nil, or_false, or_self, false_or, true_and, and_true, Nat.reduceEqDiff, reduceCtorEq, List.length_cons, List.length_nil, Nat.reduceAdd, Nat.reduceLeDiff, Nat.reduceSub, Nat.reduceLT, Nat.zero_le, Nat.zero_add, forall_const, not_true_eq_false, not_false_eq_true, false_implies, true_implies, implies_true, Nat.zero_lt_succ, am_z0, am_z1]
          try simp (disch := omega) only [hs_at, hs_put, hs_63, NH_at, NH_put, NH_cpy, ni_add, ni_mul, ni_clamp, ni_in, ni_eq, ni_lt, ni_le, ni_sub, Nat.reduceAdd, Nat.reduceMul, Nat.reduceSub, eq_self, true_implies, not_true_eq_false, false_implies, and_true, true_and, not_false_eq_true, Nat.reduceEqDiff, Nat.reduceLeDiff, Nat.reduceLT, implies_true, ite_true, ite_false]
          exact ⟨fun _ => hq h1 (by rw [← hbf]; exact hbr1) hfs1 hwa1, fun z => absurd z (by omega)⟩
        | succ m ihm =>
          intro b h1 B1 v8 v9 hb hbf hbr1 hfs1 hwa1 hl1
          rw [bfF, hFb] at hbf
          have hss := hW.2.2.1 b (by omega)
          refine am_goS gX12_seeks [65, 102] 400 ?_
          simp only [am_eqs, am_eqk, am_eqv, lX12_seeks_0, lX12_seeks_1, lX12_seeks_2, lX12_seeks_3, lX12_seeks_4, fx_ref, ↓reduceIte, List.mem_cons, List.not_mem_nil, or_false, or_self, false_or, true_and, and_true, Nat.reduceEqDiff, reduceCtorEq, List.length_cons, List.length_nil, Nat.reduceAdd, Nat.reduceLeDiff, Nat.reduceSub, Nat.reduceLT, Nat.zero_le, Nat.zero_add, forall_const, not_true_eq_false, not_false_eq_true, false_implies, true_implies, implies_true, Nat.zero_lt_succ, am_z0, am_z1]
          try simp (disch := omega) only [hs_at, hs_put, hs_63, NH_at, NH_put, NH_cpy, ni_add, ni_mul, ni_clamp, ni_in, ni_eq, ni_lt, ni_le, ni_sub, Nat.reduceAdd, Nat.reduceMul, Nat.reduceSub, eq_self, true_implies, not_true_eq_false, false_implies, and_true, true_and, not_false_eq_true, Nat.reduceEqDiff, Nat.reduceLeDiff, Nat.reduceLT, implies_true, ite_true, ite_false]
          refine ⟨fun z => absurd z (by omega), fun _ => ?_⟩
          refine r_otherEnd (by omega) hpl hss.1 hss.2 (fun y => ?_) (fun y => ?_)
          · have hot := oth_lt (x := og g p 0) hW (show b < 12 by omega)
            generalize hnx : oth g b (og g p 0) = nx at hbf hot
            have hb01 := bit01 been nx
            try simp (disch := omega) only [hs_at, hs_put, hs_63, NH_at, NH_put, NH_cpy, ni_add, ni_mul, ni_clamp, ni_in, ni_eq, ni_lt, ni_le, ni_sub, Nat.reduceAdd, Nat.reduceMul, Nat.reduceSub, eq_self, true_implies, not_true_eq_false, false_implies, and_true, true_and, not_false_eq_true, Nat.reduceEqDiff, Nat.reduceLeDiff, Nat.reduceLT, implies_true, ite_true, ite_false, ni_m1, ni_shr, ni_and]
            refine ⟨fun z => absurd z (by omega), fun _ => Iff.mp and_comm ⟨fun z => ?_, fun z => ?_⟩⟩
            · -- not been there
              rw [cif_pos ⟨y, by omega⟩] at hbf
              have hrs : duG g lw p b ≠ 200 → resM (stG g lw p b) g = g := fun z => res_st (by omega) (by omega) hW z
              have hback : ∀ (h3 : am_H) (g3 : Nat → Nat) (B3 : Option (Nat × List Nat)) (v8 v9 : Option am_V), resM g3 g = g → BR h3 B3 → FS h h3 ws.length → WA (h3 73) ws 0 → (∀ k, k < 370 → h3 67 (370 * ws.length + k) = nI (g (90 + k))) → bfF F m (b + 1) B3 = bfF F (g 2) 0 B → am_C tT E (d2 + 3) mX12_putsBack [.inr 63, .inl (nI ws.length)] (hs h3 g3) (fun _ h' => am_R tT E (d2 + 3 + 1) mX12_seeks Q 102 [some (.inr 63), some (.inl (nI p)), some (.inl (nI to)), some (.inl (nI been)), some (.inl (nI ws.length)), some (.inl (nI lf)), some (.inl (nI (og g p 0))), some (.inl (nI (b + 1))), v8, v9] [] h') := by
                intro h3 g3 B3 v8 v9 hr hb3 hf3 hw3 hl3 hbf3
                refine r_putsBack (g0 := g) (by omega) hl3 ?_
                rw [hr]
                exact ihm (b + 1) h3 B3 v8 v9 (by omega) hbf3 hb3 hf3 hw3 hl3
              have hgo : duG g lw p b ≠ 200 → ∀ (h3 : am_H) (v8 v9 : Option am_V) (lf' : Nat), lf' = lf + (if duG g lw p b = 100 then 0 else 1) → (∀ q, q ≠ 71 → q ≠ 72 → h3 q = h1 q) → am_C tT E (d2 + 3) mX12_seeks [.inr 63, .inl (nI p), .inl (nI to), .inl (nI (been ||| 1 <<< nx)), .inl (nI (ws.length + 1)), .inl (nI lf')] (hs (am_upd h3 73 ws.length (nI b)) (stG g lw p b)) (fun _ h' => am_C tT E (d2 + 3) mX12_putsBack [.inr 63, .inl (nI ws.length)] h' (fun _ h' => am_R tT E (d2 + 3 + 1) mX12_seeks Q 102 [some (.inr 63), some (.inl (nI p)), some (.inl (nI to)), some (.inl (nI been)), some (.inl (nI ws.length)), some (.inl (nI lf)), some (.inl (nI (og g p 0))), some (.inl (nI (b + 1))), v8, v9] [] h')) := by
                intro hd h3 v8 v9 lf' hlf' hf3
                rw [if_neg hd, ← hlf'] at hbf
                have hlen : (ws ++ [b]).length = ws.length + 1 := by simp
                have st1 : stG g lw p b 1 = g 1 := st_off (by omega) (by omega) hW hd (by omega)
                have hlf1 : lf' ≤ lf + 1 := by rw [hlf']; split <;> omega
                have hb3 : BR (am_upd h3 73 ws.length (nI b)) B1 := by
                  cases B1 with
                  | none =>
                    show am_upd h3 73 ws.length (nI b) 63 25 = -1
                    rw [am_upd_ne _ _ _ (by omega), hf3 63 (by omega) (by omega)]
                    exact hbr1
                  | some x =>
                    show am_upd h3 73 ws.length (nI b) 63 25 = _ ∧ am_upd h3 73 ws.length (nI b) 63 26 = _ ∧ WA (am_upd h3 73 ws.length (nI b) 74) x.2 0 ∧ _
                    rw [am_upd_ne _ _ _ (by omega), am_upd_ne _ _ _ (by omega), hf3 63 (by omega) (by omega), hf3 74 (by omega) (by omega)]
                    exact hbr1
                have hrec := ih (stG g lw p b) (been ||| 1 <<< nx) lf' (t + 1) (d2 + 3) (ws ++ [b]) B1 (am_upd h3 73 ws.length (nI b))
                rw [hlen] at hrec
                have hfs3 : FS h1 (am_upd h3 73 ws.length (nI b)) (ws.length + 1) := ⟨fun o x1 x2 x3 x4 x5 x6 => by rw [am_upd_ne _ _ _ x5]; exact hf3 o x3 x4, fun k _ _ => by rw [am_upd_ne _ _ _ (by omega), hf3 63 (by omega) (by omega)], fun j _ => by rw [am_upd_ne _ _ _ (by omega), hf3 67 (by omega) (by omega)]⟩
                refine hrec _ (by omega) (by omega) (wf_st (by omega) (by omega) hW hd) (LRl_congr (fun j hj => st_off (by omega) (by omega) hW hd (by omega)) lw 0 0 hL) (or_256 hbe hot) ?_ (by omega) (by omega) ?_ hb3 (fun _ => by omega) (fun h4 b4 f4 w4 => ?_)
                · rw [cnt_or (by omega), if_pos hot]; omega
                · rw [am_upd_self, hf3 73 (by omega) (by omega)]
                  exact WA_snoc ws 0 (WA_upd ws 0 (by omega) hwa1) (by simp [upd])
                · have hfs4 := hfs3.trans f4
                  exact hback h4 _ _ v8 v9 (hrs hd) b4 (hfs1.trans (hfs4.mono (by omega))) (WA_pre ws [b] 0 w4) (fun k hk => by rw [hfs4.2.2 _ (by omega)]; exact hl1 k hk) hbf
              refine r_crosses (by omega) (by omega) y hW hL hok (fun hd => ?_) (fun hd h3 hf3 => ?_) (fun o ho hd h3 hf3 => ?_)
              · have hg := hgo (by omega) h1
                rw [stG, if_pos hd, if_pos hd] at hg
                try simp (disch := omega) only [hs_at, hs_put, hs_63, NH_at, NH_put, NH_cpy, ni_add, ni_mul, ni_clamp, ni_in, ni_eq, ni_lt, ni_le, ni_sub, Nat.reduceAdd, Nat.reduceMul, Nat.reduceSub, eq_self, true_implies, not_true_eq_false, false_implies, and_true, true_and, not_false_eq_true, Nat.reduceEqDiff, Nat.reduceLeDiff, Nat.reduceLT, implies_true, ite_true, ite_false, hs_upo, ni_m2, ni_shl, ni_or]
                exact ⟨by omega, hg _ _ _ rfl (fun _ _ _ => rfl)⟩
              · try simp (disch := omega) only [hs_at, hs_put, hs_63, NH_at, NH_put, NH_cpy, ni_add, ni_mul, ni_clamp, ni_in, ni_eq, ni_lt, ni_le, ni_sub, Nat.reduceAdd, Nat.reduceMul, Nat.reduceSub, eq_self, true_implies, not_true_eq_false, false_implies, and_true, true_and, not_false_eq_true, Nat.reduceEqDiff, Nat.reduceLeDiff, Nat.reduceLT, implies_true, ite_true, ite_false, hs_upo, ni_m2]
                refine ⟨by omega, ?_⟩
                rw [if_pos hd] at hbf
                have hgg : resM g g = g := by funext j; unfold resM; split <;> rfl
                refine hback (am_upd h3 73 ws.length (nI b)) g B1 _ _ hgg ?_ ?_ ?_ ?_ hbf
                · cases B1 with
                  | none =>
                    show am_upd h3 73 ws.length (nI b) 63 25 = -1
                    rw [am_upd_ne _ _ _ (by omega), hf3 63 (by omega) (by omega)]
                    exact hbr1
                  | some x =>
                    show am_upd h3 73 ws.length (nI b) 63 25 = _ ∧ am_upd h3 73 ws.length (nI b) 63 26 = _ ∧ WA (am_upd h3 73 ws.length (nI b) 74) x.2 0 ∧ _
                    rw [am_upd_ne _ _ _ (by omega), am_upd_ne _ _ _ (by omega), hf3 63 (by omega) (by omega), hf3 74 (by omega) (by omega)]
                    exact hbr1
                · exact hfs1.trans ⟨fun o x1 x2 x3 x4 x5 x6 => by rw [am_upd_ne _ _ _ x5]; exact hf3 o x3 x4, fun k _ _ => by rw [am_upd_ne _ _ _ (by omega), hf3 63 (by omega) (by omega)], fun j _ => by rw [am_upd_ne _ _ _ (by omega), hf3 67 (by omega) (by omega)]⟩
                · rw [am_upd_self, hf3 73 (by omega) (by omega)]
                  exact WA_upd ws 0 (by omega) hwa1
                · intro k hk
                  rw [am_upd_ne _ _ _ (by omega), hf3 67 (by omega) (by omega)]
                  exact hl1 k hk
              · have hn := hpe.2.2.2.2.2.1 o ho
                have hg := hgo (by omega) h3
                rw [stG, if_neg (show ¬ duG g lw p b = 100 by omega), if_neg (show ¬ duG g lw p b = 100 by omega), hd] at hg
                try simp (disch := omega) only [hs_at, hs_put, hs_63, NH_at, NH_put, NH_cpy, ni_add, ni_mul, ni_clamp, ni_in, ni_eq, ni_lt, ni_le, ni_sub, Nat.reduceAdd, Nat.reduceMul, Nat.reduceSub, eq_self, true_implies, not_true_eq_false, false_implies, and_true, true_and, not_false_eq_true, Nat.reduceEqDiff, Nat.reduceLeDiff, Nat.reduceLT, implies_true, ite_true, ite_false, hs_upo, ni_m2, ni_shl, ni_or]
                exact ⟨by omega, fun z => absurd z (by omega), fun _ => ⟨fun z => absurd z (by omega), fun _ => hg _ _ _ rfl hf3⟩⟩
            · rw [cif_neg (fun q => by omega)] at hbf
              exact ihm (b + 1) h1 B1 _ _ (by omega) hbf hbr1 hfs1 hwa1 hl1
          · rw [cif_neg (fun q => y q.1)] at hbf
            try simp (disch := omega) only [hs_at, hs_put, hs_63, NH_at, NH_put, NH_cpy, ni_add, ni_mul, ni_clamp, ni_in, ni_eq, ni_lt, ni_le, ni_sub, Nat.reduceAdd, Nat.reduceMul, Nat.reduceSub, eq_self, true_implies, not_true_eq_false, false_implies, and_true, true_and, not_false_eq_true, Nat.reduceEqDiff, Nat.reduceLeDiff, Nat.reduceLT, implies_true, ite_true, ite_false]
            exact ihm (b + 1) h1 B1 _ _ (by omega) hbf hbr1 hfs1 hwa1 hl1
      have hbr2 : BR h2 B := by
        cases B with
        | none =>
          show h2 63 25 = -1
          rw [f1 63 (by omega)]
          exact hbr
        | some x =>
          show h2 63 25 = _ ∧ h2 63 26 = _ ∧ WA (h2 74) x.2 0 ∧ _
          rw [f1 63 (by omega), f1 74 (by omega)]
          exact hbr
      exact loop (g 2) 0 h2 B none none (by omega) rfl hbr2 ⟨fun o _ x _ _ _ _ => f1 o x, fun k _ _ => by rw [f1 63 (by omega)], fun j hj => f3 j (Or.inl hj)⟩ (by rw [f1 73 (by omega)]; exact hwa) f2
end RSEEK
