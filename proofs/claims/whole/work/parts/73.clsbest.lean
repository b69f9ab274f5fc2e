/-! ===== part 73: the class's best ===== -/
section CBEST
variable {E : am_E} {d : Nat} {h : am_H} {Q : Int32 → am_H → Prop} {g g0 : Nat → Nat} {c : Nat → Nat → Nat} {t : Nat}
theorem LC.fb {lw : Lw} {c c' : Nat → Nat → Nat} (hL : LC c lw) (hf : FB c c') : LC c' lw := by
  unfold LC at *
  rw [hf.1 17 (by omega) (by omega) (by omega) (by omega) (by omega) (by omega) (by omega) (by omega) (by omega) (by omega) (by omega), hf.1 18 (by omega) (by omega) (by omega) (by omega) (by omega) (by omega) (by omega) (by omega) (by omega) (by omega) (by omega)]
  exact hL
theorem FB.at20 {c c' : Nat → Nat → Nat} (hf : FB c c') : c' 20 = c 20 := hf.1 20 (by omega) (by omega) (by omega) (by omega) (by omega) (by omega) (by omega) (by omega) (by omega) (by omega) (by omega)
theorem c_seek {lw : Lw} {p to : Nat} (hok : LOK lw) (hto : to < 8) : ∀ (n : Nat) (g : Nat → Nat) (been lf t dd : Nat) (ws : List Nat) (B : Option (Nat × List Nat)) (c : Nat → Nat → Nat) (Q : Int32 → am_H → Prop), dd = d + 4 + n → p < g 1 → WF g t → t + n < 1000000 → RAt g c → LC c lw → c 20 3 = 0 → c 55 2 = p → c 55 3 = to → been < 256 → cntK been 8 + n = 9 → ws.length + n = 8 → lf ≤ ws.length → CS (c 57) ws 0 → BC c B → og g p 0 ≠ to →
    (∀ c', RAt g c' → BC c' (skF lw p to n g been ws lf B) → FB c c' → CS (c' 57) ws 0 → Q 0 (NH c')) →
    am_C tT E dd mX1_seek [.inr 55, .inl (nI been), .inl (nI ws.length), .inl (nI lf)] (NH c) Q := by
  intro n
  induction n with
  | zero =>
    intro g been lf t dd ws B c Q hdd hp hW ht hA hL h20 h2 h3 hbe hcn hwl hlf hcs hbc hne hq
    have := cnt_le been 8
    omega
  | succ n ih =>
    intro g been lf t dd ws B c Q hdd hp hW ht hA hL h20 h2 h3 hbe hcn hwl hlf hcs hbc hne hq
    obtain ⟨d2, hd2⟩ : ∃ d2, dd = d2 + 3 + 1 := ⟨d + 1 + n, by omega⟩
    subst hd2
    have w1 := hW.1.2.1
    have w2 := hW.1.2.2.1
    have hpe := hW.p (show p < 8 by omega)
    have hpl := hpe.1
    have q7 : c 7 p = og g p 0 := (hA.2.1.2 p (by omega)).1
    rw [skF, if_neg hne] at hq
    generalize hF : (fun b B => cif (tou g b (og g p 0) ∧ been >>> oth g b (og g p 0) &&& 1 = 0) (if duG g lw p b = 200 then B else skF lw p to n (stG g lw p b) (been ||| 1 <<< oth g b (og g p 0)) (ws ++ [b]) (lf + if duG g lw p b = 100 then 0 else 1) B) B) = F at hq
    have hFb : ∀ b B, F b B = cif (tou g b (og g p 0) ∧ been >>> oth g b (og g p 0) &&& 1 = 0) (if duG g lw p b = 200 then B else skF lw p to n (stG g lw p b) (been ||| 1 <<< oth g b (og g p 0)) (ws ++ [b]) (lf + if duG g lw p b = 100 then 0 else 1) B) B := fun b B => by rw [← hF]
    refine am_C.of (by decide) (Nat.le_of_ble_eq_true rfl) ?_
    show am_R tT E _ mX1_seek _ 0 [some (.inr 55), some (.inl (nI been)), some (.inl (nI ws.length)), some (.inl (nI lf)), none, none, none, none, none, none] [] (NH c)
    refine am_goS gX1_seek [27] 400 ?_
    simp only [am_eqs, am_eqk, am_eqv, lX1_seek_0, lX1_seek_1, lX1_seek_2, lX1_seek_3, lX1_seek_4, fx_class, NH_at, NH_put, ↓reduceIte, List.mem_cons, List.not_mem_nil, or_false, or_self, false_or, true_and, and_true, Nat.reduceEqDiff, reduceCtorEq, List.length_cons, List.length_nil, Nat.reduceAdd, Nat.reduceLeDiff, Nat.reduceSub, Nat.reduceLT, Nat.zero_le, Nat.zero_add, forall_const, not_true_eq_false, not_false_eq_true, false_implies, true_implies, implies_true, Nat.zero_lt_succ, am_z0, am_z1]
    try simp (disch := omega) only [hs_at, hs_put, hs_63, NH_at, NH_put, NH_cpy, ni_add, ni_mul, ni_clamp, ni_in, ni_eq, ni_lt, ni_le, ni_sub, Nat.reduceAdd, Nat.reduceMul, Nat.reduceSub, eq_self, true_implies, not_true_eq_false, false_implies, and_true, true_and, not_false_eq_true, Nat.reduceEqDiff, Nat.reduceLeDiff, Nat.reduceLT, implies_true, ite_true, ite_false, h2, q7]
    by_cases h7 : ws.length < 7
    case neg =>
      refine ⟨fun z => absurd z h7, fun _ => ?_⟩
      have hall : ∀ b, b < 12 → F b B = B := by
        intro b hb
        have := cnt_full (s := been) 8 (by omega) (oth g b (og g p 0)) (oth_lt hW hb)
        rw [hFb, cif_neg (fun q => by omega)]
      have hbf : ∀ m b, b + m ≤ 12 → bfF F m b B = B := by
        intro m
        induction m with
        | zero => intro b _; rfl
        | succ m ihm => intro b hb; rw [bfF, hall b (by omega)]; exact ihm (b + 1) (by omega)
      exact hq c hA (by rw [hbf _ _ (by omega)]; exact hbc) (FB.refl c) hcs
    refine ⟨fun _ => ⟨by omega, ?_⟩, fun z => absurd h7 z⟩
    have loop : ∀ m b (c1 : Nat → Nat → Nat) (B1 : Option (Nat × List Nat)) (v6 v7 v8 v9 : Option am_V), b + m = g 2 → bfF F m b B1 = bfF F (g 2) 0 B → RAt g c1 → BC c1 B1 → FB c c1 → CS (c1 57) ws 0 → am_R tT E (d2 + 3 + 1) mX1_seek Q 27 [some (.inr 55), some (.inl (nI been)), some (.inl (nI ws.length)), some (.inl (nI lf)), some (.inl (nI (og g p 0))), some (.inl (nI b)), v6, v7, v8, v9] [] (NH c1) := by
      intro m
      induction m with
      | zero =>
        intro b c1 B1 v6 v7 v8 v9 hb hbf ra bc fb cs
        have e : b = g 2 := by omega
        have q14 : c1 14 0 = g 2 := ra.1.2.2.2.2.2.1
        refine am_goS gX1_seek [27, 42] 400 ?_
        simp only [am_eqs, am_eqk, am_eqv, lX1_seek_0, lX1_seek_1, lX1_seek_2, lX1_seek_3, lX1_seek_4, fx_class, NH_at, NH_put, ↓reduceIte, List.mem_cons, List.not_mem_nil, or_false, or_self, false_or, true_and, and_true, Nat.reduceEqDiff, reduceCtorEq, List.length_cons, List.length_nil, Nat.reduceAdd, Nat.reduceLeDiff, Nat.reduceSub, Nat.reduceLT, Nat.zero_le, Nat.zero_add, forall_const, not_true_eq_false, not_false_eq_true, false_implies, true_implies, implies_true, Nat.zero_lt_succ, am_z0, am_z1]
        try simp (disch := omega) only [hs_at, hs_put, hs_63, NH_at, NH_put, NH_cpy, ni_add, ni_mul, ni_clamp, ni_in, ni_eq, ni_lt, ni_le, ni_sub, Nat.reduceAdd, Nat.reduceMul, Nat.reduceSub, eq_self, true_implies, not_true_eq_false, false_implies, and_true, true_and, not_false_eq_true, Nat.reduceEqDiff, Nat.reduceLeDiff, Nat.reduceLT, implies_true, ite_true, ite_false, q14]
        exact ⟨fun _ => hq c1 ra (by rw [← hbf]; exact bc) fb cs, fun z => absurd z (by omega)⟩
      | succ m ihm =>
        intro b c1 B1 v6 v7 v8 v9 hb hbf ra bc fb cs
        have q14 : c1 14 0 = g 2 := ra.1.2.2.2.2.2.1
        have hss := hW.2.2.1 b (by omega)
        have q15 : c1 15 (2 * b) = g (50 + 2 * b) := ra.1.2.2.2.2.2.2 _ (by omega)
        have q16 : c1 15 (2 * b + 1) = g (51 + 2 * b) := by rw [ra.1.2.2.2.2.2.2 _ (by omega)]; congr 1; omega
        have hot := oth_lt (x := og g p 0) hW (show b < 12 by omega)
        have hoe : (if g (50 + 2 * b) = og g p 0 then g (51 + 2 * b) else g (50 + 2 * b)) = oth g b (og g p 0) := rfl
        have k2 : c1 55 2 = p := by rw [fb.2 2 (by omega) (by omega)]; exact h2
        have k3 : c1 55 3 = to := by rw [fb.2 3 (by omega) (by omega)]; exact h3
        have k20 : c1 20 3 = 0 := by rw [fb.at20]; exact h20
        have hL1 := hL.fb fb
        rw [bfF, hFb] at hbf
        have htail : tou g b (og g p 0) → been >>> oth g b (og g p 0) &&& 1 = 0 → duG g lw p b ≠ 200 → ∀ (c2 : Nat → Nat → Nat) (lf' : Nat) (v9 : Option am_V), lf' = lf + (if duG g lw p b = 100 then 0 else 1) → FT c1 c2 → am_R tT E (d2 + 3 + 1) mX1_seek Q 118 [some (.inr 55), some (.inl (nI been)), some (.inl (nI ws.length)), some (.inl (nI lf)), some (.inl (nI (og g p 0))), some (.inl (nI b)), some (.inl (nI (oth g b (og g p 0)))), some (.inl (nI (duG g lw p b))), some (.inl (nI lf')), v9] [] (NH c2) := by
          intro y z hd c2 lf' v9 hlf' hft
          rw [cif_pos ⟨y, z⟩, if_neg hd, ← hlf'] at hbf
          have hlf1 : lf' ≤ lf + 1 := by rw [hlf']; split <;> omega
          have hdc := duG_cases g lw p b
          have h9 := hpe.2.2.1
          have ra2 := ra.ft hft
          have fb2 := fb.trans (FB.ft hft)
          have bc2 : BC c2 B1 := bc.cg (hft 55 (by omega) (by omega) (by omega)) (hft 56 (by omega) (by omega) (by omega))
          have cs2 : CS (c2 57) ws 0 := by rw [hft 57 (by omega) (by omega) (by omega)]; exact cs
          have j2 : c2 55 2 = p := by rw [fb2.2 2 (by omega) (by omega)]; exact h2
          have j3 : c2 55 3 = to := by rw [fb2.2 3 (by omega) (by omega)]; exact h3
          have hb10 : c2 55 4 ≤ 10 ∧ (∀ x, B1 = some x → c2 55 4 = x.1) ∧ (B1 = none → c2 55 4 = 10) := by
            cases B1 with
            | none => exact ⟨by have := bc2.1; omega, fun x hx => (by cases hx), fun _ => bc2.1⟩
            | some x => exact ⟨by have := bc2.1; have := bc2.2.2.2.1; omega, fun y hy => (by cases hy; exact bc2.1), fun hx => (by cases hx)⟩
          obtain ⟨hb10, hbs, hbn⟩ := hb10
          have hcs3 : CS (cup c2 57 ws.length b 57) (ws ++ [b]) 0 := by
            rw [cup_self]
            exact CS_snoc ws 0 (CS_upd ws 0 (by omega) cs2) (by rw [Nat.zero_add, nup_self])
          have hlen : (ws ++ [b]).length = ws.length + 1 := by simp
          have fb3 : FB c (cup c2 57 ws.length b) := fb2.trans ⟨fun o x1 x2 x3 x4 x5 x6 x7 x8 x9 x10 x11 => cup_ne _ _ _ x11, fun k _ _ => by rw [cup_ne _ _ _ (by omega)]⟩
          have bc3 : BC (cup c2 57 ws.length b) B1 := bc2.cg (cup_ne _ _ _ (by omega)) (cup_ne _ _ _ (by omega))
          have ra3 : RAt g (cup c2 57 ws.length b) := rat_cell ra2 (fun o x y _ => cup_ne _ _ _ (by omega))
          have j33 : cup c2 57 ws.length b 55 3 = to := by rw [cup_ne _ _ _ (by omega)]; exact j3
          have j32 : cup c2 57 ws.length b 55 2 = p := by rw [cup_ne _ _ _ (by omega)]; exact j2
          refine am_goS gX1_seek [27] 400 ?_
          simp only [am_eqs, am_eqk, am_eqv, lX1_seek_0, lX1_seek_1, lX1_seek_2, lX1_seek_3, lX1_seek_4, fx_class, NH_at, NH_put, ↓reduceIte, List.mem_cons, List.not_mem_nil, or_false, or_self, false_or, true_and, and_true, Nat.reduceEqDiff, reduceCtorEq, List.length_cons, List.length_nil, Nat.reduceAdd, Nat.reduceLeDiff, Nat.reduceSub, Nat.reduceLT, Nat.zero_le, Nat.zero_add, forall_const, not_true_eq_false, not_false_eq_true, false_implies, true_implies, implies_true, Nat.zero_lt_succ, am_z0, am_z1]
          try simp (disch := omega) only [hs_at, hs_put, hs_63, NH_at, NH_put, NH_cpy, ni_add, ni_mul, ni_clamp, ni_in, ni_eq, ni_lt, ni_le, ni_sub, Nat.reduceAdd, Nat.reduceMul, Nat.reduceSub, eq_self, true_implies, not_true_eq_false, false_implies, and_true, true_and, not_false_eq_true, Nat.reduceEqDiff, Nat.reduceLeDiff, Nat.reduceLT, implies_true, ite_true, ite_false, ni_m2, j33, j32]
          refine ⟨fun q => absurd q (by omega), fun _ => ⟨fun hle => ⟨by omega, fun hg => ?_, fun hg => ?_⟩, fun hle => ?_⟩⟩
          · -- at the goal
            have hcon := c_consider (E := E) (d := d2 + 2) (Q := fun _ h' => am_R tT E (d2 + 3 + 1) mX1_seek Q 27 [some (.inr 55), some (.inl (nI been)), some (.inl (nI ws.length)), some (.inl (nI lf)), some (.inl (nI (og g p 0))), some (.inl (nI (b + 1))), some (.inl (nI (oth g b (og g p 0)))), some (.inl (nI (duG g lw p b))), some (.inl (nI lf')), v9] [] h') (lf := lf') (by rw [hlen]; omega) (by rw [hlen]; omega) (by omega) hcs3 bc3 (fun x hx => by have := hbs x hx; omega) (fun c4 b4 f4 f45 => ?_)
            · rw [hlen] at hcon
              exact hcon
            · have hn : n = n - 1 + 1 := by omega
              rw [hn, skF, st_at (by omega) hW, if_pos hg] at hbf
              refine ihm (b + 1) c4 _ _ _ _ _ (by omega) hbf (rat_cell ra3 (fun o x y _ => f4 o (by omega) (by omega))) b4 (fb3.trans ⟨fun o _ _ _ _ _ _ _ _ x9 x10 _ => f4 o x9 x10, f45⟩) ?_
              rw [f4 57 (by omega) (by omega)]
              exact CS_pre ws [b] 0 hcs3
          · -- further
            refine c_passG hp (by omega) hW hd ra3 (fun c4 r4 f4 => ?_)
            have st1 : stG g lw p b 1 = g 1 := st_off (by omega) (by omega) hW hd (by omega)
            have fb4 := fb3.trans (FB.fp f4)
            have bc4 : BC c4 B1 := bc3.cg (f4 55 (by omega) (by omega) (by omega) (by omega) (by omega)) (f4 56 (by omega) (by omega) (by omega) (by omega) (by omega))
            have hrec := ih (stG g lw p b) (been ||| 1 <<< oth g b (og g p 0)) lf' (t + 1) (d2 + 3) (ws ++ [b]) B1 c4
            rw [hlen] at hrec
            try simp (disch := omega) only [hs_at, hs_put, hs_63, NH_at, NH_put, NH_cpy, ni_add, ni_mul, ni_clamp, ni_in, ni_eq, ni_lt, ni_le, ni_sub, Nat.reduceAdd, Nat.reduceMul, Nat.reduceSub, eq_self, true_implies, not_true_eq_false, false_implies, and_true, true_and, not_false_eq_true, Nat.reduceEqDiff, Nat.reduceLeDiff, Nat.reduceLT, implies_true, ite_true, ite_false, ni_shl, ni_or]
            refine hrec _ (by omega) (by omega) (wf_st (by omega) (by omega) hW hd) (by omega) r4 (hL.fb fb4) (by rw [fb4.at20]; exact h20) (by rw [fb4.2 2 (by omega) (by omega)]; exact h2) (by rw [fb4.2 3 (by omega) (by omega)]; exact h3) (or_256 hbe hot) (by rw [cnt_or z, if_pos hot]; omega) (by omega) (by omega) (by rw [f4 57 (by omega) (by omega) (by omega) (by omega) (by omega)]; exact hcs3) bc4 (by rw [st_at (by omega) hW]; exact hg) (fun c5 r5 b5 f5 s5 => ?_)
            have fb5 := fb4.trans f5
            have i2 : c5 55 2 = p := by rw [fb5.2 2 (by omega) (by omega)]; exact h2
            try simp (disch := omega) only [hs_at, hs_put, hs_63, NH_at, NH_put, NH_cpy, ni_add, ni_mul, ni_clamp, ni_in, ni_eq, ni_lt, ni_le, ni_sub, Nat.reduceAdd, Nat.reduceMul, Nat.reduceSub, eq_self, true_implies, not_true_eq_false, false_implies, and_true, true_and, not_false_eq_true, Nat.reduceEqDiff, Nat.reduceLeDiff, Nat.reduceLT, implies_true, ite_true, ite_false, i2]
            refine c_backG hp (by omega) y hW hd r5 (fun c6 r6 f6 => ?_)
            refine ihm (b + 1) c6 _ _ _ _ _ (by omega) hbf r6 (b5.cg (f6 55 (by omega) (by omega) (by omega) (by omega) (by omega)) (f6 56 (by omega) (by omega) (by omega) (by omega) (by omega))) (fb5.trans (FB.fp f6)) ?_
            rw [f6 57 (by omega) (by omega) (by omega) (by omega) (by omega)]
            exact CS_pre ws [b] 0 s5
          · -- dearer
            cases B1 with
            | none => have := hbn rfl; omega
            | some x =>
              have := hbs x rfl
              rw [sk_prune _ _ _ _ _ (by omega)] at hbf
              exact ihm (b + 1) c2 _ _ _ _ _ (by omega) hbf ra2 bc2 fb2 cs2
        refine am_goS gX1_seek [27, 118] 400 ?_
        simp only [am_eqs, am_eqk, am_eqv, lX1_seek_0, lX1_seek_1, lX1_seek_2, lX1_seek_3, lX1_seek_4, fx_class, NH_at, NH_put, ↓reduceIte, List.mem_cons, List.not_mem_nil, or_false, or_self, false_or, true_and, and_true, Nat.reduceEqDiff, reduceCtorEq, List.length_cons, List.length_nil, Nat.reduceAdd, Nat.reduceLeDiff, Nat.reduceSub, Nat.reduceLT, Nat.zero_le, Nat.zero_add, forall_const, not_true_eq_false, not_false_eq_true, false_implies, true_implies, implies_true, Nat.zero_lt_succ, am_z0, am_z1]
        try simp (disch := omega) only [hs_at, hs_put, hs_63, NH_at, NH_put, NH_cpy, ni_add, ni_mul, ni_clamp, ni_in, ni_eq, ni_lt, ni_le, ni_sub, Nat.reduceAdd, Nat.reduceMul, Nat.reduceSub, eq_self, true_implies, not_true_eq_false, false_implies, and_true, true_and, not_false_eq_true, Nat.reduceEqDiff, Nat.reduceLeDiff, Nat.reduceLT, implies_true, ite_true, ite_false, q14]
        refine ⟨fun z => absurd z (by omega), fun _ => ?_⟩
        refine c_across (by omega) hpl (by omega) (by omega) ?_
        rw [q15, q16, hoe]
        refine c_touches (by omega) hpl (by omega) (by omega) (fun y => ?_) (fun y => ?_)
        · rw [q15, q16] at y
          have hb01 := bit01 been (oth g b (og g p 0))
          try simp (disch := omega) only [hs_at, hs_put, hs_63, NH_at, NH_put, NH_cpy, ni_add, ni_mul, ni_clamp, ni_in, ni_eq, ni_lt, ni_le, ni_sub, Nat.reduceAdd, Nat.reduceMul, Nat.reduceSub, eq_self, true_implies, not_true_eq_false, false_implies, and_true, true_and, not_false_eq_true, Nat.reduceEqDiff, Nat.reduceLeDiff, Nat.reduceLT, implies_true, ite_true, ite_false, ni_shr, ni_and, k2]
          refine ⟨fun z => ?_, fun z => ?_⟩
          · refine c_dueG (t := t) hp (by omega) hW (by omega) ra hL1 hok k20 (fun hd c2 f2 => ?_) (fun hd c2 f2 => ?_)
            · rw [cif_pos ⟨y, z⟩, if_pos hd] at hbf
              try simp (disch := omega) only [hs_at, hs_put, hs_63, NH_at, NH_put, NH_cpy, ni_add, ni_mul, ni_clamp, ni_in, ni_eq, ni_lt, ni_le, ni_sub, Nat.reduceAdd, Nat.reduceMul, Nat.reduceSub, eq_self, true_implies, not_true_eq_false, false_implies, and_true, true_and, not_false_eq_true, Nat.reduceEqDiff, Nat.reduceLeDiff, Nat.reduceLT, implies_true, ite_true, ite_false, ni_m2]
              refine am_goS gX1_seek [27] 400 ?_
              simp only [am_eqs, am_eqk, am_eqv, lX1_seek_0, lX1_seek_1, lX1_seek_2, lX1_seek_3, lX1_seek_4, fx_class, NH_at, NH_put, ↓reduceIte, List.mem_cons, List.not_mem_nil, or_false, or_self, false_or, true_and, and_true, Nat.reduceEqDiff, reduceCtorEq, List.length_cons, List.length_nil, Nat.reduceAdd, Nat.reduceLeDiff, Nat.reduceSub, Nat.reduceLT, Nat.zero_le, Nat.zero_add, forall_const, not_true_eq_false, not_false_eq_true, false_implies, true_implies, implies_true, Nat.zero_lt_succ, am_z0, am_z1]
              try simp (disch := omega) only [hs_at, hs_put, hs_63, NH_at, NH_put, NH_cpy, ni_add, ni_mul, ni_clamp, ni_in, ni_eq, ni_lt, ni_le, ni_sub, Nat.reduceAdd, Nat.reduceMul, Nat.reduceSub, eq_self, true_implies, not_true_eq_false, false_implies, and_true, true_and, not_false_eq_true, Nat.reduceEqDiff, Nat.reduceLeDiff, Nat.reduceLT, implies_true, ite_true, ite_false, ni_m2]
              refine ihm (b + 1) c2 B1 _ _ _ _ (by omega) hbf (ra.ft f2) (bc.cg (f2 55 (by omega) (by omega) (by omega)) (f2 56 (by omega) (by omega) (by omega))) (fb.trans (FB.ft f2)) ?_
              rw [f2 57 (by omega) (by omega) (by omega)]
              exact cs
            · have hdc := duG_cases g lw p b
              have h9 := hpe.2.2.1
              have ht1 := htail y z hd c2
              try simp (disch := omega) only [hs_at, hs_put, hs_63, NH_at, NH_put, NH_cpy, ni_add, ni_mul, ni_clamp, ni_in, ni_eq, ni_lt, ni_le, ni_sub, Nat.reduceAdd, Nat.reduceMul, Nat.reduceSub, eq_self, true_implies, not_true_eq_false, false_implies, and_true, true_and, not_false_eq_true, Nat.reduceEqDiff, Nat.reduceLeDiff, Nat.reduceLT, implies_true, ite_true, ite_false]
              refine ⟨fun q => ?_, fun q => ?_⟩
              · refine ht1 _ _ ?_ f2
                rw [if_pos q, Nat.add_zero]
              · refine ht1 _ _ ?_ f2
                rw [if_neg q]
          · rw [cif_neg (fun q => by omega)] at hbf
            exact ihm (b + 1) c1 B1 _ _ _ _ (by omega) hbf ra bc fb cs
        · rw [q15, q16] at y
          try simp (disch := omega) only [hs_at, hs_put, hs_63, NH_at, NH_put, NH_cpy, ni_add, ni_mul, ni_clamp, ni_in, ni_eq, ni_lt, ni_le, ni_sub, Nat.reduceAdd, Nat.reduceMul, Nat.reduceSub, eq_self, true_implies, not_true_eq_false, false_implies, and_true, true_and, not_false_eq_true, Nat.reduceEqDiff, Nat.reduceLeDiff, Nat.reduceLT, implies_true, ite_true, ite_false]
          rw [cif_neg (fun q => y q.1)] at hbf
          exact ihm (b + 1) c1 B1 _ _ _ _ (by omega) hbf ra bc fb cs
    exact loop (g 2) 0 c B none none none none (by omega) rfl hA hbc (FB.refl c) hcs
end CBEST
