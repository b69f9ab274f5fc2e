/-! ===== part 76: the reference tries the orders ===== -/
def OR (h : am_H) (size : Nat) (O : Option (Nat × List Nat)) : Prop := match O with
  | none => h 63 30 = -1
  | some x => h 63 30 = nI x.1 ∧ WA (h 77) x.2 0 ∧ x.1 ≤ 20 ∧ x.2.length = size
def FO (h h' : am_H) (n : Nat) : Prop := (∀ o, o ≠ 63 → o ≠ 67 → o ≠ 71 → o ≠ 72 → o ≠ 76 → o ≠ 77 → h' o = h o) ∧ (∀ k, k ≠ 30 → h' 63 k = h 63 k) ∧ ∀ j, j < 370 * n → h' 67 j = h 67 j
theorem FO.refl (h : am_H) (n : Nat) : FO h h n := ⟨fun _ _ _ _ _ _ _ => rfl, fun _ _ => rfl, fun _ _ => rfl⟩
theorem FO.trans {h h1 h2 : am_H} {n : Nat} (a : FO h h1 n) (b : FO h1 h2 n) : FO h h2 n := ⟨fun o x1 x2 x3 x4 x5 x6 => (b.1 o x1 x2 x3 x4 x5 x6).trans (a.1 o x1 x2 x3 x4 x5 x6), fun k x => (b.2.1 k x).trans (a.2.1 k x), fun j hj => (b.2.2 j hj).trans (a.2.2 j hj)⟩
theorem FO.mono {h h1 : am_H} {n m : Nat} (a : FO h h1 n) (hm : m ≤ n) : FO h h1 m := ⟨a.1, a.2.1, fun j hj => a.2.2 j (by omega)⟩
theorem OR.cg {h h' : am_H} {size : Nat} {O : Option (Nat × List Nat)} (a : OR h size O) (h63 : h' 63 30 = h 63 30) (h77 : h' 77 = h 77) : OR h' size O := by
  unfold OR at *
  rw [h63, h77]
  exact a
section RTRIES
variable {E : am_E} {d : Nat} {h : am_H} {Q : Int32 → am_H → Prop} {g g0 : Nat → Nat} {c : Nat → Nat → Nat} {t : Nat}
theorem r_orec {dd all b left n : Nat} {ws : List Nat} {v6 : Option am_V} (hl : ws.length ≤ 6) (hwa : WA (h 76) ws 0) (hq : ∀ h' : am_H, (∀ o, o ≠ 63 → o ≠ 77 → h' o = h o) → (∀ k, k ≠ 30 → h' 63 k = h 63 k) → h' 63 30 = nI n → WA (h' 77) ws 0 → Q 0 (hs h' g)) :
    am_R tT E dd mX12_tries Q 24 [some (.inr 63), some (.inl (nI all)), some (.inl (nI left)), some (.inl (nI b)), some (.inl (nI ws.length)), some (.inl (nI n)), v6] [] (hs h g) := by
  refine am_goS gX12_tries [33, 70] 400 ?_
  simp only [am_eqs, am_eqk, am_eqv, lX12_tries_0, lX12_tries_1, lX12_tries_2, lX12_tries_3, fx_ref, ↓reduceIte, List.mem_cons, List.not_mem_nil, or_false, or_self, false_or, true_and, and_true, Nat.reduceEqDiff, reduceCtorEq, List.length_cons, List.length_nil, Nat.reduceAdd, Nat.reduceLeDiff, Nat.reduceSub, Nat.reduceLT, Nat.zero_le, Nat.zero_add, forall_const, not_true_eq_false, not_false_eq_true, false_implies, true_implies, implies_true, Nat.zero_lt_succ, am_z0, am_z1]
  try simp (disch := omega) only [hs_at, hs_put, hs_63, NH_at, NH_put, NH_cpy, ni_add, ni_mul, ni_clamp, ni_in, ni_eq, ni_lt, ni_le, ni_sub, Nat.reduceAdd, Nat.reduceMul, Nat.reduceSub, eq_self, true_implies, not_true_eq_false, false_implies, and_true, true_and, not_false_eq_true, Nat.reduceEqDiff, Nat.reduceLeDiff, Nat.reduceLT, implies_true, ite_true, ite_false, hs_up63]
  have loop : ∀ m k (h1 : am_H), k + m = ws.length → (∀ o, o ≠ 63 → o ≠ 77 → h1 o = h o) → (∀ k, k ≠ 30 → h1 63 k = h 63 k) → h1 63 30 = nI n → (∀ i, i < k → h1 77 i = h 76 i) → am_R tT E dd mX12_tries Q 33 [some (.inr 63), some (.inl (nI all)), some (.inl (nI left)), some (.inl (nI b)), some (.inl (nI ws.length)), some (.inl (nI n)), some (.inl (nI k))] [] (hs h1 g) := by
    intro m
    induction m with
    | zero =>
      intro k h1 hk hf hf3 h30 h77
      have e : k = ws.length := by omega
      refine am_goS gX12_tries [33, 70] 400 ?_
      simp only [am_eqs, am_eqk, am_eqv, lX12_tries_0, lX12_tries_1, lX12_tries_2, lX12_tries_3, fx_ref, ↓reduceIte, List.mem_cons, List.not_mem_nil, or_false, or_self, false_or, true_and, and_true, Nat.reduceEqDiff, reduceCtorEq, List.length_cons, List.length_nil, Nat.reduceAdd, Nat.reduceLeDiff, Nat.reduceSub, Nat.reduceLT, Nat.zero_le, Nat.zero_add, forall_const, not_true_eq_false, not_false_eq_true, false_implies, true_implies, implies_true, Nat.zero_lt_succ, am_z0, am_z1]
      try simp (disch := omega) only [hs_at, hs_put, hs_63, NH_at, NH_put, NH_cpy, ni_add, ni_mul, ni_clamp, ni_in, ni_eq, ni_lt, ni_le, ni_sub, Nat.reduceAdd, Nat.reduceMul, Nat.reduceSub, eq_self, true_implies, not_true_eq_false, false_implies, and_true, true_and, not_false_eq_true, Nat.reduceEqDiff, Nat.reduceLeDiff, Nat.reduceLT, implies_true, ite_true, ite_false]
      exact ⟨fun _ => hq h1 hf hf3 h30 (WA_cp ws 0 (fun i hi => h77 _ (by omega)) hwa), fun z => absurd z (by omega)⟩
    | succ m ih =>
      intro k h1 hk hf hf3 h30 h77
      refine am_goS gX12_tries [33, 70] 400 ?_
      simp only [am_eqs, am_eqk, am_eqv, lX12_tries_0, lX12_tries_1, lX12_tries_2, lX12_tries_3, fx_ref, ↓reduceIte, List.mem_cons, List.not_mem_nil, or_false, or_self, false_or, true_and, and_true, Nat.reduceEqDiff, reduceCtorEq, List.length_cons, List.length_nil, Nat.reduceAdd, Nat.reduceLeDiff, Nat.reduceSub, Nat.reduceLT, Nat.zero_le, Nat.zero_add, forall_const, not_true_eq_false, not_false_eq_true, false_implies, true_implies, implies_true, Nat.zero_lt_succ, am_z0, am_z1]
      try simp (disch := omega) only [hs_at, hs_put, hs_63, NH_at, NH_put, NH_cpy, ni_add, ni_mul, ni_clamp, ni_in, ni_eq, ni_lt, ni_le, ni_sub, Nat.reduceAdd, Nat.reduceMul, Nat.reduceSub, eq_self, true_implies, not_true_eq_false, false_implies, and_true, true_and, not_false_eq_true, Nat.reduceEqDiff, Nat.reduceLeDiff, Nat.reduceLT, implies_true, ite_true, ite_false, hs_upo, hs_off]
      refine ⟨fun z => absurd z (by omega), fun _ => ⟨by omega, by omega, ?_⟩⟩
      refine ih (k + 1) _ (by omega) (fun o x y => ?_) (fun j x => ?_) ?_ (fun i hi => ?_)
      · rw [am_upd_ne _ _ _ y]; exact hf o x y
      · rw [am_upd_ne _ _ _ (by omega)]; exact hf3 j x
      · rw [am_upd_ne _ _ _ (by omega)]; exact h30
      · rw [am_upd_self]
        simp only [upd]
        split
        · rename_i e
          rw [e, hf 76 (by omega) (by omega)]
        · exact h77 i (by omega)
  refine loop ws.length 0 _ (by omega) (fun o x y => ?_) (fun j x => ?_) ?_ (fun i hi => absurd hi (by omega))
  · rw [am_upd_ne _ _ _ x]
  · rw [am_upd_self]
    simp only [upd, if_neg x]
  · rw [am_upd_self]
    simp [upd]
theorem cnt0 {s : Nat} (hs : s < 256) (h : cntK s 20 = 0) : s = 0 := by
  by_cases z : s = 0
  · exact z
  · have := lk_cnt z (by omega); omega
theorem r_tries {lw : Lw} {b all pl size : Nat} (hok : LOK lw) (hall : all < 256) (hs6 : size ≤ 6) (hb12 : b < 12) : ∀ (n : Nat) (g : Nat → Nat) (left t dd : Nat) (ws : List Nat) (O : Option (Nat × List Nat)) (h : am_H) (Q : Int32 → am_H → Prop), dd = d + 4 + n → b < g 2 → WF g t → LRl g lw 0 0 → left < 256 → cntK left 20 = n → ws.length + n = size → WA (h 76) ws 0 → OR h size O → TI g left b pl →
    (∀ h' : am_H, OR h' size (toF lw b all n g left ws O) → FO h h' ws.length → WA (h' 76) ws 0 → Q 0 (hs h' g)) →
    am_C tT E dd mX12_tries [.inr 63, .inl (nI all), .inl (nI left), .inl (nI b), .inl (nI ws.length)] (hs h g) Q := by
  intro n
  induction n with
  | zero =>
    intro g left t dd ws O h Q hdd hb hW hL hl hcn hwl hwa hor hti hq
    subst hdd
    have e0 := cnt0 hl hcn
    subst e0
    have w1 := hW.1.2.1
    have ha := aln_256 w1 all
    have hcl := cnt_le (aln g all) 20
    rw [toF] at hq
    refine am_C.of (by decide) (Nat.le_of_ble_eq_true rfl) ?_
    show am_R tT E _ mX12_tries _ 0 [some (.inr 63), some (.inl (nI all)), some (.inl (nI 0)), some (.inl (nI b)), some (.inl (nI ws.length)), none, none] [] (hs h g)
    refine am_goS gX12_tries [24, 70] 400 ?_
    simp only [am_eqs, am_eqk, am_eqv, lX12_tries_0, lX12_tries_1, lX12_tries_2, lX12_tries_3, fx_ref, ↓reduceIte, List.mem_cons, List.not_mem_nil, or_false, or_self, false_or, true_and, and_true, Nat.reduceEqDiff, reduceCtorEq, List.length_cons, List.length_nil, Nat.reduceAdd, Nat.reduceLeDiff, Nat.reduceSub, Nat.reduceLT, Nat.zero_le, Nat.zero_add, forall_const, not_true_eq_false, not_false_eq_true, false_implies, true_implies, implies_true, Nat.zero_lt_succ, am_z0, am_z1]
    refine r_aloneOf (by omega) hW ?_
    refine r_count (by omega) ?_
    generalize cntK (aln g all) 20 = k at hq hcl
    have hyes : upO O k ws = some (k, ws) → am_R tT E (d + 4 + 0) mX12_tries Q 24 [some (.inr 63), some (.inl (nI all)), some (.inl (nI 0)), some (.inl (nI b)), some (.inl (nI ws.length)), some (.inl (nI k)), none] [] (hs h g) := by
      intro e
      refine r_orec (by omega) hwa (fun h' f1 f2 h30 h77 => ?_)
      refine hq h' ?_ ⟨fun o x1 x2 x3 x4 x5 x6 => f1 o x1 x6, f2, fun j _ => by rw [f1 67 (by omega) (by omega)]⟩ (by rw [f1 76 (by omega) (by omega)]; exact hwa)
      rw [e]
      exact ⟨h30, h77, hcl, by show ws.length = size; omega⟩
    have hno : upO O k ws = O → Q 0 (hs h g) := by
      intro e
      exact hq h (by rw [e]; exact hor) (FO.refl h _) hwa
    cases O with
    | none =>
      have e30 : h 63 30 = -1 := hor
      try simp (disch := omega) only [hs_at, hs_put, hs_63, NH_at, NH_put, NH_cpy, ni_add, ni_mul, ni_clamp, ni_in, ni_eq, ni_lt, ni_le, ni_sub, Nat.reduceAdd, Nat.reduceMul, Nat.reduceSub, eq_self, true_implies, not_true_eq_false, false_implies, and_true, true_and, not_false_eq_true, Nat.reduceEqDiff, Nat.reduceLeDiff, Nat.reduceLT, implies_true, ite_true, ite_false, hs_63, e30, ni_m1_lt, ni_le_m1]
      exact hyes rfl
    | some x =>
      obtain ⟨h30, h77, x20, xl⟩ := hor
      simp only [upO] at hyes hno
      try simp (disch := omega) only [hs_at, hs_put, hs_63, NH_at, NH_put, NH_cpy, ni_add, ni_mul, ni_clamp, ni_in, ni_eq, ni_lt, ni_le, ni_sub, Nat.reduceAdd, Nat.reduceMul, Nat.reduceSub, eq_self, true_implies, not_true_eq_false, false_implies, and_true, true_and, not_false_eq_true, Nat.reduceEqDiff, Nat.reduceLeDiff, Nat.reduceLT, implies_true, ite_true, ite_false, hs_63, h30]
      exact ⟨fun z => hyes (if_neg (by omega)), fun z => hno (if_pos (by omega))⟩
  | succ n ih =>
    intro g left t dd ws O h Q hdd hb hW hL hl hcn hwl hwa hor hti hq
    obtain ⟨d2, hd2⟩ : ∃ d2, dd = d2 + 3 + 1 := ⟨d + 1 + n, by omega⟩
    subst hd2
    have w1 := hW.1.2.1
    have w2 := hW.1.2.2.1
    have w0 := hW.1.1
    have hl0 : left ≠ 0 := fun e => by
      rw [e] at hcn
      have : ∀ m, cntK 0 m = 0 := by
        intro m
        induction m with
        | zero => rfl
        | succ m ihm => rw [cntK, ihm, shr1]; simp
      rw [this] at hcn
      omega
    rw [toF] at hq
    generalize hF : (fun p O => if left >>> p &&& 1 = 0 then O else if duG g lw p b = 200 then O else toF lw b all n (stG g lw p b) (delB left p) (ws ++ [p]) O) = F at hq
    have hFb : ∀ p O, F p O = if left >>> p &&& 1 = 0 then O else if duG g lw p b = 200 then O else toF lw b all n (stG g lw p b) (delB left p) (ws ++ [p]) O := fun p O => by rw [← hF]
    refine am_C.of (by decide) (Nat.le_of_ble_eq_true rfl) ?_
    show am_R tT E _ mX12_tries _ 0 [some (.inr 63), some (.inl (nI all)), some (.inl (nI left)), some (.inl (nI b)), some (.inl (nI ws.length)), none, none] [] (hs h g)
    refine am_goS gX12_tries [4, 70] 400 ?_
    simp only [am_eqs, am_eqk, am_eqv, lX12_tries_0, lX12_tries_1, lX12_tries_2, lX12_tries_3, fx_ref, ↓reduceIte, List.mem_cons, List.not_mem_nil, or_false, or_self, false_or, true_and, and_true, Nat.reduceEqDiff, reduceCtorEq, List.length_cons, List.length_nil, Nat.reduceAdd, Nat.reduceLeDiff, Nat.reduceSub, Nat.reduceLT, Nat.zero_le, Nat.zero_add, forall_const, not_true_eq_false, not_false_eq_true, false_implies, true_implies, implies_true, Nat.zero_lt_succ, am_z0, am_z1]
    try simp (disch := omega) only [hs_at, hs_put, hs_63, NH_at, NH_put, NH_cpy, ni_add, ni_mul, ni_clamp, ni_in, ni_eq, ni_lt, ni_le, ni_sub, Nat.reduceAdd, Nat.reduceMul, Nat.reduceSub, eq_self, true_implies, not_true_eq_false, false_implies, and_true, true_and, not_false_eq_true, Nat.reduceEqDiff, Nat.reduceLeDiff, Nat.reduceLT, implies_true, ite_true, ite_false]
    refine ⟨fun z => absurd z hl0, fun _ => ?_⟩
    refine r_laysAside (by omega) (fun h2 f1 f2 f3 => ?_)
    have loop : ∀ m p (h1 : am_H) (O1 : Option (Nat × List Nat)) (v6 : Option am_V), p + m = g 1 → bfF F m p O1 = bfF F (g 1) 0 O → OR h1 size O1 → FO h h1 ws.length → WA (h1 76) ws 0 → (∀ k, k < 370 → h1 67 (370 * ws.length + k) = nI (g (90 + k))) → am_R tT E (d2 + 3 + 1) mX12_tries Q 70 [some (.inr 63), some (.inl (nI all)), some (.inl (nI left)), some (.inl (nI b)), some (.inl (nI ws.length)), some (.inl (nI p)), v6] [] (hs h1 g) := by
      intro m
      induction m with
      | zero =>
        intro p h1 O1 v6 hp hbf hor1 hfo1 hwa1 hl1
        have e : p = g 1 := by omega
        refine am_goS gX12_tries [81, 70] 400 ?_
        simp only [am_eqs, am_eqk, am_eqv, lX12_tries_0, lX12_tries_1, lX12_tries_2, lX12_tries_3, fx_ref, ↓reduceIte, List.mem_cons, List.not_mem_nil, or_false, or_self, false_or, true_and, and_true, Nat.reduceEqDiff, reduceCtorEq, List.length_cons, List.length_nil, Nat.reduceAdd, Nat.reduceLeDiff, Nat.reduceSub, Nat.reduceLT, Nat.zero_le, Nat.zero_add, forall_const, not_true_eq_false, not_false_eq_true, false_implies, true_implies, implies_true, Nat.zero_lt_succ, am_z0, am_z1]
        try simp (disch := omega) only [hs_at, hs_put, hs_63, NH_at, NH_put, NH_cpy, ni_add, ni_mul, ni_clamp, ni_in, ni_eq, ni_lt, ni_le, ni_sub, Nat.reduceAdd, Nat.reduceMul, Nat.reduceSub, eq_self, true_implies, not_true_eq_false, false_implies, and_true, true_and, not_false_eq_true, Nat.reduceEqDiff, Nat.reduceLeDiff, Nat.reduceLT, implies_true, ite_true, ite_false]
        exact ⟨fun _ => hq h1 (by rw [← hbf]; exact hor1) hfo1 hwa1, fun z => absurd z (by omega)⟩
      | succ m ihm =>
        intro p h1 O1 v6 hp hbf hor1 hfo1 hwa1 hl1
        rw [bfF, hFb] at hbf
        have hb01 := bit01 left p
        have hpe := hW.p (show p < 8 by omega)
        refine am_goS gX12_tries [33, 70] 400 ?_
        simp only [am_eqs, am_eqk, am_eqv, lX12_tries_0, lX12_tries_1, lX12_tries_2, lX12_tries_3, fx_ref, ↓reduceIte, List.mem_cons, List.not_mem_nil, or_false, or_self, false_or, true_and, and_true, Nat.reduceEqDiff, reduceCtorEq, List.length_cons, List.length_nil, Nat.reduceAdd, Nat.reduceLeDiff, Nat.reduceSub, Nat.reduceLT, Nat.zero_le, Nat.zero_add, forall_const, not_true_eq_false, not_false_eq_true, false_implies, true_implies, implies_true, Nat.zero_lt_succ, am_z0, am_z1]
        try simp (disch := omega) only [hs_at, hs_put, hs_63, NH_at, NH_put, NH_cpy, ni_add, ni_mul, ni_clamp, ni_in, ni_eq, ni_lt, ni_le, ni_sub, Nat.reduceAdd, Nat.reduceMul, Nat.reduceSub, eq_self, true_implies, not_true_eq_false, false_implies, and_true, true_and, not_false_eq_true, Nat.reduceEqDiff, Nat.reduceLeDiff, Nat.reduceLT, implies_true, ite_true, ite_false, ni_shr, ni_and]
        refine ⟨fun z => absurd z (by omega), fun _ => ⟨fun z => ?_, fun z => ?_⟩⟩
        · rw [if_pos z] at hbf
          exact ihm (p + 1) h1 O1 v6 (by omega) hbf hor1 hfo1 hwa1 hl1
        · have z1 : left >>> p &&& 1 = 1 := by omega
          rw [if_neg z] at hbf
          have hat := hti.2 p (by omega) z1
          have htou : tou g b (og g p 0) := by rw [hat]; exact hti.1
          try simp (disch := omega) only [hs_at, hs_put, hs_63, NH_at, NH_put, NH_cpy, ni_add, ni_mul, ni_clamp, ni_in, ni_eq, ni_lt, ni_le, ni_sub, Nat.reduceAdd, Nat.reduceMul, Nat.reduceSub, eq_self, true_implies, not_true_eq_false, false_implies, and_true, true_and, not_false_eq_true, Nat.reduceEqDiff, Nat.reduceLeDiff, Nat.reduceLT, implies_true, ite_true, ite_false, hs_upo]
          refine ⟨by omega, ?_⟩
          have hor3 : OR (am_upd h1 76 ws.length (nI p)) size O1 := hor1.cg (by rw [am_upd_ne _ _ _ (by omega)]) (am_upd_ne _ _ _ (by omega))
          have hwa3 : WA (am_upd h1 76 ws.length (nI p) 76) (ws ++ [p]) 0 := by
            rw [am_upd_self]
            exact WA_snoc ws 0 (WA_upd ws 0 (by omega) hwa1) (by simp [upd])
          have hfo3 : FO h1 (am_upd h1 76 ws.length (nI p)) (ws.length + 1) := ⟨fun o x1 x2 x3 x4 x5 x6 => am_upd_ne _ _ _ x5, fun k _ => by rw [am_upd_ne _ _ _ (by omega)], fun j _ => by rw [am_upd_ne _ _ _ (by omega)]⟩
          generalize am_upd h1 76 ws.length (nI p) = h3 at hor3 hwa3 hfo3
          have hback : ∀ (h4 : am_H) (g4 : Nat → Nat) (O4 : Option (Nat × List Nat)), resM g4 g = g → OR h4 size O4 → FO h1 h4 (ws.length + 1) → WA (h4 76) ws 0 → bfF F m (p + 1) O4 = bfF F (g 1) 0 O → am_C tT E (d2 + 3) mX12_putsBack [.inr 63, .inl (nI ws.length)] (hs h4 g4) (fun _ h' => am_R tT E (d2 + 3 + 1) mX12_tries Q 70 [some (.inr 63), some (.inl (nI all)), some (.inl (nI left)), some (.inl (nI b)), some (.inl (nI ws.length)), some (.inl (nI (p + 1))), v6] [] h') := by
            intro h4 g4 O4 hr ho4 hf4 hw4 hbf4
            have hl4 : ∀ k, k < 370 → h4 67 (370 * ws.length + k) = nI (g (90 + k)) := fun k hk => by rw [hf4.2.2 _ (by omega)]; exact hl1 k hk
            refine r_putsBack (g0 := g) (by omega) hl4 ?_
            rw [hr]
            exact ihm (p + 1) h4 O4 v6 (by omega) hbf4 ho4 (hfo1.trans (hf4.mono (by omega))) hw4 hl4
          have hgo : duG g lw p b ≠ 200 → ∀ (h4 : am_H), (∀ q, q ≠ 71 → q ≠ 72 → h4 q = h3 q) → am_C tT E (d2 + 3) mX12_tries [.inr 63, .inl (nI all), .inl (nI (delB left p)), .inl (nI b), .inl (nI (ws.length + 1))] (hs h4 (stG g lw p b)) (fun _ h' => am_C tT E (d2 + 3) mX12_putsBack [.inr 63, .inl (nI ws.length)] h' (fun _ h' => am_R tT E (d2 + 3 + 1) mX12_tries Q 70 [some (.inr 63), some (.inl (nI all)), some (.inl (nI left)), some (.inl (nI b)), some (.inl (nI ws.length)), some (.inl (nI (p + 1))), v6] [] h')) := by
            intro hd h4 hf4
            rw [if_neg hd] at hbf
            have hlen : (ws ++ [p]).length = ws.length + 1 := by simp
            have st2 : stG g lw p b 2 = g 2 := st_off (by omega) (by omega) hW hd (by omega)
            have hcd := cnt_del (s := left) (p := p) (by omega) z1 20 (by omega)
            rw [if_pos (by omega)] at hcd
            have hrec := ih (stG g lw p b) (delB left p) (t + 1) (d2 + 3) (ws ++ [p]) O1 h4
            rw [hlen] at hrec
            have hfo4 : FO h1 h4 (ws.length + 1) := hfo3.trans ⟨fun o _ _ x3 x4 _ _ => hf4 o x3 x4, fun k _ => by rw [hf4 63 (by omega) (by omega)], fun j _ => by rw [hf4 67 (by omega) (by omega)]⟩
            refine hrec _ (by omega) (by omega) (wf_st (by omega) (by omega) hW hd) (LRl_congr (fun j hj => st_off (by omega) (by omega) hW hd (by omega)) lw 0 0 hL) (Nat.lt_of_le_of_lt (del_le _ _) hl) (by omega) (by omega) (by rw [hf4 76 (by omega) (by omega)]; exact hwa3) (hor3.cg (by rw [hf4 63 (by omega) (by omega)]) (hf4 77 (by omega) (by omega))) (ti_st (by omega) hb12 hW hd hti) (fun h5 o5 f5 w5 => ?_)
            exact hback h5 _ _ (res_st (by omega) (by omega) hW hd) o5 (hfo4.trans f5) (WA_pre ws [p] 0 w5) hbf
          have edel : left &&& (1 <<< p ^^^ 4294967295) = delB left p := rfl
          refine r_crosses (by omega) hb htou hW hL hok (fun hd => ?_) (fun hd h4 hf4 => ?_) (fun o ho hd h4 hf4 => ?_)
          · have hg := hgo (by omega) h3
            rw [stG, if_pos hd] at hg
            try simp (disch := omega) only [hs_at, hs_put, hs_63, NH_at, NH_put, NH_cpy, ni_add, ni_mul, ni_clamp, ni_in, ni_eq, ni_lt, ni_le, ni_sub, Nat.reduceAdd, Nat.reduceMul, Nat.reduceSub, eq_self, true_implies, not_true_eq_false, false_implies, and_true, true_and, not_false_eq_true, Nat.reduceEqDiff, Nat.reduceLeDiff, Nat.reduceLT, implies_true, ite_true, ite_false, ni_m2, ni_m1, ni_shl, ni_xor, ni_and, edel]
            exact hg (fun _ _ _ => rfl)
          · try simp (disch := omega) only [hs_at, hs_put, hs_63, NH_at, NH_put, NH_cpy, ni_add, ni_mul, ni_clamp, ni_in, ni_eq, ni_lt, ni_le, ni_sub, Nat.reduceAdd, Nat.reduceMul, Nat.reduceSub, eq_self, true_implies, not_true_eq_false, false_implies, and_true, true_and, not_false_eq_true, Nat.reduceEqDiff, Nat.reduceLeDiff, Nat.reduceLT, implies_true, ite_true, ite_false, ni_m2]
            rw [if_pos hd] at hbf
            have hgg : resM g g = g := by funext j; unfold resM; split <;> rfl
            exact hback h4 g O1 hgg (hor3.cg (by rw [hf4 63 (by omega) (by omega)]) (hf4 77 (by omega) (by omega))) (hfo3.trans ⟨fun o _ _ x3 x4 _ _ => hf4 o x3 x4, fun k _ => by rw [hf4 63 (by omega) (by omega)], fun j _ => by rw [hf4 67 (by omega) (by omega)]⟩) (by rw [hf4 76 (by omega) (by omega)]; exact WA_pre ws [p] 0 hwa3) hbf
          · have hn := hpe.2.2.2.2.2.1 o ho
            have h9 := hpe.2.2.1
            have hg := hgo (by omega) h4
            rw [stG, if_neg (show ¬ duG g lw p b = 100 by omega), hd] at hg
            try simp (disch := omega) only [hs_at, hs_put, hs_63, NH_at, NH_put, NH_cpy, ni_add, ni_mul, ni_clamp, ni_in, ni_eq, ni_lt, ni_le, ni_sub, Nat.reduceAdd, Nat.reduceMul, Nat.reduceSub, eq_self, true_implies, not_true_eq_false, false_implies, and_true, true_and, not_false_eq_true, Nat.reduceEqDiff, Nat.reduceLeDiff, Nat.reduceLT, implies_true, ite_true, ite_false, ni_m2, ni_m1, ni_shl, ni_xor, ni_and, edel]
            exact ⟨fun z => absurd z (by omega), fun _ => hg hf4⟩
    exact loop (g 1) 0 h2 O none (by omega) rfl (hor.cg (by rw [f1 63 (by omega)]) (f1 77 (by omega))) ⟨fun o _ x _ _ _ _ => f1 o x, fun k _ => by rw [f1 63 (by omega)], fun j hj => f3 j (Or.inl hj)⟩ (by rw [f1 76 (by omega)]; exact hwa) f2
end RTRIES
