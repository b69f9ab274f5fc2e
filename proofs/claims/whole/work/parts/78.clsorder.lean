/-! ===== part 78: the class tries the orders ===== -/
def OC (c : Nat → Nat → Nat) (size : Nat) (O : Option (Nat × List Nat)) : Prop := match O with
  | none => c 60 5 = 4294967295
  | some x => c 60 5 = x.1 ∧ CS (c 61) x.2 0 ∧ x.1 ≤ 20 ∧ x.2.length = size
def FQ (c c' : Nat → Nat → Nat) : Prop := (∀ o, o ≠ 7 → o ≠ 11 → o ≠ 12 → o ≠ 13 → o ≠ 16 → o ≠ 19 → o ≠ 21 → o ≠ 22 → o ≠ 60 → o ≠ 61 → o ≠ 62 → c' o = c o) ∧ ∀ k, k ≠ 5 → c' 60 k = c 60 k
section CORDER
variable {E : am_E} {d : Nat} {h : am_H} {Q : Int32 → am_H → Prop} {g g0 : Nat → Nat} {c : Nat → Nat → Nat} {t : Nat}
theorem FQ.refl (c : Nat → Nat → Nat) : FQ c c := ⟨fun _ _ _ _ _ _ _ _ _ _ _ _ => rfl, fun _ _ => rfl⟩
theorem FQ.trans {c c1 c2 : Nat → Nat → Nat} (a : FQ c c1) (b : FQ c1 c2) : FQ c c2 := ⟨fun o x1 x2 x3 x4 x5 x6 x7 x8 x9 x10 x11 => (b.1 o x1 x2 x3 x4 x5 x6 x7 x8 x9 x10 x11).trans (a.1 o x1 x2 x3 x4 x5 x6 x7 x8 x9 x10 x11), fun k x => (b.2 k x).trans (a.2 k x)⟩
theorem FQ.ft {c c1 : Nat → Nat → Nat} (h : FT c c1) : FQ c c1 := ⟨fun o _ _ _ _ _ x6 x7 x8 _ _ _ => h o x6 x7 x8, fun k _ => by rw [h 60 (by omega) (by omega) (by omega)]⟩
theorem FQ.fp {c c1 : Nat → Nat → Nat} (h : FP c c1) : FQ c c1 := ⟨fun o x1 x2 x3 x4 x5 _ _ _ _ _ _ => h o x1 x2 x3 x4 x5, fun k _ => by rw [h 60 (by omega) (by omega) (by omega) (by omega) (by omega)]⟩
theorem OC.cg {c c' : Nat → Nat → Nat} {size : Nat} {O : Option (Nat × List Nat)} (h : OC c size O) (h60 : c' 60 = c 60) (h61 : c' 61 = c 61) : OC c' size O := by
  unfold OC at *
  rw [h60, h61]
  exact h
theorem LC.fq {lw : Lw} {c c' : Nat → Nat → Nat} (hL : LC c lw) (hf : FQ c c') : LC c' lw := by
  unfold LC at *
  rw [hf.1 17 (by omega) (by omega) (by omega) (by omega) (by omega) (by omega) (by omega) (by omega) (by omega) (by omega) (by omega), hf.1 18 (by omega) (by omega) (by omega) (by omega) (by omega) (by omega) (by omega) (by omega) (by omega) (by omega) (by omega)]
  exact hL
theorem FQ.at20 {c c' : Nat → Nat → Nat} (hf : FQ c c') : c' 20 = c 20 := hf.1 20 (by omega) (by omega) (by omega) (by omega) (by omega) (by omega) (by omega) (by omega) (by omega) (by omega) (by omega)
theorem c_oconsider {ws : List Nat} {all size : Nat} {O : Option (Nat × List Nat)} (hl : ws.length = size) (hs6 : size ≤ 6) (hall : all < 256) (hW : WF g t) (hA : RAt g c) (h2 : c 60 2 = all) (hcs : CS (c 62) ws 0) (hO : OC c size O) (hq : ∀ c', OC c' size (upO O (cntK (aln g all) 20) ws) → (∀ o, o ≠ 60 → o ≠ 61 → c' o = c o) → (∀ k, k ≠ 5 → c' 60 k = c 60 k) → Q 0 (NH c')) :
    am_C tT E (d + 1) mX0_consider [.inr 60, .inl (nI ws.length)] (NH c) Q := by
  have w1 := hW.1.2.1
  have ha := aln_256 w1 all
  have hcl := cnt_le (aln g all) 20
  refine am_C.of (by decide) (Nat.le_of_ble_eq_true rfl) ?_
  show am_R tT E _ mX0_consider _ 0 [some (.inr 60), some (.inl (nI ws.length)), none] [] (NH c)
  refine am_goS gX0_consider [] 400 ?_
  simp only [am_eqs, am_eqk, am_eqv, lX0_consider_0, fx_class, NH_at, NH_put, ↓reduceIte, List.mem_cons, List.not_mem_nil, or_false, or_self, false_or, true_and, and_true, Nat.reduceEqDiff, reduceCtorEq, List.length_cons, List.length_nil, Nat.reduceAdd, Nat.reduceLeDiff, Nat.reduceSub, Nat.reduceLT, Nat.zero_le, Nat.zero_add, forall_const, not_true_eq_false, not_false_eq_true, false_implies, true_implies, implies_true, Nat.zero_lt_succ, am_z0, am_z1]
  try simp (disch := omega) only [hs_at, hs_put, hs_63, NH_at, NH_put, NH_cpy, ni_add, ni_mul, ni_clamp, ni_in, ni_eq, ni_lt, ni_le, ni_sub, Nat.reduceAdd, Nat.reduceMul, Nat.reduceSub, eq_self, true_implies, not_true_eq_false, false_implies, and_true, true_and, not_false_eq_true, Nat.reduceEqDiff, Nat.reduceLeDiff, Nat.reduceLT, implies_true, ite_true, ite_false, h2]
  refine c_aloneAmong (by omega) hW hA.2.1 ?_
  refine c_bitCount (by omega) ?_
  generalize cntK (aln g all) 20 = k at hq hcl
  have hyes : upO O k ws = some (k, ws) → Q 0 (NH (ccp (cup c 60 5 k) 62 0 61 0 ws.length)) := by
    intro e
    refine hq _ ?_ (fun o x y => ?_) (fun j x => ?_)
    · rw [e]
      refine ⟨?_, ?_, hcl, hl⟩
      · grind [cup_app, ccp_app]
      · refine CS_cp ws 0 (fun i hi => ?_) hcs
        grind [cup_app, ccp_app]
    · funext j; grind [cup_app, ccp_app]
    · grind [cup_app, ccp_app]
  have hno : upO O k ws = O → Q 0 (NH c) := fun e => hq c (by rw [e]; exact hO) (fun _ _ _ => rfl) (fun _ _ => rfl)
  cases O with
  | none =>
    have e5 : c 60 5 = 4294967295 := hO
    try simp (disch := omega) only [hs_at, hs_put, hs_63, NH_at, NH_put, NH_cpy, ni_add, ni_mul, ni_clamp, ni_in, ni_eq, ni_lt, ni_le, ni_sub, Nat.reduceAdd, Nat.reduceMul, Nat.reduceSub, eq_self, true_implies, not_true_eq_false, false_implies, and_true, true_and, not_false_eq_true, Nat.reduceEqDiff, Nat.reduceLeDiff, Nat.reduceLT, implies_true, ite_true, ite_false, nup_self, nup_ne, cup_self, cup_ne, e5, ni_n0, ← ni_m1, ni_le_m1, ni_m1_lt]
    exact ⟨by omega, by omega, hyes rfl⟩
  | some x =>
    obtain ⟨e5, h61, x20, xl⟩ := hO
    simp only [upO] at hyes hno
    try simp (disch := omega) only [hs_at, hs_put, hs_63, NH_at, NH_put, NH_cpy, ni_add, ni_mul, ni_clamp, ni_in, ni_eq, ni_lt, ni_le, ni_sub, Nat.reduceAdd, Nat.reduceMul, Nat.reduceSub, eq_self, true_implies, not_true_eq_false, false_implies, and_true, true_and, not_false_eq_true, Nat.reduceEqDiff, Nat.reduceLeDiff, Nat.reduceLT, implies_true, ite_true, ite_false, nup_self, nup_ne, cup_self, cup_ne, e5, ni_n0]
    exact ⟨fun z => hno (if_pos (by omega)), fun z => ⟨by omega, by omega, hyes (if_neg (by omega))⟩⟩
theorem c_oseek {lw : Lw} {b all pl size : Nat} (hok : LOK lw) (hall : all < 256) (hsz : size = cntK all 20) (hs6 : size ≤ 6) (hb12 : b < 12) : ∀ (n : Nat) (g : Nat → Nat) (left t dd : Nat) (ws : List Nat) (O : Option (Nat × List Nat)) (c : Nat → Nat → Nat) (Q : Int32 → am_H → Prop), dd = d + 4 + n → b < g 2 → WF g t → t + n < 1000000 → RAt g c → LC c lw → c 20 3 = 0 → c 60 2 = all → c 60 3 = size → c 60 4 = b → left < 256 → cntK left 20 = n → ws.length + n = size → CS (c 62) ws 0 → OC c size O → TI g left b pl →
    (∀ c', RAt g c' → OC c' size (toF lw b all n g left ws O) → FQ c c' → CS (c' 62) ws 0 → Q 0 (NH c')) →
    am_C tT E dd mX0_seek [.inr 60, .inl (nI left), .inl (nI ws.length)] (NH c) Q := by
  intro n
  induction n with
  | zero =>
    intro g left t dd ws O c Q hdd hb hW ht hA hL h20 h2 h3 h4 hl hcn hwl hcs hO hti hq
    subst hdd
    have e0 := cnt0 hl hcn
    subst e0
    rw [toF] at hq
    refine am_C.of (by decide) (Nat.le_of_ble_eq_true rfl) ?_
    show am_R tT E _ mX0_seek _ 0 [some (.inr 60), some (.inl (nI 0)), some (.inl (nI ws.length)), none, none, none] [] (NH c)
    refine am_goS gX0_seek [10] 400 ?_
    simp only [am_eqs, am_eqk, am_eqv, lX0_seek_0, lX0_seek_1, lX0_seek_2, lX0_seek_3, fx_class, NH_at, NH_put, ↓reduceIte, List.mem_cons, List.not_mem_nil, or_false, or_self, false_or, true_and, and_true, Nat.reduceEqDiff, reduceCtorEq, List.length_cons, List.length_nil, Nat.reduceAdd, Nat.reduceLeDiff, Nat.reduceSub, Nat.reduceLT, Nat.zero_le, Nat.zero_add, forall_const, not_true_eq_false, not_false_eq_true, false_implies, true_implies, implies_true, Nat.zero_lt_succ, am_z0, am_z1]
    refine c_oconsider (size := size) (by omega) hs6 hall hW hA h2 hcs hO (fun c' o' f1 f2 => ?_)
    exact hq c' (rat_cell hA (fun o x y _ => f1 o (by omega) (by omega))) o' ⟨fun o _ _ _ _ _ _ _ _ x9 x10 _ => f1 o x9 x10, f2⟩ (by rw [f1 62 (by omega) (by omega)]; exact hcs)
  | succ n ih =>
    intro g left t dd ws O c Q hdd hb hW ht hA hL h20 h2 h3 h4 hl hcn hwl hcs hO hti hq
    obtain ⟨d2, hd2⟩ : ∃ d2, dd = d2 + 3 + 1 := ⟨d + 1 + n, by omega⟩
    subst hd2
    have w1 := hW.1.2.1
    have w2 := hW.1.2.2.1
    have hl0 : left ≠ 0 := fun e => by
      rw [e] at hcn
      have : ∀ m, cntK 0 m = 0 := by
        intro m
        induction m with
        | zero => rfl
        | succ m ihm => rw [cntK, ihm, shr1]; simp
      rw [this] at hcn
      omega
    have hstop : (∃ x, O = some x ∧ x.1 = size) → Q 0 (NH c) := by
      rintro ⟨x, rfl, hx⟩
      rw [to_stop (by omega)] at hq
      exact hq c hA hO (FQ.refl c) hcs
    have hO5 : c 60 5 < 4294967296 ∧ (c 60 5 = size → ∃ x, O = some x ∧ x.1 = size) := by
      cases O with
      | none =>
        have e5 : c 60 5 = 4294967295 := hO
        exact ⟨by omega, fun z => by omega⟩
      | some x =>
        have e5 := hO.1
        have e20 := hO.2.2.1
        exact ⟨by omega, fun z => ⟨x, rfl, by omega⟩⟩
    rw [toF] at hq
    generalize hF : (fun p O => if left >>> p &&& 1 = 0 then O else if duG g lw p b = 200 then O else toF lw b all n (stG g lw p b) (delB left p) (ws ++ [p]) O) = F at hq
    have hFb : ∀ p O, F p O = if left >>> p &&& 1 = 0 then O else if duG g lw p b = 200 then O else toF lw b all n (stG g lw p b) (delB left p) (ws ++ [p]) O := fun p O => by rw [← hF]
    refine am_C.of (by decide) (Nat.le_of_ble_eq_true rfl) ?_
    show am_R tT E _ mX0_seek _ 0 [some (.inr 60), some (.inl (nI left)), some (.inl (nI ws.length)), none, none, none] [] (NH c)
    refine am_goS gX0_seek [4, 30] 400 ?_
    simp only [am_eqs, am_eqk, am_eqv, lX0_seek_0, lX0_seek_1, lX0_seek_2, lX0_seek_3, fx_class, NH_at, NH_put, ↓reduceIte, List.mem_cons, List.not_mem_nil, or_false, or_self, false_or, true_and, and_true, Nat.reduceEqDiff, reduceCtorEq, List.length_cons, List.length_nil, Nat.reduceAdd, Nat.reduceLeDiff, Nat.reduceSub, Nat.reduceLT, Nat.zero_le, Nat.zero_add, forall_const, not_true_eq_false, not_false_eq_true, false_implies, true_implies, implies_true, Nat.zero_lt_succ, am_z0, am_z1]
    obtain ⟨hO5, hO6⟩ := hO5
    try simp (disch := omega) only [hs_at, hs_put, hs_63, NH_at, NH_put, NH_cpy, ni_add, ni_mul, ni_clamp, ni_in, ni_eq, ni_lt, ni_le, ni_sub, Nat.reduceAdd, Nat.reduceMul, Nat.reduceSub, eq_self, true_implies, not_true_eq_false, false_implies, and_true, true_and, not_false_eq_true, Nat.reduceEqDiff, Nat.reduceLeDiff, Nat.reduceLT, implies_true, ite_true, ite_false, h3]
    refine ⟨fun z => absurd z hl0, fun _ => ⟨fun z => absurd z (by omega), fun _ => ⟨fun z => hstop (hO6 z), fun _ => ?_⟩⟩⟩
    have loop : ∀ m p (c1 : Nat → Nat → Nat) (O1 : Option (Nat × List Nat)) (v4 v5 : Option am_V), p + m = g 1 → bfF F m p O1 = bfF F (g 1) 0 O → RAt g c1 → OC c1 size O1 → FQ c c1 → CS (c1 62) ws 0 → am_R tT E (d2 + 3 + 1) mX0_seek Q 30 [some (.inr 60), some (.inl (nI left)), some (.inl (nI ws.length)), some (.inl (nI p)), v4, v5] [] (NH c1) := by
      intro m
      induction m with
      | zero =>
        intro p c1 O1 v4 v5 hp hbf ra oc fq cs
        have e : p = g 1 := by omega
        have q6 : c1 6 0 = g 1 := ra.2.1.1
        refine am_goS gX0_seek [44, 30] 400 ?_
        simp only [am_eqs, am_eqk, am_eqv, lX0_seek_0, lX0_seek_1, lX0_seek_2, lX0_seek_3, fx_class, NH_at, NH_put, ↓reduceIte, List.mem_cons, List.not_mem_nil, or_false, or_self, false_or, true_and, and_true, Nat.reduceEqDiff, reduceCtorEq, List.length_cons, List.length_nil, Nat.reduceAdd, Nat.reduceLeDiff, Nat.reduceSub, Nat.reduceLT, Nat.zero_le, Nat.zero_add, forall_const, not_true_eq_false, not_false_eq_true, false_implies, true_implies, implies_true, Nat.zero_lt_succ, am_z0, am_z1]
        try simp (disch := omega) only [hs_at, hs_put, hs_63, NH_at, NH_put, NH_cpy, ni_add, ni_mul, ni_clamp, ni_in, ni_eq, ni_lt, ni_le, ni_sub, Nat.reduceAdd, Nat.reduceMul, Nat.reduceSub, eq_self, true_implies, not_true_eq_false, false_implies, and_true, true_and, not_false_eq_true, Nat.reduceEqDiff, Nat.reduceLeDiff, Nat.reduceLT, implies_true, ite_true, ite_false, q6]
        exact ⟨fun _ => hq c1 ra (by rw [← hbf]; exact oc) fq cs, fun z => absurd z (by omega)⟩
      | succ m ihm =>
        intro p c1 O1 v4 v5 hp hbf ra oc fq cs
        have q6 : c1 6 0 = g 1 := ra.2.1.1
        have k2 : c1 60 2 = all := by rw [fq.2 2 (by omega)]; exact h2
        have k3 : c1 60 3 = size := by rw [fq.2 3 (by omega)]; exact h3
        have k4 : c1 60 4 = b := by rw [fq.2 4 (by omega)]; exact h4
        have k20 : c1 20 3 = 0 := by rw [fq.at20]; exact h20
        rw [bfF, hFb] at hbf
        have hb01 := bit01 left p
        have hpe := hW.p (show p < 8 by omega)
        refine am_goS gX0_seek [30] 400 ?_
        simp only [am_eqs, am_eqk, am_eqv, lX0_seek_0, lX0_seek_1, lX0_seek_2, lX0_seek_3, fx_class, NH_at, NH_put, ↓reduceIte, List.mem_cons, List.not_mem_nil, or_false, or_self, false_or, true_and, and_true, Nat.reduceEqDiff, reduceCtorEq, List.length_cons, List.length_nil, Nat.reduceAdd, Nat.reduceLeDiff, Nat.reduceSub, Nat.reduceLT, Nat.zero_le, Nat.zero_add, forall_const, not_true_eq_false, not_false_eq_true, false_implies, true_implies, implies_true, Nat.zero_lt_succ, am_z0, am_z1]
        try simp (disch := omega) only [hs_at, hs_put, hs_63, NH_at, NH_put, NH_cpy, ni_add, ni_mul, ni_clamp, ni_in, ni_eq, ni_lt, ni_le, ni_sub, Nat.reduceAdd, Nat.reduceMul, Nat.reduceSub, eq_self, true_implies, not_true_eq_false, false_implies, and_true, true_and, not_false_eq_true, Nat.reduceEqDiff, Nat.reduceLeDiff, Nat.reduceLT, implies_true, ite_true, ite_false, q6, ni_shr, ni_and, k4]
        refine ⟨fun z => absurd z (by omega), fun _ => ⟨fun z => ?_, fun z => ?_⟩⟩
        · rw [if_pos z] at hbf
          exact ihm (p + 1) c1 O1 v4 v5 (by omega) hbf ra oc fq cs
        · have z1 : left >>> p &&& 1 = 1 := by omega
          rw [if_neg z] at hbf
          have hat := hti.2 p (by omega) z1
          have htou : tou g b (og g p 0) := by rw [hat]; exact hti.1
          refine c_dueG (t := t) (by omega) (by omega) hW (by omega) ra (hL.fq fq) hok k20 (fun hd c2 f2 => ?_) (fun hd c2 f2 => ?_)
          · rw [if_pos hd] at hbf
            try simp (disch := omega) only [hs_at, hs_put, hs_63, NH_at, NH_put, NH_cpy, ni_add, ni_mul, ni_clamp, ni_in, ni_eq, ni_lt, ni_le, ni_sub, Nat.reduceAdd, Nat.reduceMul, Nat.reduceSub, eq_self, true_implies, not_true_eq_false, false_implies, and_true, true_and, not_false_eq_true, Nat.reduceEqDiff, Nat.reduceLeDiff, Nat.reduceLT, implies_true, ite_true, ite_false, ni_m2]
            refine ihm (p + 1) c2 O1 _ _ (by omega) hbf (ra.ft f2) (oc.cg (f2 60 (by omega) (by omega) (by omega)) (f2 61 (by omega) (by omega) (by omega))) (fq.trans (FQ.ft f2)) ?_
            rw [f2 62 (by omega) (by omega) (by omega)]
            exact cs
          · rw [if_neg hd] at hbf
            have hdc := duG_cases g lw p b
            have h9 := hpe.2.2.1
            have fq2 := fq.trans (FQ.ft f2)
            have j4 : cup c2 62 ws.length p 60 4 = b := by rw [cup_ne _ _ _ (by omega), fq2.2 4 (by omega)]; exact h4
            have fq3 : FQ c (cup c2 62 ws.length p) := fq2.trans ⟨fun o x1 x2 x3 x4 x5 x6 x7 x8 x9 x10 x11 => cup_ne _ _ _ x11, fun k _ => by rw [cup_ne _ _ _ (by omega)]⟩
            have ra3 : RAt g (cup c2 62 ws.length p) := rat_cell (ra.ft f2) (fun o x y _ => cup_ne _ _ _ (by omega))
            have oc3 : OC (cup c2 62 ws.length p) size O1 := oc.cg (by rw [cup_ne _ _ _ (by omega), f2 60 (by omega) (by omega) (by omega)]) (by rw [cup_ne _ _ _ (by omega), f2 61 (by omega) (by omega) (by omega)])
            have hcs3 : CS (cup c2 62 ws.length p 62) (ws ++ [p]) 0 := by
              rw [cup_self, f2 62 (by omega) (by omega) (by omega)]
              exact CS_snoc ws 0 (CS_upd ws 0 (by omega) cs) (by rw [Nat.zero_add, nup_self])
            have hlen : (ws ++ [p]).length = ws.length + 1 := by simp
            have hcd := cnt_del (s := left) (p := p) (by omega) z1 20 (by omega)
            rw [if_pos (by omega)] at hcd
            have st2 : stG g lw p b 2 = g 2 := st_off (by omega) (by omega) hW hd (by omega)
            have edel : left &&& (1 <<< p ^^^ 4294967295) = delB left p := rfl
            try simp (disch := omega) only [hs_at, hs_put, hs_63, NH_at, NH_put, NH_cpy, ni_add, ni_mul, ni_clamp, ni_in, ni_eq, ni_lt, ni_le, ni_sub, Nat.reduceAdd, Nat.reduceMul, Nat.reduceSub, eq_self, true_implies, not_true_eq_false, false_implies, and_true, true_and, not_false_eq_true, Nat.reduceEqDiff, Nat.reduceLeDiff, Nat.reduceLT, implies_true, ite_true, ite_false, ni_m2, j4]
            refine ⟨fun z => absurd z (by omega), fun _ => ⟨by omega, ?_⟩⟩
            refine c_passG (by omega) hb hW hd ra3 (fun c4 r4 f4 => ?_)
            have fq4 := fq3.trans (FQ.fp f4)
            have hrec := ih (stG g lw p b) (delB left p) (t + 1) (d2 + 3) (ws ++ [p]) O1 c4
            rw [hlen] at hrec
            try simp (disch := omega) only [hs_at, hs_put, hs_63, NH_at, NH_put, NH_cpy, ni_add, ni_mul, ni_clamp, ni_in, ni_eq, ni_lt, ni_le, ni_sub, Nat.reduceAdd, Nat.reduceMul, Nat.reduceSub, eq_self, true_implies, not_true_eq_false, false_implies, and_true, true_and, not_false_eq_true, Nat.reduceEqDiff, Nat.reduceLeDiff, Nat.reduceLT, implies_true, ite_true, ite_false, ni_m1, ni_shl, ni_xor, ni_and, edel]
            refine hrec _ (by omega) (by omega) (wf_st (by omega) (by omega) hW hd) (by omega) r4 (hL.fq fq4) (by rw [fq4.at20]; exact h20) (by rw [fq4.2 2 (by omega)]; exact h2) (by rw [fq4.2 3 (by omega)]; exact h3) (by rw [fq4.2 4 (by omega)]; exact h4) (Nat.lt_of_le_of_lt (del_le _ _) hl) (by omega) (by omega) (by rw [f4 62 (by omega) (by omega) (by omega) (by omega) (by omega)]; exact hcs3) (oc3.cg (f4 60 (by omega) (by omega) (by omega) (by omega) (by omega)) (f4 61 (by omega) (by omega) (by omega) (by omega) (by omega))) (ti_st (by omega) hb12 hW hd hti) (fun c5 r5 o5 f5 s5 => ?_)
            have fq5 := fq4.trans f5
            have i4 : c5 60 4 = b := by rw [fq5.2 4 (by omega)]; exact h4
            try simp (disch := omega) only [hs_at, hs_put, hs_63, NH_at, NH_put, NH_cpy, ni_add, ni_mul, ni_clamp, ni_in, ni_eq, ni_lt, ni_le, ni_sub, Nat.reduceAdd, Nat.reduceMul, Nat.reduceSub, eq_self, true_implies, not_true_eq_false, false_implies, and_true, true_and, not_false_eq_true, Nat.reduceEqDiff, Nat.reduceLeDiff, Nat.reduceLT, implies_true, ite_true, ite_false, i4]
            refine c_backG (by omega) hb htou hW hd r5 (fun c6 r6 f6 => ?_)
            refine ihm (p + 1) c6 _ _ _ (by omega) hbf r6 (o5.cg (f6 60 (by omega) (by omega) (by omega) (by omega) (by omega)) (f6 61 (by omega) (by omega) (by omega) (by omega) (by omega))) (fq5.trans (FQ.fp f6)) ?_
            rw [f6 62 (by omega) (by omega) (by omega) (by omega) (by omega)]
            exact CS_pre ws [p] 0 s5
    exact loop (g 1) 0 c O none none (by omega) rfl hA hO (FQ.refl c) hcs
end CORDER
