/-! ===== part 67: the class's plan: the search ===== -/
section CPLAN
variable {E : am_E} {d : Nat} {h : am_H} {Q : Int32 → am_H → Prop} {g g0 g1 : Nat → Nat} {c : Nat → Nat → Nat} {t : Nat}
theorem CS_snoc {f : Nat → Nat} {n : Nat} : ∀ (ch : List Nat) (k : Nat), CS f ch k → f (k + ch.length) = n → CS f (ch ++ [n]) k
  | [], _, _, h => ⟨h, trivial⟩
  | m :: r, k, h, h1 => ⟨h.1, CS_snoc r (k + 1) h.2 (by rw [show k + 1 + r.length = k + (m :: r).length by simp; omega]; exact h1)⟩
theorem CS_upd {f : Nat → Nat} {x q : Nat} : ∀ (ch : List Nat) (k : Nat), k + ch.length ≤ q → CS f ch k → CS (nup f q x) ch k
  | [], _, _, _ => trivial
  | m :: r, k, hl, h => by
    simp only [List.length_cons] at hl
    refine ⟨?_, CS_upd r (k + 1) (by omega) h.2⟩
    rw [nup_ne _ _ (by omega)]
    exact h.1
theorem CS_pre {f : Nat → Nat} : ∀ (ch l : List Nat) (k : Nat), CS f (ch ++ l) k → CS f ch k
  | [], _, _, _ => trivial
  | _ :: r, l, k, h => ⟨h.1, CS_pre r l (k + 1) h.2⟩
theorem c_choose {lw : Lw} {p n : Nat} (hp : p < g 1) (hW : WF g t) (ht : t + 12 < 1000000) (hok : LOK lw) (hcw : cwG g (rbF g (g 8) 0) (og g p 0)) (h9 : og g p 2 + n ≤ 9) (hn3 : n ≤ 3) :
    ∀ (r : Nat) (ch : List Nat) (fr dd : Nat) (c : Nat → Nat → Nat) (Q : Int32 → am_H → Prop), dd = d + 5 + r → ch.length + r = n → fr ≤ g 0 → okC g p fr ch 0 → CS (c 59) ch 0 → RAt (cmL p ch g) c → LC c lw → VI (verV g lw p) c → c 23 3 = g 8 → (∀ i, i < 12 → c 24 i = g (75 + i)) →
      (∀ l, plF g lw p r ch fr = some l → ∀ c', RAt (cmL p ch g) c' → VI (verV g lw p) c' → FZ c c' → CS (c' 59) l 0 → l.length = n → Q (nI 1) (NH c')) →
      (plF g lw p r ch fr = none → ∀ c', RAt (cmL p ch g) c' → VI (verV g lw p) c' → FZ c c' → CS (c' 59) ch 0 → Q (nI 0) (NH c')) →
      am_C tT E dd mX6_choose [.inr 58, .inl (nI p), .inl (nI n), .inl (nI ch.length), .inl (nI fr)] (NH c) Q := by
  have w0 := hW.1.1
  have w1 := hW.1.2.1
  intro r
  induction r with
  | zero =>
    intro ch fr dd c Q hdd hln hfr hc h59 hA hL hVI h3 h24 h1 h0
    subst hdd
    have e : ch.length = n := by omega
    refine am_C.of (by decide) (Nat.le_of_ble_eq_true rfl) ?_
    show am_R tT E _ mX6_choose _ 0 [some (.inr 58), some (.inl (nI p)), some (.inl (nI n)), some (.inl (nI ch.length)), some (.inl (nI fr)), none, none] [] (NH c)
    rw [e]
    refine c_leaf (ch := ch) (fr := fr) e hp hW ht hA hL hok hcw h9 hn3 hc hVI h3 h24 (fun z c' ra vi fz e59 => ?_) (fun z c' ra vi fz e59 => ?_)
    · exact h1 ch (by rw [plF, cif_pos z]) c' ra vi fz (by rw [e59]; exact h59) e
    · exact h0 (by rw [plF, cif_neg z]) c' ra vi fz (by rw [e59]; exact h59)
  | succ r ih =>
    intro ch fr dd c Q hdd hln hfr hc h59 hA hL hVI h3 h24 h1 h0
    obtain ⟨d2, hd2⟩ : ∃ d2, dd = d2 + 1 + 1 + 1 := ⟨d + 3 + r, by omega⟩
    subst hd2
    have ih' := fun (ch : List Nat) (fr : Nat) (c : Nat → Nat → Nat) (Q : Int32 → am_H → Prop) => ih ch fr (d2 + 1 + 1) c Q (by omega)
    rw [plF] at h1 h0
    generalize hF : (fun k => cif (hasN g p k) none (plF g lw p r (ch ++ [k]) (k + 1))) = F at h1 h0
    have hFk : ∀ k, F k = cif (hasN g p k) none (plF g lw p r (ch ++ [k]) (k + 1)) := fun k => by rw [← hF]
    obtain ⟨k1, k2, k3, k4⟩ := cmL_ok (fr := fr) ch g 0 hp hW (by omega) hc
    have hpe := k1.p (show p < 8 by omega)
    have e0 : cmL p ch g 0 = g 0 := k2 0 (by omega)
    have e1 : cmL p ch g 1 = g 1 := k2 1 (by omega)
    have hh := had_20 (by omega) hpe
    have hm9 : ∀ q, q < 8 → og (cmL p ch g) q 2 ≤ 9 := fun q hq => (k1.p hq).2.2.1
    refine am_C.of (by decide) (Nat.le_of_ble_eq_true rfl) ?_
    show am_R tT E _ mX6_choose _ 0 [some (.inr 58), some (.inl (nI p)), some (.inl (nI n)), some (.inl (nI ch.length)), some (.inl (nI fr)), none, none] [] (NH c)
    refine am_goS gX6_choose [10, 35] 400 ?_
    simp only [am_eqs, am_eqk, am_eqv, lX6_choose_0, lX6_choose_1, lX6_choose_2, lX6_choose_3, fx_class, NH_at, NH_put, ↓reduceIte, List.mem_cons, List.not_mem_nil, or_false, or_self, false_or, true_and, and_true, Nat.reduceEqDiff, reduceCtorEq, List.length_cons, List.length_nil, Nat.reduceAdd, Nat.reduceLeDiff, Nat.reduceSub, Nat.reduceLT, Nat.zero_le, Nat.zero_add, forall_const, not_true_eq_false, not_false_eq_true, false_implies, true_implies, implies_true, Nat.zero_lt_succ, am_z0, am_z1]
    try simp (disch := omega) only [hs_at, hs_put, hs_63, NH_at, NH_put, NH_cpy, ni_add, ni_mul, ni_clamp, ni_in, ni_eq, ni_lt, ni_le, ni_sub, Nat.reduceAdd, Nat.reduceMul, Nat.reduceSub, eq_self, true_implies, not_true_eq_false, false_implies, and_true, true_and, not_false_eq_true, Nat.reduceEqDiff, Nat.reduceLeDiff, Nat.reduceLT, implies_true, ite_true, ite_false]
    refine ⟨fun z => absurd z (by omega), fun _ => ⟨fun _ => ?_, fun z => absurd z (by omega)⟩⟩
    have loop : ∀ m k (c1 : Nat → Nat → Nat) (v6 : Option am_V), k + m = g 0 → fr ≤ k → fsF F m k = fsF F (g 0 - fr) fr → RAt (cmL p ch g) c1 → VI (verV g lw p) c1 → FZ c c1 → CS (c1 59) ch 0 → am_R tT E (d2 + 1 + 1 + 1) mX6_choose Q 35 [some (.inr 58), some (.inl (nI p)), some (.inl (nI n)), some (.inl (nI ch.length)), some (.inl (nI fr)), some (.inl (nI k)), v6] [] (NH c1) := by
      intro m
      induction m with
      | zero =>
        intro k c1 v6 hk hfk hfs ra vi fz h591
        have e : k = g 0 := by omega
        have q14 : c1 1 4 = g 0 := by rw [ra.1.1.2.2.2.2.1]; exact e0
        refine am_goS gX6_choose [10, 35] 400 ?_
        simp only [am_eqs, am_eqk, am_eqv, lX6_choose_0, lX6_choose_1, lX6_choose_2, lX6_choose_3, fx_class, NH_at, NH_put, ↓reduceIte, List.mem_cons, List.not_mem_nil, or_false, or_self, false_or, true_and, and_true, Nat.reduceEqDiff, reduceCtorEq, List.length_cons, List.length_nil, Nat.reduceAdd, Nat.reduceLeDiff, Nat.reduceSub, Nat.reduceLT, Nat.zero_le, Nat.zero_add, forall_const, not_true_eq_false, not_false_eq_true, false_implies, true_implies, implies_true, Nat.zero_lt_succ, am_z0, am_z1]
        try simp (disch := omega) only [hs_at, hs_put, hs_63, NH_at, NH_put, NH_cpy, ni_add, ni_mul, ni_clamp, ni_in, ni_eq, ni_lt, ni_le, ni_sub, Nat.reduceAdd, Nat.reduceMul, Nat.reduceSub, eq_self, true_implies, not_true_eq_false, false_implies, and_true, true_and, not_false_eq_true, Nat.reduceEqDiff, Nat.reduceLeDiff, Nat.reduceLT, implies_true, ite_true, ite_false, q14]
        exact ⟨fun _ => h0 (by rw [← hfs]; rfl) c1 ra vi fz h591, fun z => absurd z (by omega)⟩
      | succ m ihm =>
        intro k c1 v6 hk hfk hfs ra vi fz h591
        have q14 : c1 1 4 = g 0 := by rw [ra.1.1.2.2.2.2.1]; exact e0
        have q11 : c1 11 p = had (cmL p ch g) p := (ra.2.1.2 p (by omega)).2.2.2.1
        have q12 : c1 12 p = og (cmL p ch g) p 2 := (ra.2.1.2 p (by omega)).2.2.2.2.1
        have hhk : hasN (cmL p ch g) p k ↔ hasN g p k := has_cmL (by omega) hfk ch g 0 (by omega) hc
        rw [fsF, hFk] at hfs
        refine am_goS gX6_choose [10, 35] 400 ?_
        simp only [am_eqs, am_eqk, am_eqv, lX6_choose_0, lX6_choose_1, lX6_choose_2, lX6_choose_3, fx_class, NH_at, NH_put, ↓reduceIte, List.mem_cons, List.not_mem_nil, or_false, or_self, false_or, true_and, and_true, Nat.reduceEqDiff, reduceCtorEq, List.length_cons, List.length_nil, Nat.reduceAdd, Nat.reduceLeDiff, Nat.reduceSub, Nat.reduceLT, Nat.zero_le, Nat.zero_add, forall_const, not_true_eq_false, not_false_eq_true, false_implies, true_implies, implies_true, Nat.zero_lt_succ, am_z0, am_z1]
        try simp (disch := omega) only [hs_at, hs_put, hs_63, NH_at, NH_put, NH_cpy, ni_add, ni_mul, ni_clamp, ni_in, ni_eq, ni_lt, ni_le, ni_sub, Nat.reduceAdd, Nat.reduceMul, Nat.reduceSub, eq_self, true_implies, not_true_eq_false, false_implies, and_true, true_and, not_false_eq_true, Nat.reduceEqDiff, Nat.reduceLeDiff, Nat.reduceLT, implies_true, ite_true, ite_false, q14]
        refine ⟨fun z => absurd z (by omega), fun _ => ?_⟩
        refine c_hasName (by omega) (by omega) (by omega) (fun y => ?_) (fun y => ?_)
        · try simp (disch := omega) only [hs_at, hs_put, hs_63, NH_at, NH_put, NH_cpy, ni_add, ni_mul, ni_clamp, ni_in, ni_eq, ni_lt, ni_le, ni_sub, Nat.reduceAdd, Nat.reduceMul, Nat.reduceSub, eq_self, true_implies, not_true_eq_false, false_implies, and_true, true_and, not_false_eq_true, Nat.reduceEqDiff, Nat.reduceLeDiff, Nat.reduceLT, implies_true, ite_true, ite_false]
          rw [q11] at y
          rw [cif_pos (hhk.mp ((had_bit _ p k).mp y))] at hfs
          exact ihm (k + 1) c1 v6 (by omega) (by omega) hfs ra vi fz h591
        · have hno : ¬ hasN g p k := fun z => by
            have := (had_bit _ p k).mpr (hhk.mpr z)
            rw [q11] at y
            omega
          rw [cif_neg hno] at hfs
          try simp (disch := omega) only [hs_at, hs_put, hs_63, NH_at, NH_put, NH_cpy, ni_add, ni_mul, ni_clamp, ni_in, ni_eq, ni_lt, ni_le, ni_sub, Nat.reduceAdd, Nat.reduceMul, Nat.reduceSub, eq_self, true_implies, not_true_eq_false, false_implies, and_true, true_and, not_false_eq_true, Nat.reduceEqDiff, Nat.reduceLeDiff, Nat.reduceLT, implies_true, ite_true, ite_false]
          refine ⟨by omega, ?_⟩
          have ra2 : RAt (cmL p ch g) (cup c1 59 ch.length k) := rat_cell ra (fun o x y _ => cup_ne _ _ _ (by omega))
          have q12' : cup c1 59 ch.length k 12 p = og (cmL p ch g) p 2 := by rw [cup_ne _ _ _ (by omega)]; exact q12
          refine c_append (by omega) (by omega) (by omega) ?_
          have ra3 := rat_append (n := k) hm9 (show p < 8 by omega) (by omega) ra2
          rw [← cmL_snoc] at ra3
          generalize hc3 : iC (cup c1 59 ch.length k) p (cup c1 59 ch.length k 12 p) k = c3 at ra3
          have hcell : ∀ o, o ≠ 13 → o ≠ 12 → o ≠ 11 → o ≠ 59 → c3 o = c1 o := by
            intro o x13 x12 x11 x59
            rw [← hc3]
            funext j
            unfold iC
            rw [cup_app, if_neg x11, cup_app, if_neg x12, cup_app, if_neg x13, ccp_app, if_neg x13, cup_ne _ _ _ x59]
          have h593 : c3 59 = nup (c1 59) ch.length k := by
            rw [← hc3]
            funext j
            unfold iC
            rw [cup_app, if_neg (by omega), cup_app, if_neg (by omega), cup_app, if_neg (by omega), ccp_app, if_neg (by omega), cup_self]
          have fz3 : FZ c1 c3 := ⟨fun o ho => hcell o (by omega) (by omega) (by omega) (by omega), fun j _ => by rw [hcell 23 (by omega) (by omega) (by omega) (by omega)]⟩
          have fzc := fz.trans fz3
          have hlen : (ch ++ [k]).length = ch.length + 1 := by simp
          have hcs := ih' (ch ++ [k]) (k + 1) c3
          rw [hlen] at hcs
          have hL3 : LC c3 lw := by
            unfold LC at *
            rw [fzc.1 17 (by omega), fzc.1 18 (by omega)]
            exact hL
          have hback : ∀ c4 : Nat → Nat → Nat, RAt (cmL p (ch ++ [k]) g) c4 → RAt (cmL p ch g) (rC c4 p (og (cmL p ch g) p 2)) ∧ c4 12 p = og (cmL p ch g) p 2 + 1 ∧ c4 13 (9 * p + og (cmL p ch g) p 2) = k := by
            intro c4 r4
            rw [cmL_snoc] at r4
            refine ⟨rat_unappend hm9 (by omega) (by omega) (by omega) (fun i hi => ?_) (fun z => hno (hhk.mp z)) r4, ?_, ?_⟩
            · have := hpe.2.2.2.2.2.1 i hi; omega
            · rw [(r4.2.1.2 p (by omega)).2.2.2.2.1, og_com (by omega) (by omega) (by omega) (by omega), if_pos rfl, if_pos rfl]
            · rw [(r4.2.1.2 p (by omega)).2.2.2.2.2 _ (by rw [og_com (by omega) (by omega) (by omega) (by omega), if_pos rfl, if_pos rfl]; omega), og_com (by omega) (by omega) (by omega) (by omega), if_pos rfl, if_neg (by omega), if_pos rfl]
          have hrc : ∀ (c4 : Nat → Nat → Nat) o, o ≠ 13 → o ≠ 12 → o ≠ 11 → rC c4 p (og (cmL p ch g) p 2) o = c4 o := by
            intro c4 o x13 x12 x11
            funext j
            unfold rC
            rw [cup_app, if_neg x12, ccp_app, if_neg x13, cup_app, if_neg x11]
          have fzr : ∀ (c4 : Nat → Nat → Nat), FZ c4 (rC c4 p (og (cmL p ch g) p 2)) := fun c4 => ⟨fun o ho => hrc c4 o (by omega) (by omega) (by omega), fun j _ => by rw [hrc c4 23 (by omega) (by omega) (by omega)]⟩
          refine hcs _ (by omega) (by omega) (okC_snoc ch 0 hc hfk (by omega) hno) ?_ ra3 hL3 (vi.ft (hcell 20 (by omega) (by omega) (by omega) (by omega)) (hcell 22 (by omega) (by omega) (by omega) (by omega))) (by rw [fzc.2 3 (by omega)]; exact h3) (fun i hi => by rw [fzc.1 24 (by omega)]; exact h24 i hi) (fun l hl c4 r4 v4 f4 cs4 ll => ?_) (fun hl c4 r4 v4 f4 cs4 => ?_)
          · rw [h593]
            exact CS_snoc ch 0 (CS_upd ch 0 (by omega) h591) (by rw [Nat.zero_add, nup_self])
          · obtain ⟨b1, b2, b3⟩ := hback c4 r4
            try simp (disch := omega) only [hs_at, hs_put, hs_63, NH_at, NH_put, NH_cpy, ni_add, ni_mul, ni_clamp, ni_in, ni_eq, ni_lt, ni_le, ni_sub, Nat.reduceAdd, Nat.reduceMul, Nat.reduceSub, eq_self, true_implies, not_true_eq_false, false_implies, and_true, true_and, not_false_eq_true, Nat.reduceEqDiff, Nat.reduceLeDiff, Nat.reduceLT, implies_true, ite_true, ite_false, b2]
            refine ⟨by omega, ?_⟩
            rw [Nat.add_sub_cancel]
            refine c_remove (by omega) (by omega) (by omega) (by omega) ?_
            rw [hl] at hfs
            exact h1 l hfs.symm _ b1 (v4.ft (hrc c4 20 (by omega) (by omega) (by omega)) (hrc c4 22 (by omega) (by omega) (by omega))) ((fzc.trans f4).trans (fzr c4)) (by rw [hrc c4 59 (by omega) (by omega) (by omega)]; exact cs4) ll
          · obtain ⟨b1, b2, b3⟩ := hback c4 r4
            try simp (disch := omega) only [hs_at, hs_put, hs_63, NH_at, NH_put, NH_cpy, ni_add, ni_mul, ni_clamp, ni_in, ni_eq, ni_lt, ni_le, ni_sub, Nat.reduceAdd, Nat.reduceMul, Nat.reduceSub, eq_self, true_implies, not_true_eq_false, false_implies, and_true, true_and, not_false_eq_true, Nat.reduceEqDiff, Nat.reduceLeDiff, Nat.reduceLT, implies_true, ite_true, ite_false, b2]
            refine ⟨by omega, ?_⟩
            rw [Nat.add_sub_cancel]
            refine c_remove (by omega) (by omega) (by omega) (by omega) ?_
            rw [hl] at hfs
            exact ihm (k + 1) _ _ (by omega) (by omega) hfs b1 (v4.ft (hrc c4 20 (by omega) (by omega) (by omega)) (hrc c4 22 (by omega) (by omega) (by omega))) ((fzc.trans f4).trans (fzr c4)) (by rw [hrc c4 59 (by omega) (by omega) (by omega)]; exact CS_pre ch [k] 0 cs4)
    exact loop (g 0 - fr) fr c none (by omega) (Nat.le_refl _) rfl hA hVI (FZ.refl c) h59
theorem mcode : cJ9_min_7cf53 = Lib.Math.min.code := by decide +kernel
theorem xcode : cJ9_max_7cf53 = Lib.Math.max.code := by decide +kernel
theorem mname : yJ9_min_7cf53 = Lib.Math.min.name := by decide +kernel
theorem xname : yJ9_max_7cf53 = Lib.Math.max.name := by decide +kernel
theorem r_mmin {M : am_M} {pc idx : Nat} {L : am_L} {r : List am_V} {x y : Int32} (w1 : Cond.methodLink M.1.cls idx yJ9_min_7cf53 ∈ tbw) (hd : decode M.2.1 pc = .ok (.invokestatic idx, 3)) (hr : r.length ≤ 8) (hk : am_R tT E (d + 1) M Q (pc + 3) L (.inl (if y < x then y else x) :: r) h) : am_R tT E (d + 1) M Q pc L (.inl y :: .inl x :: r) h := by
  intro p e s m args below meth c H locs ls hh hF hP hS hl
  have hKs := hh.2.2.2.2.2.2
  have w1' : Cond.methodLink M.1.cls idx Lib.Math.min.name ∈ tT.2.2.1 := by rw [← mname]; exact w1
  have w2' : Cond.static Lib.Math.min.name ∈ tT.2.2.1 := by rw [← mname]; exact wd_170
  have w3' : Cond.initialized "java/lang/Math" ∈ tT.2.2.1 := wd_1000
  have w4' : Cond.code Lib.Math.min.name Lib.Math.min.code 2 (some .int) ∈ tT.2.2.1 := by rw [← mname, ← mcode]; exact wd_1001
  have h1 : d + 1 ≤ (am_mX tT E (d + 1) M Q).1.frames := hF.1
  have h40 : 40 * (d + 1) ≤ (am_mX tT E (d + 1) M Q).1.locals := hF.2.1
  refine va_mmin hh.1 hh.2.1 (hh.2.2.1.trans hl.1.symm) hh.2.2.2.2.2.1 (hKs.word w1' args) (hKs.word w2' args) (hKs.word w3' args) (hKs.word w4' args) (by omega) ?_ hF.2.2.1 hF.2.2.2 hd (hk p e s m args below meth c H locs ls hh hF hP hS hl)
  rw [am_sum]
  omega
theorem c_find {lw : Lw} {p : Nat} (hp : p < g 1) (hW : WF g t) (ht : t + 12 < 1000000) (hok : LOK lw) (hcw : cwG g (rbF g (g 8) 0) (og g p 0)) (hA : RAt g c) (hL : LC c lw) (hVI : VI (verV g lw p) c) (h3 : c 23 3 = g 8) (h24 : ∀ i, i < 12 → c 24 i = g (75 + i))
    (h1 : ∀ l, pnF g lw p 4 0 = some l → ∀ c', RAt g c' → FZ c c' → CS (c' 59) l 0 → l.length ≤ 3 → Q (nI l.length) (NH c')) (h0 : pnF g lw p 4 0 = none → ∀ c', RAt g c' → FZ c c' → Q (-1) (NH c')) :
    am_C tT E (d + 9) mX6_find [.inr 58, .inl (nI p)] (NH c) Q := by
  have w1 := hW.1.2.1
  have hm := (hW.p (show p < 8 by omega)).2.2.1
  have q12 : c 12 p = og g p 2 := (hA.2.1.2 p (by omega)).2.2.2.2.1
  refine am_C.of (by decide) (Nat.le_of_ble_eq_true rfl) ?_
  show am_R tT E _ mX6_find _ 0 [some (.inr 58), some (.inl (nI p)), none, none] [] (NH c)
  refine am_goS gX6_find [16] 400 ?_
  simp only [am_eqs, am_eqk, am_eqv, lX6_find_0, lX6_find_1, fx_class, NH_at, NH_put, ↓reduceIte, List.mem_cons, List.not_mem_nil, or_false, or_self, false_or, true_and, and_true, Nat.reduceEqDiff, reduceCtorEq, List.length_cons, List.length_nil, Nat.reduceAdd, Nat.reduceLeDiff, Nat.reduceSub, Nat.reduceLT, Nat.zero_le, Nat.zero_add, forall_const, not_true_eq_false, not_false_eq_true, false_implies, true_implies, implies_true, Nat.zero_lt_succ, am_z0, am_z1]
  try simp (disch := omega) only [hs_at, hs_put, hs_63, NH_at, NH_put, NH_cpy, ni_add, ni_mul, ni_clamp, ni_in, ni_eq, ni_lt, ni_le, ni_sub, Nat.reduceAdd, Nat.reduceMul, Nat.reduceSub, eq_self, true_implies, not_true_eq_false, false_implies, and_true, true_and, not_false_eq_true, Nat.reduceEqDiff, Nat.reduceLeDiff, Nat.reduceLT, implies_true, ite_true, ite_false, q12]
  refine ⟨by omega, ?_⟩
  refine r_mmin (idx := 34) wd_169 dX6_find_16 (by decide) ?_
  have hif : (if nI (9 - og g p 2) < nI 3 then nI (9 - og g p 2) else nI 3) = nI (if 3 ≤ 9 - og g p 2 then 3 else 9 - og g p 2) := by
    rw [apply_ite nI]
    by_cases z : 3 ≤ 9 - og g p 2
    · rw [if_pos z, if_neg (by rw [ni_lt (by omega) (by omega)]; omega)]
    · rw [if_neg z, if_pos (by rw [ni_lt (by omega) (by omega)]; omega)]
  rw [hif]
  generalize hmo : (if 3 ≤ 9 - og g p 2 then 3 else 9 - og g p 2) = mo
  refine am_goS gX6_find [22] 400 ?_
  simp only [am_eqs, am_eqk, am_eqv, lX6_find_0, lX6_find_1, fx_class, NH_at, NH_put, ↓reduceIte, List.mem_cons, List.not_mem_nil, or_false, or_self, false_or, true_and, and_true, Nat.reduceEqDiff, reduceCtorEq, List.length_cons, List.length_nil, Nat.reduceAdd, Nat.reduceLeDiff, Nat.reduceSub, Nat.reduceLT, Nat.zero_le, Nat.zero_add, forall_const, not_true_eq_false, not_false_eq_true, false_implies, true_implies, implies_true, Nat.zero_lt_succ, am_z0, am_z1]
  have hmo2 : mo ≤ 3 ∧ og g p 2 + mo ≤ 9 ∧ (mo < 3 → og g p 2 + mo = 9) := by split at hmo <;> omega
  have loop : ∀ m n (c1 : Nat → Nat → Nat), n + m = 4 → n ≤ mo + 1 → pnF g lw p m n = pnF g lw p 4 0 → RAt g c1 → VI (verV g lw p) c1 → FZ c c1 → am_R tT E (d + 9) mX6_find Q 22 [some (.inr 58), some (.inl (nI p)), some (.inl (nI mo)), some (.inl (nI n))] [] (NH c1) := by
    intro m
    induction m with
    | zero =>
      intro n c1 hn hno hpn ra vi fz
      refine am_goS gX6_find [22] 400 ?_
      simp only [am_eqs, am_eqk, am_eqv, lX6_find_0, lX6_find_1, fx_class, NH_at, NH_put, ↓reduceIte, List.mem_cons, List.not_mem_nil, or_false, or_self, false_or, true_and, and_true, Nat.reduceEqDiff, reduceCtorEq, List.length_cons, List.length_nil, Nat.reduceAdd, Nat.reduceLeDiff, Nat.reduceSub, Nat.reduceLT, Nat.zero_le, Nat.zero_add, forall_const, not_true_eq_false, not_false_eq_true, false_implies, true_implies, implies_true, Nat.zero_lt_succ, am_z0, am_z1]
      try simp (disch := omega) only [hs_at, hs_put, hs_63, NH_at, NH_put, NH_cpy, ni_add, ni_mul, ni_clamp, ni_in, ni_eq, ni_lt, ni_le, ni_sub, Nat.reduceAdd, Nat.reduceMul, Nat.reduceSub, eq_self, true_implies, not_true_eq_false, false_implies, and_true, true_and, not_false_eq_true, Nat.reduceEqDiff, Nat.reduceLeDiff, Nat.reduceLT, implies_true, ite_true, ite_false]
      exact ⟨fun _ => h0 (by rw [← hpn]; rfl) c1 ra fz, fun z => absurd z (by omega)⟩
    | succ m ih =>
      intro n c1 hn hno hpn ra vi fz
      rw [pnF] at hpn
      refine am_goS gX6_find [22] 400 ?_
      simp only [am_eqs, am_eqk, am_eqv, lX6_find_0, lX6_find_1, fx_class, NH_at, NH_put, ↓reduceIte, List.mem_cons, List.not_mem_nil, or_false, or_self, false_or, true_and, and_true, Nat.reduceEqDiff, reduceCtorEq, List.length_cons, List.length_nil, Nat.reduceAdd, Nat.reduceLeDiff, Nat.reduceSub, Nat.reduceLT, Nat.zero_le, Nat.zero_add, forall_const, not_true_eq_false, not_false_eq_true, false_implies, true_implies, implies_true, Nat.zero_lt_succ, am_z0, am_z1]
      try simp (disch := omega) only [hs_at, hs_put, hs_63, NH_at, NH_put, NH_cpy, ni_add, ni_mul, ni_clamp, ni_in, ni_eq, ni_lt, ni_le, ni_sub, Nat.reduceAdd, Nat.reduceMul, Nat.reduceSub, eq_self, true_implies, not_true_eq_false, false_implies, and_true, true_and, not_false_eq_true, Nat.reduceEqDiff, Nat.reduceLeDiff, Nat.reduceLT, implies_true, ite_true, ite_false]
      refine ⟨fun z => ?_, fun z => ?_⟩
      · rw [if_neg (by omega)] at hpn
        exact h0 hpn.symm c1 ra fz
      · rw [if_pos (by omega)] at hpn
        have hL1 : LC c1 lw := by
          unfold LC at *
          rw [fz.1 17 (by omega), fz.1 18 (by omega)]
          exact hL
        have := c_choose (E := E) (d := d + 8 - 5 - n) (n := n) hp hW ht hok hcw (by omega) (by omega) n [] 0 (d + 8) c1
        refine this _ (by omega) (by simp) (by omega) (Nat.le_refl _) trivial ra hL1 vi (by rw [fz.2 3 (by omega)]; exact h3) (fun i hi => by rw [fz.1 24 (by omega)]; exact h24 i hi) (fun l hl c2 r2 v2 f2 cs2 ll => ?_) (fun hl c2 r2 v2 f2 cs2 => ?_)
        · try simp (disch := omega) only [hs_at, hs_put, hs_63, NH_at, NH_put, NH_cpy, ni_add, ni_mul, ni_clamp, ni_in, ni_eq, ni_lt, ni_le, ni_sub, Nat.reduceAdd, Nat.reduceMul, Nat.reduceSub, eq_self, true_implies, not_true_eq_false, false_implies, and_true, true_and, not_false_eq_true, Nat.reduceEqDiff, Nat.reduceLeDiff, Nat.reduceLT, implies_true, ite_true, ite_false]
          rw [hl] at hpn
          have := h1 l hpn.symm c2 r2 (fz.trans f2) cs2 (by omega)
          rw [ll] at this
          exact this
        · try simp (disch := omega) only [hs_at, hs_put, hs_63, NH_at, NH_put, NH_cpy, ni_add, ni_mul, ni_clamp, ni_in, ni_eq, ni_lt, ni_le, ni_sub, Nat.reduceAdd, Nat.reduceMul, Nat.reduceSub, eq_self, true_implies, not_true_eq_false, false_implies, and_true, true_and, not_false_eq_true, Nat.reduceEqDiff, Nat.reduceLeDiff, Nat.reduceLT, implies_true, ite_true, ite_false]
          rw [hl] at hpn
          exact ih (n + 1) c2 (by omega) (by omega) hpn r2 v2 (fz.trans f2)
  exact loop 4 0 c rfl (by omega) rfl hA hVI (FZ.refl c)
end CPLAN
