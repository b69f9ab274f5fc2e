/-! ===== part 92: text of the reference, all ===== -/
/-- what text leaves alone -/
def TX (h h' : am_H) : Prop := (∀ o, o ≠ 63 → o ≠ 68 → o ≠ 69 → h' o = h o) ∧ (∀ k, k < 11 ∨ 22 < k → h' 63 k = h 63 k) ∧ h' 63 13 = nI 0 ∧ ∃ v, v ≤ 9999 ∧ h' 63 17 = nI v
section RITEXT
variable {E : am_E} {d : Nat} {h : am_H} {Q : Int32 → am_H → Prop} {g : Nat → Nat} {T : Nat → Nat} {n cnt : Nat}
theorem TK_n : TK T n n = tEND := by
  have hb := POS_b (T := T) (n := n) n
  have e : POS T n n = n := by
    by_cases z : POS T n n < n
    · have := hb.2.2.1 z; omega
    · omega
  unfold TK tkC
  rw [e, if_pos (Nat.le_refl _)]
theorem r_txend {i o k : Nat} {st : List (Nat × Nat)} {hh : am_H} {lw : Lw} (hk : k ≤ 16) (hst : st.length ≤ 400) (hps : PS T n i st o hh) (h11 : hh 63 11 = nI k) (hfr : (∀ o, o ≠ 63 → o ≠ 68 → o ≠ 69 → hh o = h o) ∧ ∀ k, k < 11 ∨ 22 < k → hh 63 k = h 63 k) (hfl : FL (hh 68) lw 0 0) (hsw : stW lw = st) (hkl : lw.length = k) (hlok : LOK lw)
    (h1 : ∀ (g' : Nat → Nat) (h' : am_H), LRl g' lw 0 0 → (∀ j, j < 865 → g' j = g j) → TX h h' → h' 63 20 = nI 0 → h' 63 22 = -1 → Q (nI k) (hs h' g')) :
    am_R tT E d mX12_text Q 63 [some (.inr 63), some (.inl (nI 1)), none] [] (hs hh g) := by
  obtain ⟨hR, e12, hsf, e21, e18⟩ := hps
  have hR2 := hR
  obtain ⟨-, -, -, -, v, hv, e17, -⟩ := hR2
  have hslot : ∀ (h1 : am_H) (k j : Nat) (v : Int32), am_upd h1 63 k v 63 j = if j = k then v else h1 63 j := fun h1 k j v => by rw [am_upd_self]; rfl
  refine am_goS gX12_text [98] 400 ?_
  simp only [am_eqs, am_eqk, am_eqv, lX12_text_0, lX12_text_1, lX12_text_2, lX12_text_3, lX12_text_4, lX12_text_5, fx_ref, ↓reduceIte, List.mem_cons, List.not_mem_nil, or_false, or_self, false_or, true_and, and_true, Nat.reduceEqDiff, reduceCtorEq, List.length_cons, List.length_nil, Nat.reduceAdd, Nat.reduceLeDiff, Nat.reduceSub, Nat.reduceLT, Nat.zero_le, Nat.zero_add, forall_const, not_true_eq_false, not_false_eq_true, false_implies, true_implies, implies_true, Nat.zero_lt_succ, am_z0, am_z1]
  have k18 : am_upd hh 63 13 (nI 0) 63 18 = nI 0 := by rw [hslot, if_neg (by omega)]; exact e18
  try simp (disch := omega) only [hs_at, hs_put, hs_63, NH_at, NH_put, NH_cpy, ni_add, ni_mul, ni_clamp, ni_in, ni_eq, ni_lt, ni_le, ni_sub, Nat.reduceAdd, Nat.reduceMul, Nat.reduceSub, eq_self, true_implies, not_true_eq_false, false_implies, and_true, true_and, not_false_eq_true, Nat.reduceEqDiff, Nat.reduceLeDiff, Nat.reduceLT, implies_true, ite_true, ite_false, hs_63, hs_up63, k18]
  generalize hh3 : am_upd (am_upd (am_upd hh 63 13 (nI 0)) 63 20 (nI 0)) 63 22 (-1) = h3
  have f63 : ∀ j, j ≠ 13 → j ≠ 20 → j ≠ 22 → h3 63 j = hh 63 j := fun j x y z => by rw [← hh3, hslot, if_neg z, hslot, if_neg y, hslot, if_neg x]
  have f0 : ∀ o, o ≠ 63 → h3 o = hh o := fun o ho => by rw [← hh3, am_upd_ne _ _ _ ho, am_upd_ne _ _ _ ho, am_upd_ne _ _ _ ho]
  have g13 : h3 63 13 = nI 0 := by rw [← hh3, hslot, if_neg (by omega), hslot, if_neg (by omega), hslot, if_pos rfl]
  have g20 : h3 63 20 = nI 0 := by rw [← hh3, hslot, if_neg (by omega), hslot, if_pos rfl]
  have g22 : h3 63 22 = -1 := by rw [← hh3, hslot, if_pos rfl]
  refine r_store hk hst (by rw [f63 11 (by omega) (by omega) (by omega)]; exact h11) (by rw [f63 12 (by omega) (by omega) (by omega)]; exact e12) (fun g' u1 u2 u3 u4 => ?_)
  refine h1 g' h3 ?_ u1 ⟨fun o x y z => by rw [f0 o x]; exact hfr.1 o x y z, fun j hj => by rw [f63 j (by omega) (by omega) (by omega)]; exact hfr.2 j hj, g13, v, hv, by rw [f63 17 (by omega) (by omega) (by omega)]; exact e17⟩ g20 g22
  refine LR_of (h := h3) lw 0 0 (by rw [f0 68 (by omega)]; exact hfl) (by rw [f0 69 (by omega), hsw]; exact hsf) (fun l hl => (hlok l hl).1) (by omega) (by rw [hsw]; omega) (by omega) (fun j hj1 hj2 => u3 j (by omega)) (fun j hj1 hj2 => u4 j (by rw [hsw] at hj2; omega))
theorem r_txbad {e j : Nat} {hh : am_H} (her : ER T n e j hh) (hfr : (∀ o, o ≠ 63 → o ≠ 68 → o ≠ 69 → hh o = h o) ∧ ∀ k, k < 11 ∨ 22 < k → hh 63 k = h 63 k) (h0 : ∀ h' : am_H, TX h h' → h' 63 20 = nI e → h' 63 22 = nI (POS T n j) → Q (-1) (hs h' g)) :
    am_R tT E d mX12_text Q 63 [some (.inr 63), some (.inl (nI 0)), none] [] (hs hh g) := by
  obtain ⟨e18, e19, v, hv, e17⟩ := her
  have hslot : ∀ (h1 : am_H) (k j : Nat) (v : Int32), am_upd h1 63 k v 63 j = if j = k then v else h1 63 j := fun h1 k j v => by rw [am_upd_self]; rfl
  refine am_goS gX12_text [98] 400 ?_
  simp only [am_eqs, am_eqk, am_eqv, lX12_text_0, lX12_text_1, lX12_text_2, lX12_text_3, lX12_text_4, lX12_text_5, fx_ref, ↓reduceIte, List.mem_cons, List.not_mem_nil, or_false, or_self, false_or, true_and, and_true, Nat.reduceEqDiff, reduceCtorEq, List.length_cons, List.length_nil, Nat.reduceAdd, Nat.reduceLeDiff, Nat.reduceSub, Nat.reduceLT, Nat.zero_le, Nat.zero_add, forall_const, not_true_eq_false, not_false_eq_true, false_implies, true_implies, implies_true, Nat.zero_lt_succ, am_z0, am_z1]
  have k18 : am_upd hh 63 13 (nI 0) 63 18 = nI e := by rw [hslot, if_neg (by omega)]; exact e18
  have k19 : am_upd (am_upd hh 63 13 (nI 0)) 63 20 (nI e) 63 19 = nI (POS T n j) := by rw [hslot, if_neg (by omega), hslot, if_neg (by omega)]; exact e19
  try simp (disch := omega) only [hs_at, hs_put, hs_63, NH_at, NH_put, NH_cpy, ni_add, ni_mul, ni_clamp, ni_in, ni_eq, ni_lt, ni_le, ni_sub, Nat.reduceAdd, Nat.reduceMul, Nat.reduceSub, eq_self, true_implies, not_true_eq_false, false_implies, and_true, true_and, not_false_eq_true, Nat.reduceEqDiff, Nat.reduceLeDiff, Nat.reduceLT, implies_true, ite_true, ite_false, hs_63, hs_up63, k18, k19]
  refine h0 _ ⟨fun o x y z => ?_, fun k hk => ?_, ?_, v, hv, ?_⟩ ?_ ?_
  · rw [am_upd_ne _ _ _ x, am_upd_ne _ _ _ x, am_upd_ne _ _ _ x]; exact hfr.1 o x y z
  · rw [hslot, if_neg (by omega), hslot, if_neg (by omega), hslot, if_neg (by omega)]; exact hfr.2 k hk
  · rw [hslot, if_neg (by omega), hslot, if_neg (by omega), hslot, if_pos rfl]
  · rw [hslot, if_neg (by omega), hslot, if_neg (by omega), hslot, if_neg (by omega)]; exact e17
  · rw [hslot, if_neg (by omega), hslot, if_pos rfl]
  · rw [hslot, if_pos rfl]
theorem ri_text {v : Nat} (hR : RTp T n h) (h17 : h 63 17 = nI v) (hv : v ≤ 9999)
    (h1 : ∀ ls, txL (TK T n) 402 0 0 = .inr ls → ∀ (lw : Lw) (g' : Nat → Nat) (h' : am_H), mapL lw = ls → LOK lw → lw.length ≤ 16 → LRl g' lw 0 0 → (∀ j, j < 865 → g' j = g j) → TX h h' → h' 63 20 = nI 0 → h' 63 22 = -1 → Q (nI lw.length) (hs h' g'))
    (h0 : ∀ e j, txL (TK T n) 402 0 0 = .inl (e, j) → ∀ h' : am_H, TX h h' → h' 63 20 = nI e → h' 63 22 = nI (POS T n j) → Q (-1) (hs h' g)) :
    am_C tT E (d + 39) mX12_text [.inr 63] (hs h g) Q := by
  have hn := hR.2.1
  have hA : TK T n n = tEND := TK_n
  have hslot : ∀ (h1 : am_H) (k j : Nat) (v : Int32), am_upd h1 63 k v 63 j = if j = k then v else h1 63 j := fun h1 k j v => by rw [am_upd_self]; rfl
  generalize hRR : txL (TK T n) 402 0 0 = RR at h1 h0
  have loop : ∀ m i o k (st : List (Nat × Nat)) (lw : Lw) (hh : am_H), n < i + m → i ≤ n → st.length ≤ i → k ≤ 16 → PS T n i st o hh → hh 63 11 = nI k → ((∀ o, o ≠ 63 → o ≠ 68 → o ≠ 69 → hh o = h o) ∧ ∀ k, k < 11 ∨ 22 < k → hh 63 k = h 63 k) → FL (hh 68) lw 0 0 → stW lw = st → lw.length = k → LOK lw → RR = preL (mapL lw) (txL (TK T n) m i k) → am_R tT E (d + 39) mX12_text Q 26 [some (.inr 63), some (.inl (nI 1)), none] [] (hs hh g) := by
    intro m
    induction m with
    | zero => intro i o k st lw hh hm hi; omega
    | succ m ih =>
      intro i o k st lw hh hm hi hst hk hps h11 hfr hfl hsw hkl hlok heq
      have hb := TK_b (T := T) (n := n) i
      have htk := hps.tk
      have hlt := rT_lt hb
      have sE := (rT_w hb).2.2.2.2
      rw [txL] at heq
      refine am_goS gX12_text [26, 63] 400 ?_
      simp only [am_eqs, am_eqk, am_eqv, lX12_text_0, lX12_text_1, lX12_text_2, lX12_text_3, lX12_text_4, lX12_text_5, fx_ref, ↓reduceIte, List.mem_cons, List.not_mem_nil, or_false, or_self, false_or, true_and, and_true, Nat.reduceEqDiff, reduceCtorEq, List.length_cons, List.length_nil, Nat.reduceAdd, Nat.reduceLeDiff, Nat.reduceSub, Nat.reduceLT, Nat.zero_le, Nat.zero_add, forall_const, not_true_eq_false, not_false_eq_true, false_implies, true_implies, implies_true, Nat.zero_lt_succ, am_z0, am_z1]
      try simp (disch := omega) only [hs_at, hs_put, hs_63, NH_at, NH_put, NH_cpy, ni_add, ni_mul, ni_clamp, ni_in, ni_eq, ni_lt, ni_le, ni_sub, Nat.reduceAdd, Nat.reduceMul, Nat.reduceSub, eq_self, true_implies, not_true_eq_false, false_implies, and_true, true_and, not_false_eq_true, Nat.reduceEqDiff, Nat.reduceLeDiff, Nat.reduceLT, implies_true, ite_true, ite_false, hs_63, htk]
      refine ⟨fun z => ?_, fun z => ?_⟩
      · rw [if_pos (sE.mp z)] at heq
        refine r_txend hk (by omega) hps h11 hfr hfl hsw hkl hlok (fun g' h' a1 a2 a3 a4 a5 => ?_)
        have := h1 (mapL lw) (by rw [heq]; simp [preL]) lw g' h' rfl hlok (by omega) a1 a2 a3 a4 a5
        rw [hkl] at this
        exact this
      · rw [if_neg (fun q => z (sE.mpr q))] at heq
        refine r_aLine hA hn hps hi hst hk h11 (fun i' w l hl h2 st' w1 ii ic k16 t' ty' sl p2 a68 b68 c68 d68 f2 => ?_) (fun e j hl h2 er f2 => ?_)
        · rw [hl] at heq
          simp only at heq
          have k11 : h2 63 11 = nI k := by rw [f2.2 11 (by omega)]; exact h11
          have hps3 : PS T n i' (st ++ st') 0 (am_upd h2 63 11 (nI (k + 1))) := by
            obtain ⟨hR2, e12, hsf, e21, e18⟩ := p2
            refine ⟨hR2.cg (am_upd_ne _ _ _ (by omega)) (fun k x y => ?_), ?_, ?_, ?_, ?_⟩
            · rw [hslot, if_neg (by omega)]
            · rw [hslot, if_neg (by omega)]; exact e12
            · rw [am_upd_ne _ _ _ (by omega)]; exact hsf
            · rw [hslot, if_neg (by omega)]; exact e21
            · rw [hslot, if_neg (by omega)]; exact e18
          try simp (disch := omega) only [hs_at, hs_put, hs_63, NH_at, NH_put, NH_cpy, ni_add, ni_mul, ni_clamp, ni_in, ni_eq, ni_lt, ni_le, ni_sub, Nat.reduceAdd, Nat.reduceMul, Nat.reduceSub, eq_self, true_implies, not_true_eq_false, false_implies, and_true, true_and, not_false_eq_true, Nat.reduceEqDiff, Nat.reduceLeDiff, Nat.reduceLT, implies_true, ite_true, ite_false, hs_63, k11, hs_up63]
          refine ih i' 0 (k + 1) (st ++ st') (lw ++ [(w, st')]) (am_upd h2 63 11 (nI (k + 1))) (by omega) ic sl (by omega) hps3 (by rw [hslot, if_pos rfl]) ⟨fun o x y z => ?_, fun j hj => ?_⟩ ?_ (by rw [stW_snoc, hsw]) (by simp; omega) (fun x hx => ?_) ?_
          · rw [am_upd_ne _ _ _ x, f2.1 o x y z]; exact hfr.1 o x y z
          · rw [hslot, if_neg (by omega), f2.2 j (by omega)]; exact hfr.2 j hj
          · rw [am_upd_ne _ _ _ (by omega)]
            refine FL_snoc lw 0 0 (FL_cg lw 0 0 (fun j hj => d68 j (by omega)) hfl) ?_ ?_ ?_
            · rw [Nat.zero_add, hkl]; exact a68
            · rw [Nat.zero_add, hkl, Nat.zero_add, hsw]; exact b68
            · rw [Nat.zero_add, hkl, Nat.zero_add, hsw]; exact c68
          · rcases List.mem_append.mp hx with hx | hx
            · exact hlok x hx
            · rw [List.mem_singleton.mp hx]
              refine ⟨w1, ?_⟩
              rcases ty' with e | ty'
              · exact Or.inl e
              · exact Or.inr (ty' [] (by simp))
          · rw [heq, mapL_snoc]
            cases txL (TK T n) m i' (k + 1) with
            | inl e => rfl
            | inr ls => simp [preL, t']
        · rw [hl] at heq
          have k11 : h2 63 11 = nI k := by rw [f2.2 11 (by omega)]; exact h11
          try simp (disch := omega) only [hs_at, hs_put, hs_63, NH_at, NH_put, NH_cpy, ni_add, ni_mul, ni_clamp, ni_in, ni_eq, ni_lt, ni_le, ni_sub, Nat.reduceAdd, Nat.reduceMul, Nat.reduceSub, eq_self, true_implies, not_true_eq_false, false_implies, and_true, true_and, not_false_eq_true, Nat.reduceEqDiff, Nat.reduceLeDiff, Nat.reduceLT, implies_true, ite_true, ite_false, hs_63, k11, hs_up63, Nat.add_zero]
          have er3 : ER T n e j (am_upd h2 63 11 (nI k)) := by
            obtain ⟨q1, q2, v, q3, q4⟩ := er
            exact ⟨by rw [hslot, if_neg (by omega)]; exact q1, by rw [hslot, if_neg (by omega)]; exact q2, v, q3, by rw [hslot, if_neg (by omega)]; exact q4⟩
          refine am_goS gX12_text [63, 30] 400 ?_
          simp only [am_eqs, am_eqk, am_eqv, lX12_text_0, lX12_text_1, lX12_text_2, lX12_text_3, lX12_text_4, lX12_text_5, fx_ref, ↓reduceIte, List.mem_cons, List.not_mem_nil, or_false, or_self, false_or, true_and, and_true, Nat.reduceEqDiff, reduceCtorEq, List.length_cons, List.length_nil, Nat.reduceAdd, Nat.reduceLeDiff, Nat.reduceSub, Nat.reduceLT, Nat.zero_le, Nat.zero_add, forall_const, not_true_eq_false, not_false_eq_true, false_implies, true_implies, implies_true, Nat.zero_lt_succ, am_z0, am_z1]
          refine r_txbad er3 ⟨fun o x y z => ?_, fun j hj => ?_⟩ (fun h' a1 a2 a3 => h0 e j (by rw [heq]; rfl) h' a1 a2 a3)
          · rw [am_upd_ne _ _ _ x, f2.1 o x y z]; exact hfr.1 o x y z
          · rw [hslot, if_neg (by omega), f2.2 j (by omega)]; exact hfr.2 j hj
  obtain ⟨o, -, ho⟩ := ni_all (h 63 21)
  refine am_C.of (by decide) (Nat.le_of_ble_eq_true rfl) ?_
  show am_R tT E _ mX12_text _ 0 [some (.inr 63), none, none] [] (hs h g)
  refine am_goS gX12_text [26] 400 ?_
  simp only [am_eqs, am_eqk, am_eqv, lX12_text_0, lX12_text_1, lX12_text_2, lX12_text_3, lX12_text_4, lX12_text_5, fx_ref, ↓reduceIte, List.mem_cons, List.not_mem_nil, or_false, or_self, false_or, true_and, and_true, Nat.reduceEqDiff, reduceCtorEq, List.length_cons, List.length_nil, Nat.reduceAdd, Nat.reduceLeDiff, Nat.reduceSub, Nat.reduceLT, Nat.zero_le, Nat.zero_add, forall_const, not_true_eq_false, not_false_eq_true, false_implies, true_implies, implies_true, Nat.zero_lt_succ, am_z0, am_z1]
  try simp (disch := omega) only [hs_at, hs_put, hs_63, NH_at, NH_put, NH_cpy, ni_add, ni_mul, ni_clamp, ni_in, ni_eq, ni_lt, ni_le, ni_sub, Nat.reduceAdd, Nat.reduceMul, Nat.reduceSub, eq_self, true_implies, not_true_eq_false, false_implies, and_true, true_and, not_false_eq_true, Nat.reduceEqDiff, Nat.reduceLeDiff, Nat.reduceLT, implies_true, ite_true, ite_false, hs_up63]
  generalize hh2 : am_upd (am_upd (am_upd (am_upd h 63 18 (nI 0)) 63 14 (nI 0)) 63 11 (nI 0)) 63 12 (nI 0) = h2
  have f63 : ∀ j, j ≠ 18 → j ≠ 14 → j ≠ 11 → j ≠ 12 → h2 63 j = h 63 j := fun j x y z w => by rw [← hh2, hslot, if_neg w, hslot, if_neg z, hslot, if_neg y, hslot, if_neg x]
  have f0 : ∀ o, o ≠ 63 → h2 o = h o := fun o ho => by rw [← hh2, am_upd_ne _ _ _ ho, am_upd_ne _ _ _ ho, am_upd_ne _ _ _ ho, am_upd_ne _ _ _ ho]
  have g14 : h2 63 14 = nI 0 := by rw [← hh2, hslot, if_neg (by omega), hslot, if_neg (by omega), hslot, if_pos rfl]
  have g18 : h2 63 18 = nI 0 := by rw [← hh2, hslot, if_neg (by omega), hslot, if_neg (by omega), hslot, if_neg (by omega), hslot, if_pos rfl]
  have g11 : h2 63 11 = nI 0 := by rw [← hh2, hslot, if_neg (by omega), hslot, if_pos rfl]
  have g12 : h2 63 12 = nI 0 := by rw [← hh2, hslot, if_pos rfl]
  have hR2 : RTp T n h2 := ⟨by rw [f63 13 (by omega) (by omega) (by omega) (by omega)]; exact hR.1, hR.2.1, by rw [f0 70 (by omega)]; exact hR.2.2.1, hR.2.2.2⟩
  refine r_next0 (i := 0) hR2 g14 (Nat.zero_le _) rfl (by rw [f63 17 (by omega) (by omega) (by omega) (by omega)]; exact h17) hv (fun h3 r3 a1 a2 => ?_)
  refine loop 402 0 o 0 [] [] h3 (by omega) (Nat.zero_le _) (by simp) (by omega) ⟨r3, by rw [a2 12 (by omega)]; exact g12, trivial, ?_, by rw [a2 18 (by omega)]; exact g18⟩ (by rw [a2 11 (by omega)]; exact g11) ⟨fun o x y z => by rw [a1 o x]; exact f0 o x, fun k hk => by rw [a2 k (by omega)]; exact f63 k (by omega) (by omega) (by omega) (by omega)⟩ trivial rfl rfl (fun l hl => by cases hl) ?_
  · rw [a2 21 (by omega), f63 21 (by omega) (by omega) (by omega) (by omega)]; exact ho
  · rw [hRR]
    cases RR with
    | inl e => rfl
    | inr ls => rfl
end RITEXT
