/-! ===== part 55: the class's walk comes back; behind ===== -/
section CWB
variable {E : am_E} {d : Nat} {h : am_H} {Q : Int32 → am_H → Prop} {g g0 : Nat → Nat} {c : Nat → Nat → Nat} {t : Nat}
def lcl (k : Nat) : Int32 := if k = 0 then -1 else nI (k - 1)
theorem lcl_s (k : Nat) : lcl (k + 1) = nI k := rfl
theorem lcl_sub (k : Nat) : nI k - nI 1 = lcl k := by
  cases k with
  | zero => decide
  | succ k => rw [lcl_s, ni_sub (by omega), Nat.add_sub_cancel]
theorem lcl_add (k : Nat) : nI k + (-1) = lcl k := by
  rw [← lcl_sub]
  exact (Int32.sub_eq_add_neg (nI k) (nI 1)).symm
theorem un_ni {b : Nat} (hb : b < 4294967296) : un (nI b) = b := by
  have h1 := ni_un (nI b)
  have h2 : un (nI b) < 4294967296 := (nI b).toBitVec.isLt
  rw [ni_eq h2 hb] at h1
  exact h1
theorem c_wback {lw : Lw} {p n : Nat} {f : Nat → Nat} (hf : f = c 24) (hp : p < g 1) (hn12 : n ≤ 12) (hst : ∀ i, i ≤ n → ∀ j, j < 90 ∨ 460 ≤ j → wkS lw p f g i j = g j) (hA : RAt (wkS lw p f g n) c) (hwb : WB lw p t f g c n) (h6 : c 23 6 = n) (w1 : g 1 ≤ 8) (w2 : g 2 ≤ 12) (hq : ∀ c', RAt g c' → FP c c' → Q 0 (NH c')) : am_C tT E (d + 3) mX9_back [.inr 23, .inl (nI p)] (NH c) Q := by
  refine am_C.of (by decide) (Nat.le_of_ble_eq_true rfl) ?_
  show am_R tT E _ mX9_back _ 0 [some (.inr 23), some (.inl (nI p)), none] [] (NH c)
  refine am_goS gX9_back [7] 400 ?_
  simp only [am_eqs, am_eqk, am_eqv, lX9_back_0, lX9_back_1, fx_class, NH_at, NH_put, ↓reduceIte, List.mem_cons, List.not_mem_nil, or_false, or_self, false_or, true_and, and_true, Nat.reduceEqDiff, reduceCtorEq, List.length_cons, List.length_nil, Nat.reduceAdd, Nat.reduceLeDiff, Nat.reduceSub, Nat.reduceLT, Nat.zero_le, Nat.zero_add, forall_const, not_true_eq_false, not_false_eq_true, false_implies, true_implies, implies_true, Nat.zero_lt_succ, am_z0, am_z1]
  rw [h6, lcl_sub]
  have loop : ∀ k (c1 : Nat → Nat → Nat), k ≤ n → RAt (wkS lw p f g k) c1 → FP c c1 → am_R tT E (d + 3) mX9_back Q 7 [some (.inr 23), some (.inl (nI p)), some (.inl (lcl k))] [] (NH c1) := by
    intro k
    induction k with
    | zero =>
      intro c1 hk hA1 hf1
      refine am_goS gX9_back [7] 400 ?_
      simp only [am_eqs, am_eqk, am_eqv, lX9_back_0, lX9_back_1, fx_class, NH_at, NH_put, ↓reduceIte, List.mem_cons, List.not_mem_nil, or_false, or_self, false_or, true_and, and_true, Nat.reduceEqDiff, reduceCtorEq, List.length_cons, List.length_nil, Nat.reduceAdd, Nat.reduceLeDiff, Nat.reduceSub, Nat.reduceLT, Nat.zero_le, Nat.zero_add, forall_const, not_true_eq_false, not_false_eq_true, false_implies, true_implies, implies_true, Nat.zero_lt_succ, am_z0, am_z1]
      exact ⟨fun _ => hq c1 hA1 hf1, fun z => absurd (show lcl 0 < nI 0 by decide) z⟩
    | succ k ih =>
      intro c1 hk hA1 hf1
      obtain ⟨hWk, hb, htou, hd2, e25, e26⟩ := hwb k (by omega)
      have s1 : wkS lw p f g k 1 = g 1 := hst k (by omega) 1 (by omega)
      have s2 : wkS lw p f g k 2 = g 2 := hst k (by omega) 2 (by omega)
      have x24 : c1 24 k = f k := by rw [hf1 24 (by omega) (by omega) (by omega) (by omega) (by omega), hf]
      have x25 : c1 25 k = duG (wkS lw p f g k) lw p (f k) := by rw [hf1 25 (by omega) (by omega) (by omega) (by omega) (by omega)]; exact e25
      have x26 : c1 26 k = c 26 k := by rw [hf1 26 (by omega) (by omega) (by omega) (by omega) (by omega)]
      rw [wkS] at hA1
      rw [lcl_s]
      refine am_goS gX9_back [7] 400 ?_
      simp only [am_eqs, am_eqk, am_eqv, lX9_back_0, lX9_back_1, fx_class, NH_at, NH_put, ↓reduceIte, List.mem_cons, List.not_mem_nil, or_false, or_self, false_or, true_and, and_true, Nat.reduceEqDiff, reduceCtorEq, List.length_cons, List.length_nil, Nat.reduceAdd, Nat.reduceLeDiff, Nat.reduceSub, Nat.reduceLT, Nat.zero_le, Nat.zero_add, forall_const, not_true_eq_false, not_false_eq_true, false_implies, true_implies, implies_true, Nat.zero_lt_succ, am_z0, am_z1]
      simp (disch := omega) only [hs_at, hs_put, hs_63, NH_at, NH_put, NH_cpy, ni_add, ni_mul, ni_clamp, ni_in, ni_eq, ni_lt, ni_le, ni_sub, Nat.reduceAdd, Nat.reduceMul, Nat.reduceSub, eq_self, true_implies, not_true_eq_false, false_implies, and_true, true_and, not_false_eq_true, Nat.reduceEqDiff, Nat.reduceLeDiff, Nat.reduceLT, implies_true, ite_true, ite_false, x24, x25, x26]
      refine ⟨fun z => absurd z (by omega), fun _ => ⟨by omega, by omega, by omega, ?_⟩⟩
      rw [lcl_add]
      by_cases hd : duG (wkS lw p f g k) lw p (f k) = 100
      · unfold stG at hA1
        rw [if_pos hd] at hA1
        rw [hd]
        refine c_backF (g := wkS lw p f g k) (t := t + k) (by omega) hb htou hWk hA1 (fun c2 ra fp => ?_)
        exact ih c2 (by omega) ra (hf1.trans fp)
      · unfold stG at hA1
        rw [if_neg hd] at hA1
        have ho := duG_o (hWk.p (show p < 8 by omega)).2.2.1 hd hd2
        rw [e26 hd]
        refine c_backO (g := wkS lw p f g k) (t := t + k) (by omega) hb ho rfl htou hWk hA1 (fun c2 ra fp => ?_)
        exact ih c2 (by omega) ra (hf1.trans fp)
  exact loop n c (Nat.le_refl _) hA (fun _ _ _ _ _ _ => rfl)
theorem wkS_st {lw : Lw} {p n : Nat} {f : Nat → Nat} (hp : p < 8) (hwb : WB lw p t f g c n) (w2 : g 2 ≤ 12) : ∀ i, i ≤ n → ∀ j, j < 90 ∨ 460 ≤ j → wkS lw p f g i j = g j := by
  intro i
  induction i with
  | zero => intro _ j _; rfl
  | succ i ih =>
    intro hi j hj
    obtain ⟨hWk, hb, htou, hd2, e25, e26⟩ := hwb i (by omega)
    have h2 := ih (by omega) 2 (by omega)
    rw [wkS, st_off hp (by omega) hWk hd2 hj]
    exact ih (by omega) j hj
theorem c_startWay {a b c' d' e : Int32} (hq : ∀ (L : Nat) (c2 : Nat → Nat → Nat), L ≤ 5 → (∀ i, i < L → A5 a b c' d' e i ≠ -1) → (L < 5 → A5 a b c' d' e L = -1) → (∀ i, i < 5 → c2 24 i = un (A5 a b c' d' e i)) → c2 23 3 = L → (∀ k, k ≠ 3 → c2 23 k = c 23 k) → (∀ o, o ≠ 23 → o ≠ 24 → c2 o = c o) → Q 0 (NH c2)) : am_C tT E d mX9_startWay [.inr 23, .inl a, .inl b, .inl c', .inl d', .inl e] (NH c) Q := by
  refine am_C.of (by decide) (Nat.le_of_ble_eq_true rfl) ?_
  show am_R tT E _ mX9_startWay _ 0 [some (.inr 23), some (.inl a), some (.inl b), some (.inl c'), some (.inl d'), some (.inl e)] [] (NH c)
  refine am_goS gX9_startWay [42] 400 ?_
  simp only [am_eqs, am_eqk, am_eqv, lX9_startWay_0, lX9_startWay_1, fx_class, NH_at, NH_put, ↓reduceIte, List.mem_cons, List.not_mem_nil, or_false, or_self, false_or, true_and, and_true, Nat.reduceEqDiff, reduceCtorEq, List.length_cons, List.length_nil, Nat.reduceAdd, Nat.reduceLeDiff, Nat.reduceSub, Nat.reduceLT, Nat.zero_le, Nat.zero_add, forall_const, not_true_eq_false, not_false_eq_true, false_implies, true_implies, implies_true, Nat.zero_lt_succ, am_z0, am_z1]
  simp (disch := omega) only [hs_at, hs_put, hs_63, NH_at, NH_put, NH_cpy, ni_add, ni_mul, ni_clamp, ni_in, ni_eq, ni_lt, ni_le, ni_sub, Nat.reduceAdd, Nat.reduceMul, Nat.reduceSub, eq_self, true_implies, not_true_eq_false, false_implies, and_true, true_and, not_false_eq_true, Nat.reduceEqDiff, Nat.reduceLeDiff, Nat.reduceLT, implies_true, ite_true, ite_false, NH_putv]
  rw [un_ni (by omega)]
  have loop : ∀ n k (c1 : Nat → Nat → Nat), k + n = 5 → c1 23 3 = k → (∀ i, i < 5 → c1 24 i = un (A5 a b c' d' e i)) → (∀ i, i < k → A5 a b c' d' e i ≠ -1) → (∀ k, k ≠ 3 → c1 23 k = c 23 k) → (∀ o, o ≠ 23 → o ≠ 24 → c1 o = c o) → am_R tT E d mX9_startWay Q 42 [some (.inr 23), some (.inl a), some (.inl b), some (.inl c'), some (.inl d'), some (.inl e)] [] (NH c1) := by
    intro n
    induction n with
    | zero =>
      intro k c1 hk e3 hw hne h23 hfr
      refine am_goS gX9_startWay [42] 400 ?_
      simp only [am_eqs, am_eqk, am_eqv, lX9_startWay_0, lX9_startWay_1, fx_class, NH_at, NH_put, ↓reduceIte, List.mem_cons, List.not_mem_nil, or_false, or_self, false_or, true_and, and_true, Nat.reduceEqDiff, reduceCtorEq, List.length_cons, List.length_nil, Nat.reduceAdd, Nat.reduceLeDiff, Nat.reduceSub, Nat.reduceLT, Nat.zero_le, Nat.zero_add, forall_const, not_true_eq_false, not_false_eq_true, false_implies, true_implies, implies_true, Nat.zero_lt_succ, am_z0, am_z1]
      simp (disch := omega) only [hs_at, hs_put, hs_63, NH_at, NH_put, NH_cpy, ni_add, ni_mul, ni_clamp, ni_in, ni_eq, ni_lt, ni_le, ni_sub, Nat.reduceAdd, Nat.reduceMul, Nat.reduceSub, eq_self, true_implies, not_true_eq_false, false_implies, and_true, true_and, not_false_eq_true, Nat.reduceEqDiff, Nat.reduceLeDiff, Nat.reduceLT, implies_true, ite_true, ite_false, e3]
      exact ⟨fun _ => hq k c1 (by omega) hne (fun z => absurd z (by omega)) hw e3 h23 hfr, fun z => absurd z (by omega)⟩
    | succ n ih =>
      intro k c1 hk e3 hw hne h23 hfr
      have hwk : nI (c1 24 k) = A5 a b c' d' e k := by rw [hw k (by omega), ni_un]
      refine am_goS gX9_startWay [42] 400 ?_
      simp only [am_eqs, am_eqk, am_eqv, lX9_startWay_0, lX9_startWay_1, fx_class, NH_at, NH_put, ↓reduceIte, List.mem_cons, List.not_mem_nil, or_false, or_self, false_or, true_and, and_true, Nat.reduceEqDiff, reduceCtorEq, List.length_cons, List.length_nil, Nat.reduceAdd, Nat.reduceLeDiff, Nat.reduceSub, Nat.reduceLT, Nat.zero_le, Nat.zero_add, forall_const, not_true_eq_false, not_false_eq_true, false_implies, true_implies, implies_true, Nat.zero_lt_succ, am_z0, am_z1]
      simp (disch := omega) only [hs_at, hs_put, hs_63, NH_at, NH_put, NH_cpy, ni_add, ni_mul, ni_clamp, ni_in, ni_eq, ni_lt, ni_le, ni_sub, Nat.reduceAdd, Nat.reduceMul, Nat.reduceSub, eq_self, true_implies, not_true_eq_false, false_implies, and_true, true_and, not_false_eq_true, Nat.reduceEqDiff, Nat.reduceLeDiff, Nat.reduceLT, implies_true, ite_true, ite_false, e3]
      rw [hwk]
      refine ⟨fun z => absurd z (by omega), fun _ => ⟨by omega, fun z => ?_, fun z => ?_⟩⟩
      · exact hq k c1 (by omega) hne (fun _ => z) hw e3 h23 hfr
      · refine ih (k + 1) _ (by omega) ?_ (fun i hi => ?_) (fun i hi => ?_) (fun j hj => ?_) (fun o x y => ?_)
        · rw [cup_self, nup_self]
        · rw [cup_ne _ _ _ (by omega)]; exact hw i hi
        · by_cases e : i = k
          · rw [e]; exact z
          · exact hne i (by omega)
        · rw [cup_self, nup_ne _ _ hj]; exact h23 j hj
        · rw [cup_ne _ _ _ x]; exact hfr o x y
  refine loop 5 0 _ rfl ?_ (fun i hi => ?_) (fun i hi => absurd hi (by omega)) (fun k hk => ?_) (fun o x y => ?_)
  · rw [cup_self, nup_self]
  · have : i = 0 ∨ i = 1 ∨ i = 2 ∨ i = 3 ∨ i = 4 := by omega
    unfold A5
    rcases this with rfl | rfl | rfl | rfl | rfl <;> simp [cup_app, cup_ne]
  · rw [cup_self, nup_ne _ _ hk]
    simp (disch := omega) only [hs_at, hs_put, hs_63, NH_at, NH_put, NH_cpy, ni_add, ni_mul, ni_clamp, ni_in, ni_eq, ni_lt, ni_le, ni_sub, Nat.reduceAdd, Nat.reduceMul, Nat.reduceSub, eq_self, true_implies, not_true_eq_false, false_implies, and_true, true_and, not_false_eq_true, Nat.reduceEqDiff, Nat.reduceLeDiff, Nat.reduceLT, implies_true, ite_true, ite_false, nup_self, nup_ne, cup_self, cup_ne]
  · rw [cup_ne _ _ _ x, cup_ne _ _ _ y, cup_ne _ _ _ y, cup_ne _ _ _ y, cup_ne _ _ _ y, cup_ne _ _ _ y]
theorem WA_CS {A : Nat → Int32} {f : Nat → Nat} (hg : g 2 ≤ 12) : ∀ (bs : List Nat) (k pl L : Nat), k + bs.length = L → (∀ i, i < L → nI (f i) = A i ∧ f i < 4294967296) → WA A bs k → cwG g bs pl → CS f bs k
  | [], _, _, _, _, _, _, _ => trivial
  | b :: r, k, pl, L, hl, hf, hw, hc => by
    simp only [List.length_cons] at hl
    have h1 := hf k (by omega)
    have h2 := hc.1
    refine ⟨?_, WA_CS hg r (k + 1) _ L (by omega) hf hw.2 hc.2.2⟩
    have := h1.1.trans hw.1
    rw [ni_eq h1.2 (by omega)] at this
    exact this
theorem ci_behind {lw : Lw} {vp a b c' d' e : Int32} (hW : WF g t) (ht : t + 12 < 1000000) (hA : RA g c) (hL : LC c lw) (hok : LOK lw) (h20 : c 20 3 = 0) (hq : ∀ c2, RA g c2 → (∀ o, o = 0 ∨ o = 17 ∨ o = 18 ∨ o = 20 ∨ 26 < o → c2 o = c o) → Q (sp_behind g lw vp (A5 a b c' d' e)) (NH c2)) : am_C tT E (d + 5) mX11_behind [.inr 0, .inl vp, .inl a, .inl b, .inl c', .inl d', .inl e] (NH c) Q := by
  have e1 : c 6 0 = g 1 := hA.2.1.1
  have w1 := hW.1.2.1
  have w2 := hW.1.2.2.1
  refine am_C.of (by decide) (Nat.le_of_ble_eq_true rfl) ?_
  show am_R tT E _ mX11_behind _ 0 [some (.inr 0), some (.inl vp), some (.inl a), some (.inl b), some (.inl c'), some (.inl d'), some (.inl e), none, none] [] (NH c)
  refine am_goS gX11_behind [] 400 ?_
  simp only [am_eqs, am_eqk, am_eqv, lX11_behind_0, lX11_behind_1, lX11_behind_2, fx_class, NH_at, NH_put, ↓reduceIte, List.mem_cons, List.not_mem_nil, or_false, or_self, false_or, true_and, and_true, Nat.reduceEqDiff, reduceCtorEq, List.length_cons, List.length_nil, Nat.reduceAdd, Nat.reduceLeDiff, Nat.reduceSub, Nat.reduceLT, Nat.zero_le, Nat.zero_add, forall_const, not_true_eq_false, not_false_eq_true, false_implies, true_implies, implies_true, Nat.zero_lt_succ, am_z0, am_z1]
  refine c_isPerson (by omega) (fun z1 => ?_) (fun z1 => ?_)
  · simp (disch := omega) only [hs_at, hs_put, hs_63, NH_at, NH_put, NH_cpy, ni_add, ni_mul, ni_clamp, ni_in, ni_eq, ni_lt, ni_le, ni_sub, Nat.reduceAdd, Nat.reduceMul, Nat.reduceSub, eq_self, true_implies, not_true_eq_false, false_implies, and_true, true_and, not_false_eq_true, Nat.reduceEqDiff, Nat.reduceLeDiff, Nat.reduceLT, implies_true, ite_true, ite_false]
    rw [e1] at z1
    unfold sp_behind at hq
    rw [cif_pos z1] at hq
    obtain ⟨p, hp, rfl⟩ := z1
    rw [ni_clamp (by omega)] at hq
    have hpe := hW.p (show p < 8 by omega)
    refine c_startWay (fun L c2 l5 lne leq w24 w3 w23 wfr => ?_)
    have hA2 : RA g c2 := ra_cell hA (fun o x y => wfr o (by omega) (by omega))
    have hA2t : RAt g c2 := ⟨hA2.1, hA2.2.1, hA2.2.2.1⟩
    have q7 : c2 7 p = og g p 0 := (hA2.2.1.2 p (by omega)).1
    have hbh := cb_bh (g := g) (A := A5 a b c' d' e) 5 0 (og g p 0) L l5 (fun i hi => by rw [Nat.zero_add]; exact lne i hi) (fun z => by rw [Nat.zero_add]; exact leq z)
    have hcong : cbF g (fun k => nI (c2 24 k)) L 0 (og g p 0) = cbF g (A5 a b c' d' e) L 0 (og g p 0) := by
      have : ∀ n k pl, k + n = L → cbF g (fun k => nI (c2 24 k)) n k pl = cbF g (A5 a b c' d' e) n k pl := by
        intro n
        induction n with
        | zero => intro k pl _; rfl
        | succ n ih =>
          intro k pl hk
          have ek : nI (c2 24 k) = A5 a b c' d' e k := by rw [w24 k (by omega), ni_un]
          simp only [cbF, ek]
          rw [ih (k + 1) _ (by omega)]
      exact this L 0 _ (by omega)
    rw [hbh] at hq
    have hnone : ∀ c3, RA g c3 → (∀ o, o = 0 ∨ o = 17 ∨ o = 18 ∨ o = 20 ∨ 26 < o → c3 o = c o) → (cbF g (A5 a b c' d' e) L 0 (og g p 0) = none ∨ L = 0) → Q (-1) (NH c3) := by
      intro c3 ra fr hz
      have := hq c3 ra fr
      rcases hz with hz | hz
      · rw [hz] at this; exact this
      · subst hz; exact this
    simp (disch := omega) only [hs_at, hs_put, hs_63, NH_at, NH_put, NH_cpy, ni_add, ni_mul, ni_clamp, ni_in, ni_eq, ni_lt, ni_le, ni_sub, Nat.reduceAdd, Nat.reduceMul, Nat.reduceSub, eq_self, true_implies, not_true_eq_false, false_implies, and_true, true_and, not_false_eq_true, Nat.reduceEqDiff, Nat.reduceLeDiff, Nat.reduceLT, implies_true, ite_true, ite_false, q7]
    refine ⟨by omega, ?_⟩
    refine c_canBe (g := g) (t := t) w3 (by omega) hpe.1 hW hA2t (fun hz hl0 => ?_) (fun hz => ?_)
    · obtain ⟨bs, hbs⟩ := hz
      rw [hcong] at hbs
      obtain ⟨b1, b2, b3⟩ := cb_ok w2 _ _ _ _ hbs
      rw [hbs] at hq
      have hcs : CS (c2 24) bs 0 := WA_CS w2 bs 0 _ L (by omega) (fun i hi => by rw [w24 i (by omega)]; exact ⟨ni_un _, (A5 a b c' d' e i).toBitVec.isLt⟩) b3 b2
      have hL2 : LC c2 lw := by
        unfold LC at *
        rw [wfr 17 (by omega) (by omega), wfr 18 (by omega) (by omega)]
        exact hL
      have z20 : c2 20 3 = 0 := by rw [wfr 20 (by omega) (by omega)]; exact h20
      have hans : ∀ c3, RA g c3 → (∀ o, o = 0 ∨ o = 17 ∨ o = 18 ∨ o = 20 ∨ 26 < o → c3 o = c o) → (wkG lw p bs g = none → Q (-2) (NH c3)) ∧ ∀ g', wkG lw p bs g = some g' → Q (nI (had g' p)) (NH c3) := by
        intro c3 ra fr
        have := hq c3 ra fr
        match bs, b1 with
        | [], b1 => simp at b1; omega
        | b0 :: r, _ =>
          simp only at this
          refine ⟨fun z => ?_, fun g' z => ?_⟩
          · rw [z] at this; exact this
          · rw [z] at this; exact this
      simp (disch := omega) only [hs_at, hs_put, hs_63, NH_at, NH_put, NH_cpy, ni_add, ni_mul, ni_clamp, ni_in, ni_eq, ni_lt, ni_le, ni_sub, Nat.reduceAdd, Nat.reduceMul, Nat.reduceSub, eq_self, true_implies, not_true_eq_false, false_implies, and_true, true_and, not_false_eq_true, Nat.reduceEqDiff, Nat.reduceLeDiff, Nat.reduceLT, implies_true, ite_true, ite_false]
      refine c_go (V := fun _ _ _ _ => True) (L := L) (bs := bs) (f := c2 24) rfl hp hW ht hA2t hL2 hok (Or.inl z20) w3 (by omega) hcs b1 b2 (fun z => absurd z (by omega)) (fun hw n c3 n1 ra wb wf vi fw h6 => ?_) (fun hw c3 ra wb wf vi fw h6 => ?_)
      · simp (disch := omega) only [hs_at, hs_put, hs_63, NH_at, NH_put, NH_cpy, ni_add, ni_mul, ni_clamp, ni_in, ni_eq, ni_lt, ni_le, ni_sub, Nat.reduceAdd, Nat.reduceMul, Nat.reduceSub, eq_self, true_implies, not_true_eq_false, false_implies, and_true, true_and, not_false_eq_true, Nat.reduceEqDiff, Nat.reduceLeDiff, Nat.reduceLT, implies_true, ite_true, ite_false]
        have c324 : c2 24 = c3 24 := (fw.1 24 (by omega) (by omega) (by omega) (by omega) (by omega) (by omega) (by omega) (by omega) (by omega) (by omega) (by omega)).symm
        refine ⟨by omega, c_wback (g := g) (t := t) (lw := lw) (n := n) (f := c2 24) c324 hp (by omega) (wkS_st (by omega) wb w2) ra wb h6 w1 w2 (fun c4 r4 f4 => ?_)⟩
        refine (hans c4 ⟨r4.1, r4.2.1, r4.2.2, fun q hq => ?_⟩ (fun o ho => ?_)).1 hw
        · rw [f4 10 (by omega) (by omega) (by omega) (by omega) (by omega), fw.1 10 (by omega) (by omega) (by omega) (by omega) (by omega) (by omega) (by omega) (by omega) (by omega) (by omega) (by omega)]
          exact hA2.2.2.2 q hq
        · rw [f4 o (by omega) (by omega) (by omega) (by omega) (by omega), fw.1 o (by omega) (by omega) (by omega) (by omega) (by omega) (by omega) (by omega) (by omega) (by omega) (by omega) (by omega)]
          exact wfr o (by omega) (by omega)
      · simp (disch := omega) only [hs_at, hs_put, hs_63, NH_at, NH_put, NH_cpy, ni_add, ni_mul, ni_clamp, ni_in, ni_eq, ni_lt, ni_le, ni_sub, Nat.reduceAdd, Nat.reduceMul, Nat.reduceSub, eq_self, true_implies, not_true_eq_false, false_implies, and_true, true_and, not_false_eq_true, Nat.reduceEqDiff, Nat.reduceLeDiff, Nat.reduceLT, implies_true, ite_true, ite_false]
        have c324 : c2 24 = c3 24 := (fw.1 24 (by omega) (by omega) (by omega) (by omega) (by omega) (by omega) (by omega) (by omega) (by omega) (by omega) (by omega)).symm
        have q11 : c3 11 p = had (wkS lw p (c2 24) g L) p := (ra.2.1.2 p (by omega)).2.2.2.1
        rw [q11]
        refine ⟨by omega, c_wback (g := g) (t := t) (lw := lw) (n := L) (f := c2 24) c324 hp (by omega) (wkS_st (by omega) wb w2) ra wb h6 w1 w2 (fun c4 r4 f4 => ?_)⟩
        refine (hans c4 ⟨r4.1, r4.2.1, r4.2.2, fun q hq => ?_⟩ (fun o ho => ?_)).2 _ hw
        · rw [f4 10 (by omega) (by omega) (by omega) (by omega) (by omega), fw.1 10 (by omega) (by omega) (by omega) (by omega) (by omega) (by omega) (by omega) (by omega) (by omega) (by omega) (by omega)]
          exact hA2.2.2.2 q hq
        · rw [f4 o (by omega) (by omega) (by omega) (by omega) (by omega), fw.1 o (by omega) (by omega) (by omega) (by omega) (by omega) (by omega) (by omega) (by omega) (by omega) (by omega) (by omega)]
          exact wfr o (by omega) (by omega)
    · rw [hcong] at hz
      simp (disch := omega) only [hs_at, hs_put, hs_63, NH_at, NH_put, NH_cpy, ni_add, ni_mul, ni_clamp, ni_in, ni_eq, ni_lt, ni_le, ni_sub, Nat.reduceAdd, Nat.reduceMul, Nat.reduceSub, eq_self, true_implies, not_true_eq_false, false_implies, and_true, true_and, not_false_eq_true, Nat.reduceEqDiff, Nat.reduceLeDiff, Nat.reduceLT, implies_true, ite_true, ite_false]
      exact hnone c2 hA2 (fun o ho => wfr o (by omega) (by omega)) hz
  · simp (disch := omega) only [hs_at, hs_put, hs_63, NH_at, NH_put, NH_cpy, ni_add, ni_mul, ni_clamp, ni_in, ni_eq, ni_lt, ni_le, ni_sub, Nat.reduceAdd, Nat.reduceMul, Nat.reduceSub, eq_self, true_implies, not_true_eq_false, false_implies, and_true, true_and, not_false_eq_true, Nat.reduceEqDiff, Nat.reduceLeDiff, Nat.reduceLT, implies_true, ite_true, ite_false]
    rw [e1] at z1
    unfold sp_behind at hq
    rw [cif_neg z1] at hq
    exact hq c hA (fun _ _ => rfl)
end CWB
