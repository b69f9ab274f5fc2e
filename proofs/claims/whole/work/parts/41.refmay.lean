/-! ===== part 41: the reference: comesTo, mayLeave ===== -/
section RMAY
variable {E : am_E} {d : Nat} {h : am_H} {Q : Int32 → am_H → Prop} {g : Nat → Nat} {c : Nat → Nat → Nat} {t : Nat}
theorem am_upd_at (h : am_H) (o k : Nat) (v : Int32) : am_upd h o k v o k = v := by
  rw [am_upd_self]; simp [upd]
theorem r_comesTo {fc : Nat → Int32} {st0 : List (Nat × Nat)} {a0 : Nat} (hst0 : ST g st0 a0) (hty0 : tyL st0 [] = some [true]) (hlen : a0 + st0.length ≤ 410) (hfc : ∀ s, 1 ≤ s → s ≤ 8 → h 72 s = fc s)
    (hq : ∀ (h' : am_H) (v : Int32), evL fc st0 [] = [v] → (v = nI 0 ∨ v = nI 1) → (∀ o, o ≠ 71 → h' o = h o) → Q v (hs h' g)) : am_C tT E (d + 1) mX12_comesTo [.inr 63, .inl (nI a0), .inl (nI (a0 + st0.length))] (hs h g) Q := by
  refine am_C.of (by decide) (Nat.le_of_ble_eq_true rfl) ?_
  show am_R tT E _ mX12_comesTo _ 0 [some (.inr 63), some (.inl (nI a0)), some (.inl (nI (a0 + st0.length))), none, none, none, none] [] (hs h g)
  refine am_goS gX12_comesTo [5] 400 ?_
  simp only [am_eqs, am_eqk, am_eqv, lX12_comesTo_0, lX12_comesTo_1, lX12_comesTo_2, lX12_comesTo_3, lX12_comesTo_4, fx_ref, ↓reduceIte, List.mem_cons, List.not_mem_nil, or_false, or_self, false_or, true_and, and_true, Nat.reduceEqDiff, reduceCtorEq, List.length_cons, List.length_nil, Nat.reduceAdd, Nat.reduceLeDiff, Nat.reduceSub, Nat.reduceLT, Nat.zero_le, Nat.zero_add, forall_const, not_true_eq_false, not_false_eq_true, false_implies, true_implies, implies_true, Nat.zero_lt_succ, am_z0, am_z1]
  generalize hend : a0 + st0.length = ed at hlen ⊢
  have loop : ∀ (st : List (Nat × Nat)) (i : Nat) (stk : List Int32) (T : List Bool) (h1 : am_H) (v5 v6 : Option am_V), ST g st i → i + st.length = ed → TM T stk → T.length ≤ 22 → tyL st T = some [true] → SR (h1 71) stk → evL fc st stk = evL fc st0 [] → (∀ o, o ≠ 71 → h1 o = h o) →
      am_R tT E (d + 1) mX12_comesTo Q 5 [some (.inr 63), some (.inl (nI a0)), some (.inl (nI ed)), some (.inl (nI stk.length)), some (.inl (nI i)), v5, v6] [] (hs h1 g) := by
    intro st
    induction st with
    | nil =>
      intro i stk T h1 v5 v6 hst hi hm h22 hty hsr hev hh
      have hie : i = ed := by simpa using hi
      subst hie
      have hT : T = [true] := by simpa [tyL] using hty
      subst hT
      match stk, hm, hsr, hev with
      | [v], hm, hsr, hev =>
        have h0 : h1 71 0 = v := hsr.1
        refine am_goS gX12_comesTo [5] 400 ?_
        simp only [am_eqs, am_eqk, am_eqv, lX12_comesTo_0, lX12_comesTo_1, lX12_comesTo_2, lX12_comesTo_3, lX12_comesTo_4, fx_ref, ↓reduceIte, List.mem_cons, List.not_mem_nil, or_false, or_self, false_or, true_and, and_true, Nat.reduceEqDiff, reduceCtorEq, List.length_cons, List.length_nil, Nat.reduceAdd, Nat.reduceLeDiff, Nat.reduceSub, Nat.reduceLT, Nat.zero_le, Nat.zero_add, forall_const, not_true_eq_false, not_false_eq_true, false_implies, true_implies, implies_true, Nat.zero_lt_succ, am_z0, am_z1]
        simp (disch := omega) only [hs_at, hs_put, hs_63, NH_at, NH_put, NH_cpy, ni_add, ni_mul, ni_clamp, ni_in, ni_eq, ni_lt, ni_le, ni_sub, Nat.reduceAdd, Nat.reduceMul, Nat.reduceSub, eq_self, true_implies, not_true_eq_false, false_implies, and_true, true_and, not_false_eq_true, Nat.reduceEqDiff, Nat.reduceLeDiff, Nat.reduceLT, implies_true, ite_true, ite_false, hs_off, h0]
        exact ⟨fun _ => hq h1 v hev.symm (hm.1 rfl) hh, fun z => absurd (Nat.le_refl _) z⟩
    | cons q st ih =>
      intro i stk T h1 v5 v6 hst hi hm h22 hty hsr hev hh
      obtain ⟨g1, g2, hst'⟩ := hst
      have hlT := TM_len T stk hm
      simp only [tyL] at hty
      cases ht1 : ty1 q T with
      | none => rw [ht1] at hty; cases hty
      | some T' =>
        rw [ht1] at hty
        have hm' := ty_ev1 (fc := fc) ht1 hm
        have hl1 : i + 1 + st.length = ed := by simp only [List.length_cons] at hi; omega
        rcases ty_q ht1 with ⟨t1, t2, t3, t4, t5, t6⟩ | t1
        · have hnx := fun (h2 : am_H) (v5 v6 : Option am_V) (hsr2 : SR (h2 71) (ev1 fc q stk)) (hh2 : ∀ o, o ≠ 71 → h2 o = h o) => ih (i + 1) (ev1 fc q stk) T' h2 v5 v6 hst' hl1 hm' t6 hty hsr2 hev hh2
          have hfq : 1 ≤ q.1 → q.1 ≤ 8 → h1 72 q.1 = fc q.1 := fun a b => by rw [hh 72 (by omega)]; exact hfc _ a b
          refine am_goS gX12_comesTo [5] 400 ?_
          simp only [am_eqs, am_eqk, am_eqv, lX12_comesTo_0, lX12_comesTo_1, lX12_comesTo_2, lX12_comesTo_3, lX12_comesTo_4, fx_ref, ↓reduceIte, List.mem_cons, List.not_mem_nil, or_false, or_self, false_or, true_and, and_true, Nat.reduceEqDiff, reduceCtorEq, List.length_cons, List.length_nil, Nat.reduceAdd, Nat.reduceLeDiff, Nat.reduceSub, Nat.reduceLT, Nat.zero_le, Nat.zero_add, forall_const, not_true_eq_false, not_false_eq_true, false_implies, true_implies, implies_true, Nat.zero_lt_succ, am_z0, am_z1]
          simp (disch := omega) only [hs_at, hs_put, hs_63, NH_at, NH_put, NH_cpy, ni_add, ni_mul, ni_clamp, ni_in, ni_eq, ni_lt, ni_le, ni_sub, Nat.reduceAdd, Nat.reduceMul, Nat.reduceSub, eq_self, true_implies, not_true_eq_false, false_implies, and_true, true_and, not_false_eq_true, Nat.reduceEqDiff, Nat.reduceLeDiff, Nat.reduceLT, implies_true, ite_true, ite_false, g1]
          rw [show 930 + 2 * i + 1 = 931 + 2 * i by omega]
          have hop : ∀ k x o, o ≠ 71 → am_upd h1 71 k x o = h o := fun k x o ho => by rw [am_upd_ne _ _ _ ho]; exact hh o ho
          refine ⟨fun c => absurd c (by omega), fun _ => ⟨by omega, by omega, fun c13 => ?_, fun c13 => ?_⟩⟩
          · match stk, hm, hlT, hsr, hnx with
            | [], hm, hlT, hsr, hnx => exfalso; have := t4 (by omega); simp at hlT; simp [hlT] at this
            | a :: r, hm, hlT, hsr, hnx =>
              simp only [List.length_cons] at hlT
              have htop := SR_top hsr
              unfold ev1 at hnx
              rw [if_neg (by omega)] at hnx
              dsimp only at hnx
              simp (disch := omega) only [hs_at, hs_put, hs_63, NH_at, NH_put, NH_cpy, ni_add, ni_mul, ni_clamp, ni_in, ni_eq, ni_lt, ni_le, ni_sub, Nat.reduceAdd, Nat.reduceMul, Nat.reduceSub, eq_self, true_implies, not_true_eq_false, false_implies, and_true, true_and, not_false_eq_true, Nat.reduceEqDiff, Nat.reduceLeDiff, Nat.reduceLT, implies_true, ite_true, ite_false, hs_off, List.length_cons, Nat.add_sub_cancel, htop, hs_upo]
              refine ⟨fun c16 => ?_, fun c16 => ⟨fun c20 => ?_, fun c20 => ?_⟩⟩
              · have g22 := g2 (Or.inr c16)
                have t32 := t3 c16
                rw [if_pos c16] at hnx
                rw [g22]
                refine ⟨by omega, ?_, by omega, ?_⟩
                · show ¬ nI q.2 = nI 0
                  rw [ni_eq (by omega) (by omega)]; omega
                · refine hnx _ _ _ ⟨?_, ?_⟩ (hop _ _)
                  · rw [am_upd_at]
                  · rw [am_upd_self]; exact SR_upd r (Nat.le_refl _) hsr.2
              · rw [if_neg c16, if_pos c20] at hnx
                refine ⟨by omega, by omega, hnx _ _ _ ⟨?_, ?_⟩ (hop _ _)⟩
                · rw [am_upd_at]
                · rw [am_upd_self]; exact SR_upd r (Nat.le_refl _) hsr.2
              · rw [if_neg c16, if_neg c20] at hnx
                match r, hm, hlT, hsr, hnx with
                | [], hm, hlT, hsr, hnx => exfalso; have := t5 (by omega) c16 c20; simp at hlT; omega
                | b :: r', hm, hlT, hsr, hnx =>
                  simp only [List.length_cons] at hlT htop
                  dsimp only at hnx
                  have htop2 : h1 71 r'.length = b := hsr.2.1
                  simp (disch := omega) only [hs_at, hs_put, hs_63, NH_at, NH_put, NH_cpy, ni_add, ni_mul, ni_clamp, ni_in, ni_eq, ni_lt, ni_le, ni_sub, Nat.reduceAdd, Nat.reduceMul, Nat.reduceSub, eq_self, true_implies, not_true_eq_false, false_implies, and_true, true_and, not_false_eq_true, Nat.reduceEqDiff, Nat.reduceLeDiff, Nat.reduceLT, implies_true, ite_true, ite_false, hs_off, ni_addm1, List.length_cons, Nat.add_sub_cancel, htop, htop2]
                  refine ⟨by omega, by omega, r_both ⟨by omega, by omega, c16, c20⟩ ⟨by omega, ?_⟩⟩
                  rw [hs_upo _ _ _ _ (by omega)]
                  refine hnx _ _ _ ⟨?_, ?_⟩ (hop _ _)
                  · rw [am_upd_at]
                  · rw [am_upd_self]; exact SR_upd r' (Nat.le_refl _) hsr.2.2
          · have hcc := t2 (by omega)
            unfold ev1 at hnx
            rw [if_pos (by omega)] at hnx
            refine ⟨fun c0 => ?_, fun c0 => ?_⟩
            · have g22 := g2 (Or.inl c0)
              rw [if_pos c0] at hnx
              simp (disch := omega) only [hs_at, hs_put, hs_63, NH_at, NH_put, NH_cpy, ni_add, ni_mul, ni_clamp, ni_in, ni_eq, ni_lt, ni_le, ni_sub, Nat.reduceAdd, Nat.reduceMul, Nat.reduceSub, eq_self, true_implies, not_true_eq_false, false_implies, and_true, true_and, not_false_eq_true, Nat.reduceEqDiff, Nat.reduceLeDiff, Nat.reduceLT, implies_true, ite_true, ite_false, hs_upo, g22]
              refine ⟨by omega, hnx _ _ _ ⟨?_, ?_⟩ (hop _ _)⟩
              · rw [am_upd_at]
              · rw [am_upd_self]; exact SR_upd stk (Nat.le_refl _) hsr
            · rw [if_neg c0] at hnx
              simp (disch := omega) only [hs_at, hs_put, hs_63, NH_at, NH_put, NH_cpy, ni_add, ni_mul, ni_clamp, ni_in, ni_eq, ni_lt, ni_le, ni_sub, Nat.reduceAdd, Nat.reduceMul, Nat.reduceSub, eq_self, true_implies, not_true_eq_false, false_implies, and_true, true_and, not_false_eq_true, Nat.reduceEqDiff, Nat.reduceLeDiff, Nat.reduceLT, implies_true, ite_true, ite_false, hs_off, hs_upo]
              rw [hfq (by omega) (by omega)]
              refine ⟨by omega, by omega, hnx _ _ _ ⟨?_, ?_⟩ (hop _ _)⟩
              · rw [am_upd_at]
              · rw [am_upd_self]; exact SR_upd stk (Nat.le_refl _) hsr
        · omega
  exact loop st0 a0 [] [] h none none hst0 hend trivial (by decide) hty0 trivial rfl (fun _ _ => rfl)
/-- how many others have the name n -/
noncomputable def likK (g : Nat → Nat) (p n : Nat) : Nat → Nat
  | 0 => 0
  | q + 1 => cif (q ≠ p ∧ hasN g q n) (likK g p n q + 1) (likK g p n q)
theorem likK_le (g : Nat → Nat) (p n : Nat) : ∀ k, likK g p n k ≤ k := by
  intro k
  induction k with
  | zero => exact Nat.le_refl _
  | succ k ih =>
    by_cases hc : k ≠ p ∧ hasN g k n
    · rw [likK, cif_pos hc]; omega
    · rw [likK, cif_neg hc]; omega
noncomputable def fcN (g : Nat → Nat) (p o b s : Nat) : Nat := if s = 1 then g (10 + og g p (5 + o)) else if s = 2 then g (30 + og g p (5 + o)) else if s = 3 then og g p 2 else if s = 4 then o else if s = 5 then likK g p (og g p (5 + o)) (g 1) else if s = 6 then b else if s = 7 then g 3 else g (220 + 20 * b + og g p (5 + o))
/-- a law: lines, each what it says (0: leave) and the steps of its condition -/
abbrev Lw : Type := List (Nat × List (Nat × Nat))
def LRl (g : Nat → Nat) : Lw → Nat → Nat → Prop
  | [], i, a => g 865 = i ∧ i ≤ 16 ∧ a ≤ 410
  | l :: r, i, a => g (870 + i) = l.1 ∧ g (890 + i) = a ∧ g (910 + i) = a + l.2.length ∧ ST g l.2 a ∧ LRl g r (i + 1) (a + l.2.length)
def LOK (lw : Lw) : Prop := ∀ l ∈ lw, l.1 ≤ 1 ∧ (l.2 = [] ∨ tyL l.2 [] = some [true])
def alw (fc : Nat → Int32) : Lw → Prop
  | [] => True
  | l :: r => (l.2 = [] ∨ evL fc l.2 [] = [nI 1]) ∧ l.1 = 0 ∨ ¬ (l.2 = [] ∨ evL fc l.2 [] = [nI 1]) ∧ alw fc r
theorem LRl_b {g : Nat → Nat} : ∀ (lw : Lw) (i a : Nat), LRl g lw i a → i ≤ 16 ∧ a ≤ 410 ∧ g 865 = i + lw.length ∧ i + lw.length ≤ 16
  | [], i, a, h => by simp only [LRl] at h; simp; omega
  | l :: r, i, a, h => by
    obtain ⟨h1, h2, h3, h4, h5⟩ := h
    have := LRl_b r (i + 1) (a + l.2.length) h5
    simp only [List.length_cons]
    omega
noncomputable def mayG (g : Nat → Nat) (lw : Lw) (p o b : Nat) : Prop := alw (fun s => nI (fcN g p o b s)) lw
theorem r_mayLeave {lw : Lw} {p o b : Nat} (hp : p < g 1) (ho : o < og g p 2) (hb : b < 12) (hW : WF g t) (hL : LRl g lw 0 0) (hok : LOK lw)
    (h1 : mayG g lw p o b → ∀ h' : am_H, (∀ q, q ≠ 71 → q ≠ 72 → h' q = h q) → Q (nI 1) (hs h' g)) (h0 : ¬ mayG g lw p o b → ∀ h' : am_H, (∀ q, q ≠ 71 → q ≠ 72 → h' q = h q) → Q (nI 0) (hs h' g)) : am_C tT E (d + 2) mX12_mayLeave [.inr 63, .inl (nI p), .inl (nI o), .inl (nI b)] (hs h g) Q := by
  have hW2 := hW
  obtain ⟨⟨w0, w1, w2, w3, w4, w5, w6, w7, w8⟩, -⟩ := hW
  have hpe := hW2.p (show p < 8 by omega)
  have hm := hpe.2.2.1
  have hn := hpe.2.2.2.2.2.1 o ho
  refine am_C.of (by decide) (Nat.le_of_ble_eq_true rfl) ?_
  show am_R tT E _ mX12_mayLeave _ 0 [some (.inr 63), some (.inl (nI p)), some (.inl (nI o)), some (.inl (nI b)), none, none] [] (hs h g)
  refine am_goS gX12_mayLeave [71] 400 ?_
  simp only [am_eqs, am_eqk, am_eqv, lX12_mayLeave_0, lX12_mayLeave_1, lX12_mayLeave_2, lX12_mayLeave_3, lX12_mayLeave_4, lX12_mayLeave_5, lX12_mayLeave_6, fx_ref, ↓reduceIte, List.mem_cons, List.not_mem_nil, or_false, or_self, false_or, true_and, and_true, Nat.reduceEqDiff, reduceCtorEq, List.length_cons, List.length_nil, Nat.reduceAdd, Nat.reduceLeDiff, Nat.reduceSub, Nat.reduceLT, Nat.zero_le, Nat.zero_add, forall_const, not_true_eq_false, not_false_eq_true, false_implies, true_implies, implies_true, Nat.zero_lt_succ, am_z0, am_z1]
  simp (disch := omega) only [hs_at, hs_put, hs_63, NH_at, NH_put, NH_cpy, ni_add, ni_mul, ni_clamp, ni_in, ni_eq, ni_lt, ni_le, ni_sub, Nat.reduceAdd, Nat.reduceMul, Nat.reduceSub, eq_self, true_implies, not_true_eq_false, false_implies, and_true, true_and, not_false_eq_true, Nat.reduceEqDiff, Nat.reduceLeDiff, Nat.reduceLT, implies_true, ite_true, ite_false]
  refine r_own (by omega) (by omega) ?_
  generalize hnn : og g p (5 + o) = n at hn
  simp (disch := omega) only [hs_at, hs_put, hs_63, NH_at, NH_put, NH_cpy, ni_add, ni_mul, ni_clamp, ni_in, ni_eq, ni_lt, ni_le, ni_sub, Nat.reduceAdd, Nat.reduceMul, Nat.reduceSub, eq_self, true_implies, not_true_eq_false, false_implies, and_true, true_and, not_false_eq_true, Nat.reduceEqDiff, Nat.reduceLeDiff, Nat.reduceLT, implies_true, ite_true, ite_false, hs_upo]
  refine ⟨by omega, by omega, ?_⟩
  refine r_own (by omega) (by omega) ?_
  simp (disch := omega) only [hs_at, hs_put, hs_63, NH_at, NH_put, NH_cpy, ni_add, ni_mul, ni_clamp, ni_in, ni_eq, ni_lt, ni_le, ni_sub, Nat.reduceAdd, Nat.reduceMul, Nat.reduceSub, eq_self, true_implies, not_true_eq_false, false_implies, and_true, true_and, not_false_eq_true, Nat.reduceEqDiff, Nat.reduceLeDiff, Nat.reduceLT, implies_true, ite_true, ite_false, hs_upo]
  -- the lines
  have lines : ∀ (lw' : Lw) (i a : Nat) (h1' : am_H), LRl g lw' i a → LOK lw' → (alw (fun s => nI (fcN g p o b s)) lw' ↔ mayG g lw p o b) → (∀ s, 1 ≤ s → s ≤ 8 → h1' 72 s = nI (fcN g p o b s)) → (∀ q, q ≠ 71 → q ≠ 72 → h1' q = h q) → am_R tT E (d + 2) mX12_mayLeave Q 166 [some (.inr 63), some (.inl (nI p)), some (.inl (nI o)), some (.inl (nI b)), some (.inl (nI n)), some (.inl (nI i))] [] (hs h1' g) := by
    intro lw'
    induction lw' with
    | nil =>
      intro i a h1' hl hok' hiff hf hfr
      obtain ⟨l1, l2, l3⟩ := hl
      refine am_goS gX12_mayLeave [166] 400 ?_
      simp only [am_eqs, am_eqk, am_eqv, lX12_mayLeave_0, lX12_mayLeave_1, lX12_mayLeave_2, lX12_mayLeave_3, lX12_mayLeave_4, lX12_mayLeave_5, lX12_mayLeave_6, fx_ref, ↓reduceIte, List.mem_cons, List.not_mem_nil, or_false, or_self, false_or, true_and, and_true, Nat.reduceEqDiff, reduceCtorEq, List.length_cons, List.length_nil, Nat.reduceAdd, Nat.reduceLeDiff, Nat.reduceSub, Nat.reduceLT, Nat.zero_le, Nat.zero_add, forall_const, not_true_eq_false, not_false_eq_true, false_implies, true_implies, implies_true, Nat.zero_lt_succ, am_z0, am_z1]
      simp (disch := omega) only [hs_at, hs_put, hs_63, NH_at, NH_put, NH_cpy, ni_add, ni_mul, ni_clamp, ni_in, ni_eq, ni_lt, ni_le, ni_sub, Nat.reduceAdd, Nat.reduceMul, Nat.reduceSub, eq_self, true_implies, not_true_eq_false, false_implies, and_true, true_and, not_false_eq_true, Nat.reduceEqDiff, Nat.reduceLeDiff, Nat.reduceLT, implies_true, ite_true, ite_false, l1]
      exact ⟨fun _ => h1 (hiff.mp trivial) h1' hfr, fun z => absurd (Nat.le_refl _) z⟩
    | cons l r ih =>
      intro i a h1' hl hok' hiff hf hfr
      have hbb := LRl_b _ _ _ hl
      obtain ⟨l1, l2, l3, l4, l5⟩ := hl
      have hb5 := LRl_b _ _ _ l5
      simp only [List.length_cons] at hbb
      have hl0 := hok' l List.mem_cons_self
      have hokr : LOK r := fun q hq => hok' q (List.mem_cons_of_mem _ hq)
      refine am_goS gX12_mayLeave [166] 400 ?_
      simp only [am_eqs, am_eqk, am_eqv, lX12_mayLeave_0, lX12_mayLeave_1, lX12_mayLeave_2, lX12_mayLeave_3, lX12_mayLeave_4, lX12_mayLeave_5, lX12_mayLeave_6, fx_ref, ↓reduceIte, List.mem_cons, List.not_mem_nil, or_false, or_self, false_or, true_and, and_true, Nat.reduceEqDiff, reduceCtorEq, List.length_cons, List.length_nil, Nat.reduceAdd, Nat.reduceLeDiff, Nat.reduceSub, Nat.reduceLT, Nat.zero_le, Nat.zero_add, forall_const, not_true_eq_false, not_false_eq_true, false_implies, true_implies, implies_true, Nat.zero_lt_succ, am_z0, am_z1]
      simp (disch := omega) only [hs_at, hs_put, hs_63, NH_at, NH_put, NH_cpy, ni_add, ni_mul, ni_clamp, ni_in, ni_eq, ni_lt, ni_le, ni_sub, Nat.reduceAdd, Nat.reduceMul, Nat.reduceSub, eq_self, true_implies, not_true_eq_false, false_implies, and_true, true_and, not_false_eq_true, Nat.reduceEqDiff, Nat.reduceLeDiff, Nat.reduceLT, implies_true, ite_true, ite_false, l1, l2, l3, hbb.2.2.1]
      refine ⟨fun z => absurd z (by omega), fun _ => ⟨by omega, by omega, ?_⟩⟩
      have hans : ∀ h2 : am_H, (∀ q, q ≠ 71 → q ≠ 72 → h2 q = h q) → (l.2 = [] ∨ evL (fun s => nI (fcN g p o b s)) l.2 [] = [nI 1]) → (l.1 = 0 → Q (nI 1) (hs h2 g)) ∧ (¬ l.1 = 0 → Q (nI 0) (hs h2 g)) := by
        intro h2 hfr2 hcond
        refine ⟨fun e => h1 (hiff.mp (Or.inl ⟨hcond, e⟩)) h2 hfr2, fun e => h0 (fun q => ?_) h2 hfr2⟩
        rcases hiff.mpr q with ⟨-, y⟩ | ⟨y, -⟩
        · exact e y
        · exact y hcond
      refine ⟨fun he => ?_, fun he => ?_⟩
      · have hnil : l.2 = [] := List.length_eq_zero_iff.mp (by omega)
        have := hans h1' hfr (Or.inl hnil)
        exact ⟨by omega, this⟩
      · have hnn2 : ¬ l.2 = [] := fun q => he (by rw [q]; simp)
        have hty := hl0.2.resolve_left hnn2
        refine ⟨by omega, by omega, r_comesTo (fc := fun s => nI (fcN g p o b s)) l4 hty (by omega) hf (fun h2 v hev h01 hfr2 => ?_)⟩
        have hfr3 : ∀ q, q ≠ 71 → q ≠ 72 → h2 q = h q := fun q hq1 hq2 => by rw [hfr2 q hq1, hfr q hq1 hq2]
        rcases h01 with rfl | rfl
        · simp (disch := omega) only [hs_at, hs_put, hs_63, NH_at, NH_put, NH_cpy, ni_add, ni_mul, ni_clamp, ni_in, ni_eq, ni_lt, ni_le, ni_sub, Nat.reduceAdd, Nat.reduceMul, Nat.reduceSub, eq_self, true_implies, not_true_eq_false, false_implies, and_true, true_and, not_false_eq_true, Nat.reduceEqDiff, Nat.reduceLeDiff, Nat.reduceLT, implies_true, ite_true, ite_false]
          refine ih (i + 1) _ h2 l5 hokr ?_ (fun s hs1 hs2 => by rw [hfr2 72 (by omega)]; exact hf s hs1 hs2) hfr3
          rw [← hiff]
          have hc : ¬ (l.2 = [] ∨ evL (fun s => nI (fcN g p o b s)) l.2 [] = [nI 1]) := by
            rintro (q | q)
            · exact hnn2 q
            · rw [hev] at q
              have : nI 0 = nI 1 := by injection q
              exact absurd this (by decide)
          simp only [alw]
          exact ⟨fun z => Or.inr ⟨hc, z⟩, fun z => by rcases z with ⟨z, -⟩ | ⟨-, z⟩; exact absurd z hc; exact z⟩
        · simp (disch := omega) only [hs_at, hs_put, hs_63, NH_at, NH_put, NH_cpy, ni_add, ni_mul, ni_clamp, ni_in, ni_eq, ni_lt, ni_le, ni_sub, Nat.reduceAdd, Nat.reduceMul, Nat.reduceSub, eq_self, true_implies, not_true_eq_false, false_implies, and_true, true_and, not_false_eq_true, Nat.reduceEqDiff, Nat.reduceLeDiff, Nat.reduceLT, implies_true, ite_true, ite_false, l1]
          exact ⟨by omega, hans h2 hfr3 (Or.inr hev)⟩
  -- who else has it
  have likes : ∀ k q (h1' : am_H), q + k = g 1 → h1' 72 1 = nI (g (10 + n)) → h1' 72 2 = nI (g (30 + n)) → h1' 72 3 = nI (og g p 2) → h1' 72 4 = nI o → h1' 72 5 = nI (likK g p n q) → (∀ q, q ≠ 71 → q ≠ 72 → h1' q = h q) → am_R tT E (d + 2) mX12_mayLeave Q 71 [some (.inr 63), some (.inl (nI p)), some (.inl (nI o)), some (.inl (nI b)), some (.inl (nI n)), some (.inl (nI q))] [] (hs h1' g) := by
    intro k
    induction k with
    | zero =>
      intro q h1' hq f1 f2 f3 f4 f5 hfr
      have e : q = g 1 := by omega
      subst e
      refine am_goS gX12_mayLeave [71, 166] 400 ?_
      simp only [am_eqs, am_eqk, am_eqv, lX12_mayLeave_0, lX12_mayLeave_1, lX12_mayLeave_2, lX12_mayLeave_3, lX12_mayLeave_4, lX12_mayLeave_5, lX12_mayLeave_6, fx_ref, ↓reduceIte, List.mem_cons, List.not_mem_nil, or_false, or_self, false_or, true_and, and_true, Nat.reduceEqDiff, reduceCtorEq, List.length_cons, List.length_nil, Nat.reduceAdd, Nat.reduceLeDiff, Nat.reduceSub, Nat.reduceLT, Nat.zero_le, Nat.zero_add, forall_const, not_true_eq_false, not_false_eq_true, false_implies, true_implies, implies_true, Nat.zero_lt_succ, am_z0, am_z1]
      simp (disch := omega) only [hs_at, hs_put, hs_63, NH_at, NH_put, NH_cpy, ni_add, ni_mul, ni_clamp, ni_in, ni_eq, ni_lt, ni_le, ni_sub, Nat.reduceAdd, Nat.reduceMul, Nat.reduceSub, eq_self, true_implies, not_true_eq_false, false_implies, and_true, true_and, not_false_eq_true, Nat.reduceEqDiff, Nat.reduceLeDiff, Nat.reduceLT, implies_true, ite_true, ite_false, hs_upo]
      refine ⟨fun _ => ⟨by omega, ?_⟩, fun z => absurd (Nat.le_refl _) z⟩
      refine lines lw 0 0 _ hL hok Iff.rfl (fun s hs1 hs2 => ?_) (fun q hq1 hq2 => ?_)
      · simp only [am_upd_self, upd]
        unfold fcN
        rw [hnn]
        have : s = 1 ∨ s = 2 ∨ s = 3 ∨ s = 4 ∨ s = 5 ∨ s = 6 ∨ s = 7 ∨ s = 8 := by omega
        rcases this with rfl | rfl | rfl | rfl | rfl | rfl | rfl | rfl <;> simp [f1, f2, f3, f4, f5]
      · simp only [am_upd_ne _ _ _ hq2]
        exact hfr q hq1 hq2
    | succ k ih =>
      intro q h1' hq f1 f2 f3 f4 f5 hfr
      have hpq := hW2.p (show q < 8 by omega)
      have hnx := fun (h2 : am_H) => ih (q + 1) h2 (by omega)
      have hlk := likK_le g p n q
      refine am_goS gX12_mayLeave [71, 166] 400 ?_
      simp only [am_eqs, am_eqk, am_eqv, lX12_mayLeave_0, lX12_mayLeave_1, lX12_mayLeave_2, lX12_mayLeave_3, lX12_mayLeave_4, lX12_mayLeave_5, lX12_mayLeave_6, fx_ref, ↓reduceIte, List.mem_cons, List.not_mem_nil, or_false, or_self, false_or, true_and, and_true, Nat.reduceEqDiff, reduceCtorEq, List.length_cons, List.length_nil, Nat.reduceAdd, Nat.reduceLeDiff, Nat.reduceSub, Nat.reduceLT, Nat.zero_le, Nat.zero_add, forall_const, not_true_eq_false, not_false_eq_true, false_implies, true_implies, implies_true, Nat.zero_lt_succ, am_z0, am_z1]
      simp (disch := omega) only [hs_at, hs_put, hs_63, NH_at, NH_put, NH_cpy, ni_add, ni_mul, ni_clamp, ni_in, ni_eq, ni_lt, ni_le, ni_sub, Nat.reduceAdd, Nat.reduceMul, Nat.reduceSub, eq_self, true_implies, not_true_eq_false, false_implies, and_true, true_and, not_false_eq_true, Nat.reduceEqDiff, Nat.reduceLeDiff, Nat.reduceLT, implies_true, ite_true, ite_false, hs_off, f5]
      refine ⟨fun z => absurd z (by omega), fun _ => ?_⟩
      have hupd : ∀ x, am_upd h1' 72 5 x 72 1 = nI (g (10 + n)) ∧ am_upd h1' 72 5 x 72 2 = nI (g (30 + n)) ∧ am_upd h1' 72 5 x 72 3 = nI (og g p 2) ∧ am_upd h1' 72 5 x 72 4 = nI o ∧ am_upd h1' 72 5 x 72 5 = x ∧ ∀ q, q ≠ 71 → q ≠ 72 → am_upd h1' 72 5 x q = h q := by
        intro x
        refine ⟨?_, ?_, ?_, ?_, ?_, fun q hq1 hq2 => by rw [am_upd_ne _ _ _ hq2]; exact hfr q hq1 hq2⟩ <;> simp [am_upd_self, upd, f1, f2, f3, f4]
      refine ⟨fun e => ?_, fun e => ?_⟩
      · simp (disch := omega) only [hs_at, hs_put, hs_63, NH_at, NH_put, NH_cpy, ni_add, ni_mul, ni_clamp, ni_in, ni_eq, ni_lt, ni_le, ni_sub, Nat.reduceAdd, Nat.reduceMul, Nat.reduceSub, eq_self, true_implies, not_true_eq_false, false_implies, and_true, true_and, not_false_eq_true, Nat.reduceEqDiff, Nat.reduceLeDiff, Nat.reduceLT, implies_true, ite_true, ite_false, hs_upo]
        obtain ⟨k1, k2, k3, k4, k5, k6⟩ := hupd (nI (likK g p n q + 0))
        refine hnx _ k1 k2 k3 k4 ?_ k6
        rw [k5, likK, cif_neg (fun y => y.1 e), Nat.add_zero]
      · refine r_has (by omega) (by omega) hpq.2.2.1 (hpq.r31 w0) (fun y => ?_) (fun y => ?_)
        · simp (disch := omega) only [hs_at, hs_put, hs_63, NH_at, NH_put, NH_cpy, ni_add, ni_mul, ni_clamp, ni_in, ni_eq, ni_lt, ni_le, ni_sub, Nat.reduceAdd, Nat.reduceMul, Nat.reduceSub, eq_self, true_implies, not_true_eq_false, false_implies, and_true, true_and, not_false_eq_true, Nat.reduceEqDiff, Nat.reduceLeDiff, Nat.reduceLT, implies_true, ite_true, ite_false, hs_upo]
          obtain ⟨k1, k2, k3, k4, k5, k6⟩ := hupd (nI (likK g p n q + 1))
          refine hnx _ k1 k2 k3 k4 ?_ k6
          rw [k5, likK, cif_pos ⟨e, y⟩]
        · simp (disch := omega) only [hs_at, hs_put, hs_63, NH_at, NH_put, NH_cpy, ni_add, ni_mul, ni_clamp, ni_in, ni_eq, ni_lt, ni_le, ni_sub, Nat.reduceAdd, Nat.reduceMul, Nat.reduceSub, eq_self, true_implies, not_true_eq_false, false_implies, and_true, true_and, not_false_eq_true, Nat.reduceEqDiff, Nat.reduceLeDiff, Nat.reduceLT, implies_true, ite_true, ite_false, hs_upo]
          obtain ⟨k1, k2, k3, k4, k5, k6⟩ := hupd (nI (likK g p n q + 0))
          refine hnx _ k1 k2 k3 k4 ?_ k6
          rw [k5, likK, cif_neg (fun z => y z.2), Nat.add_zero]
  refine likes (g 1) 0 _ (by omega) ?_ ?_ ?_ ?_ ?_ (fun q hq1 hq2 => ?_)
  all_goals (first | (simp only [am_upd_ne _ _ _ hq2]; done) | (simp [am_upd_self, upd, likK]; done) | skip)
  all_goals done
end RMAY
