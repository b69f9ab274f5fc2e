/-! ===== part 29: fill, bridge; the people's rows; christen, take ===== -/
section OPS9
variable {E : am_E} {d : Nat} {h : am_H} {Q : Int32 → am_H → Prop} {g : Nat → Nat} {c : Nat → Nat → Nat} {t : Nat}
theorem c_rangeCheck {n a b : Nat} (h1 : a ≤ b) (h2 : b ≤ n) (hn : n < 2147483648) (hq : Q 0 h) : am_C tT E d mJ7_rangeCheck_23922 [.inl (nI n), .inl (nI a), .inl (nI b)] h Q := by
  refine am_C.of (by decide) (Nat.le_of_ble_eq_true rfl) ?_
  show am_R tT E _ mJ7_rangeCheck_23922 _ 0 [some (.inl (nI n)), some (.inl (nI a)), some (.inl (nI b))] [] h
  refine am_goS gJ7_rangeCheck_23922 [5, 50, 64] 400 ?_
  simp only [am_eqs, am_eqk, am_eqv, lJ7_rangeCheck_23922_0, ↓reduceIte, List.mem_cons, List.not_mem_nil, or_false, or_self, false_or, true_and, and_true, Nat.reduceEqDiff, reduceCtorEq]
  simp (disch := omega) only [hs_at, hs_put, hs_63, NH_at, NH_put, NH_cpy, ni_add, ni_mul, ni_clamp, ni_in, ni_eq, ni_lt, ni_le, ni_sub, Nat.reduceAdd, Nat.reduceMul, Nat.reduceSub]
  exact ⟨fun _ => ⟨fun _ => ⟨fun _ => hq, fun z => absurd h2 z⟩, fun z => absurd (Nat.zero_le a) z⟩, fun z => absurd h1 z⟩
/-- cell 16 from a to b filled with v -/
def flC (c : Nat → Nat → Nat) (o a b v : Nat) : Nat → Nat → Nat := fun q j => if q = o then (if a ≤ j ∧ j < b then v else c o j) else c q j
theorem c_fill16 {a b v : Nat} (h1 : a ≤ b) (h2 : b ≤ 240) (hq : Q 0 (NH (flC c 16 a b v))) : am_C tT E (d + 1) mJ7_fill_fda19 [.inr 16, .inl (nI a), .inl (nI b), .inl (nI v)] (NH c) Q := by
  refine am_C.of (by decide) (Nat.le_of_ble_eq_true rfl) ?_
  show am_R tT E _ mJ7_fill_fda19 _ 0 [some (.inr 16), some (.inl (nI a)), some (.inl (nI b)), some (.inl (nI v)), none] [] (NH c)
  refine am_goS gJ7_fill_fda19 [10] 400 ?_
  simp only [am_eqs, am_eqk, am_eqv, lJ7_fill_fda19_0, fx_class, NH_at, NH_put, ↓reduceIte, List.mem_cons, List.not_mem_nil, or_false, or_self, false_or, true_and, and_true, Nat.reduceEqDiff, reduceCtorEq, List.length_cons, List.length_nil, Nat.reduceAdd, Nat.reduceLeDiff, Nat.reduceSub, Nat.reduceLT, Nat.zero_le, Nat.zero_add, forall_const, not_true_eq_false, not_false_eq_true, false_implies, true_implies, implies_true, Nat.zero_lt_succ, am_z0, am_z1]
  refine c_rangeCheck h1 h2 (by omega) ?_
  have loop : ∀ k i, i + k = b → a ≤ i → am_R tT E (d + 1) mJ7_fill_fda19 Q 10 [some (.inr 16), some (.inl (nI a)), some (.inl (nI b)), some (.inl (nI v)), some (.inl (nI i))] [] (NH (flC c 16 a i v)) := by
    intro k
    induction k with
    | zero =>
      intro i hi ha
      have e : i = b := by omega
      subst e
      refine am_goS gJ7_fill_fda19 [10] 400 ?_
      simp only [am_eqs, am_eqk, am_eqv, lJ7_fill_fda19_0, fx_class, NH_at, NH_put, ↓reduceIte, List.mem_cons, List.not_mem_nil, or_false, or_self, false_or, true_and, and_true, Nat.reduceEqDiff, reduceCtorEq, List.length_cons, List.length_nil, Nat.reduceAdd, Nat.reduceLeDiff, Nat.reduceSub, Nat.reduceLT, Nat.zero_le, Nat.zero_add, forall_const, not_true_eq_false, not_false_eq_true, false_implies, true_implies, implies_true, Nat.zero_lt_succ, am_z0, am_z1]
      simp (disch := omega) only [hs_at, hs_put, hs_63, NH_at, NH_put, NH_cpy, ni_add, ni_mul, ni_clamp, ni_in, ni_eq, ni_lt, ni_le, ni_sub, Nat.reduceAdd, Nat.reduceMul, Nat.reduceSub, eq_self, true_implies, not_true_eq_false, false_implies, and_true, true_and, not_false_eq_true, Nat.reduceEqDiff, Nat.reduceLeDiff, Nat.reduceLT, implies_true, ite_true, ite_false]
      refine ⟨fun _ => hq, fun c => absurd c (by omega)⟩
    | succ k ih =>
      intro i hi ha
      refine am_goS gJ7_fill_fda19 [10] 400 ?_
      simp only [am_eqs, am_eqk, am_eqv, lJ7_fill_fda19_0, fx_class, NH_at, NH_put, ↓reduceIte, List.mem_cons, List.not_mem_nil, or_false, or_self, false_or, true_and, and_true, Nat.reduceEqDiff, reduceCtorEq, List.length_cons, List.length_nil, Nat.reduceAdd, Nat.reduceLeDiff, Nat.reduceSub, Nat.reduceLT, Nat.zero_le, Nat.zero_add, forall_const, not_true_eq_false, not_false_eq_true, false_implies, true_implies, implies_true, Nat.zero_lt_succ, am_z0, am_z1]
      simp (disch := omega) only [hs_at, hs_put, hs_63, NH_at, NH_put, NH_cpy, ni_add, ni_mul, ni_clamp, ni_in, ni_eq, ni_lt, ni_le, ni_sub, Nat.reduceAdd, Nat.reduceMul, Nat.reduceSub, eq_self, true_implies, not_true_eq_false, false_implies, and_true, true_and, not_false_eq_true, Nat.reduceEqDiff, Nat.reduceLeDiff, Nat.reduceLT, implies_true, ite_true, ite_false]
      refine ⟨fun c => absurd c (by omega), fun _ => ⟨by omega, ?_⟩⟩
      have e : cup (flC c 16 a i v) 16 i v = flC c 16 a (i + 1) v := by
        funext q j
        rw [cup_app]
        unfold flC
        grind
      rw [e]
      exact ih (i + 1) (by omega) (by omega)
  have e0 : flC c 16 a a v = c := by
    funext q j
    unfold flC
    grind
  have := loop (b - a) a (by omega) (by omega)
  rw [e0] at this
  exact this
/-! bridge -/
def brG (g : Nat → Nat) (a b : Nat) : Nat → Nat := nup (nup (nup g (50 + 2 * g 2) a) (51 + 2 * g 2) b) 2 (g 2 + 1)
def okBri (g : Nat → Nat) (a b : Int32) : Prop := (isB a 8 ∧ isB b 8) ∧ ¬ a = b ∧ g 2 < 12
theorem ri_bridge {a b : Int32} (hW : WF g t) (h1 : okBri g a b → ∀ k l, k < 8 → l < 8 → k ≠ l → a = nI k → b = nI l → Q (nI (g 2)) (hs (am_upd h 63 4 (nI 0)) (brG g k l))) (h0 : ¬ okBri g a b → Q (-1) (hs h g)) : am_C tT E (d + 2) mX12_bridge [.inr 63, .inl a, .inl b] (hs h g) Q := by
  obtain ⟨⟨w0, w1, w2, w3, w4, w5, w6, w7, w8⟩, -⟩ := hW
  refine am_C.of (by decide) (Nat.le_of_ble_eq_true rfl) ?_
  show am_R tT E _ mX12_bridge _ 0 [some (.inr 63), some (.inl a), some (.inl b)] [] (hs h g)
  refine am_goS gX12_bridge [] 400 ?_
  simp only [am_eqs, am_eqk, am_eqv, lX12_bridge_0, lX12_bridge_1, lX12_bridge_2, fx_ref, ↓reduceIte, List.mem_cons, List.not_mem_nil, or_false, or_self, false_or, true_and, and_true, Nat.reduceEqDiff, reduceCtorEq, List.length_cons, List.length_nil, Nat.reduceAdd, Nat.reduceLeDiff, Nat.reduceSub, Nat.reduceLT, Nat.zero_le, Nat.zero_add, forall_const, not_true_eq_false, not_false_eq_true, false_implies, true_implies, implies_true, Nat.zero_lt_succ, am_z0, am_z1]
  refine r_isPlace (fun z1 => ?_) (fun z1 => ?_)
  · simp (disch := omega) only [hs_at, hs_put, hs_63, NH_at, NH_put, NH_cpy, ni_add, ni_mul, ni_clamp, ni_in, ni_eq, ni_lt, ni_le, ni_sub, Nat.reduceAdd, Nat.reduceMul, Nat.reduceSub, eq_self, true_implies, not_true_eq_false, false_implies, and_true, true_and, not_false_eq_true, Nat.reduceEqDiff, Nat.reduceLeDiff, Nat.reduceLT, implies_true, ite_true, ite_false]
    refine r_isPlace (fun z2 => ?_) (fun z2 => ?_)
    · simp (disch := omega) only [hs_at, hs_put, hs_63, NH_at, NH_put, NH_cpy, ni_add, ni_mul, ni_clamp, ni_in, ni_eq, ni_lt, ni_le, ni_sub, Nat.reduceAdd, Nat.reduceMul, Nat.reduceSub, eq_self, true_implies, not_true_eq_false, false_implies, and_true, true_and, not_false_eq_true, Nat.reduceEqDiff, Nat.reduceLeDiff, Nat.reduceLT, implies_true, ite_true, ite_false]
      refine ⟨fun e => h0 (fun q => q.2.1 e), fun e => ⟨fun e2 => h0 (fun q => by have := q.2.2; omega), fun e2 => ?_⟩⟩
      have hh1 := h1 ⟨⟨z1, z2⟩, e, by omega⟩
      obtain ⟨k, hk, rfl⟩ := z1
      obtain ⟨l, hl, rfl⟩ := z2
      have hh1 := hh1 k l hk hl (fun q => e (by rw [q])) rfl rfl
      simp (disch := omega) only [hs_at, hs_put, hs_63, NH_at, NH_put, NH_cpy, ni_add, ni_mul, ni_clamp, ni_in, ni_eq, ni_lt, ni_le, ni_sub, Nat.reduceAdd, Nat.reduceMul, Nat.reduceSub, eq_self, true_implies, not_true_eq_false, false_implies, and_true, true_and, not_false_eq_true, Nat.reduceEqDiff, Nat.reduceLeDiff, Nat.reduceLT, implies_true, ite_true, ite_false, nup_self, nup_ne, cup_self, cup_ne]
      rw [show 50 + 2 * g 2 + 1 = 51 + 2 * g 2 by omega]
      refine ⟨by omega, by omega, r_forgets ?_⟩
      simp (disch := omega) only [hs_at, hs_put, hs_63, NH_at, NH_put, NH_cpy, ni_add, ni_mul, ni_clamp, ni_in, ni_eq, ni_lt, ni_le, ni_sub, Nat.reduceAdd, Nat.reduceMul, Nat.reduceSub, eq_self, true_implies, not_true_eq_false, false_implies, and_true, true_and, not_false_eq_true, Nat.reduceEqDiff, Nat.reduceLeDiff, Nat.reduceLT, implies_true, ite_true, ite_false, nup_self, nup_ne, cup_self, cup_ne]
      exact hh1
    · simp (disch := omega) only [hs_at, hs_put, hs_63, NH_at, NH_put, NH_cpy, ni_add, ni_mul, ni_clamp, ni_in, ni_eq, ni_lt, ni_le, ni_sub, Nat.reduceAdd, Nat.reduceMul, Nat.reduceSub, eq_self, true_implies, not_true_eq_false, false_implies, and_true, true_and, not_false_eq_true, Nat.reduceEqDiff, Nat.reduceLeDiff, Nat.reduceLT, implies_true, ite_true, ite_false]
      exact h0 (fun q => z2 q.1.2)
  · simp (disch := omega) only [hs_at, hs_put, hs_63, NH_at, NH_put, NH_cpy, ni_add, ni_mul, ni_clamp, ni_in, ni_eq, ni_lt, ni_le, ni_sub, Nat.reduceAdd, Nat.reduceMul, Nat.reduceSub, eq_self, true_implies, not_true_eq_false, false_implies, and_true, true_and, not_false_eq_true, Nat.reduceEqDiff, Nat.reduceLeDiff, Nat.reduceLT, implies_true, ite_true, ite_false]
    exact h0 (fun q => z1 q.1.1)
theorem ccp_app (c : Nat → Nat → Nat) (o sp q dp n z k : Nat) : ccp c o sp q dp n z k = if z = q then (if dp ≤ k ∧ k < dp + n then c o (sp + (k - dp)) else c q k) else c z k := by
  unfold ccp
  by_cases h : z = q
  · rw [if_pos h, if_pos h]; rfl
  · rw [if_neg h, if_neg h]
theorem og_br {a b p f : Nat} (hg : g 2 < 12) : og (brG g a b) p f = og g p f := by
  unfold og brG
  grind [nup_app]
theorem ra_bridge {a b : Nat} (hg : g 2 < 12) (hz : ∀ n, n < 20 → g (220 + 20 * g 2 + n) = 0) (hA : RA g c) : RA (brG g a b) (cup (flC (cup (cup (cup c 53 0 0) 15 (2 * g 2) a) 15 (2 * g 2 + 1) b) 16 (g 2 * 20) ((g 2 + 1) * 20) 0) 14 0 (g 2 + 1)) := by
  obtain ⟨⟨a1, a2, a3, a4, a5, a6, a7⟩, ⟨b1, b2⟩, hk, he⟩ := hA
  have hx : ∀ j, j ≠ 2 → (j < 50 ∨ 74 ≤ j) → brG g a b j = g j := by
    intro j _ hj
    unfold brG
    grind [nup_app]
  have hh : ∀ p, had (brG g a b) p = had g p := fun p => had_congr (og_br hg) (fun i hi => og_br hg)
  refine ⟨⟨?_, ?_, ?_, ?_, ?_, ?_, ?_⟩, ⟨?_, ?_⟩, ?_, ?_⟩
  · simp (disch := omega) only [hx]
    grind [cup_app, flC]
  · intro i hi; rw [hx _ (by omega) (by omega)]; grind [cup_app, flC]
  · intro i hi; rw [hx _ (by omega) (by omega)]; grind [cup_app, flC]
  · intro i hi; rw [hx _ (by omega) (by omega)]; grind [cup_app, flC]
  · intro i hi; rw [hx _ (by omega) (by omega)]; grind [cup_app, flC]
  · show _ = g 2 + 1
    grind [cup_app]
  · intro j hj
    have := a7 j hj
    unfold brG
    grind [cup_app, flC, nup_app]
  · rw [hx _ (by omega) (by omega)]; grind [cup_app, flC]
  · intro p hp
    obtain ⟨b20, b21, b22, b23, b24, b25⟩ := b2 p hp
    rw [hh, og_br hg, og_br hg, og_br hg, og_br hg]
    refine ⟨by grind [cup_app, flC], by grind [cup_app, flC], by grind [cup_app, flC], by grind [cup_app, flC], by grind [cup_app, flC], fun i hi => ?_⟩
    rw [og_br hg]
    have := b25 i hi
    grind [cup_app, flC]
  · intro b' n hb hn
    rw [hx _ (by omega) (by omega)]
    have h1 := hk b' n hb hn
    by_cases hbg : b' = g 2
    · have h2 := hz n hn
      subst hbg
      grind [cup_app, flC]
    · have h3 : ¬ (g 2 * 20 ≤ 20 * b' + n ∧ 20 * b' + n < (g 2 + 1) * 20) := by omega
      grind [cup_app, flC]
  · intro p hp
    have := he p hp
    rw [og_br hg]
    grind [cup_app, flC]
theorem wf_bridge {a b : Nat} (hg : g 2 < 12) (ha : a < 8) (hb8 : b < 8) (hab : a ≠ b) (hW : WF g t) : WF (brG g a b) t := by
  obtain ⟨a1, a2, a3, a4, a5, a6, a7, a8⟩ := hW
  have hx : ∀ j, j ≠ 2 → (j < 50 ∨ 74 ≤ j) → brG g a b j = g j := by
    intro j _ hj
    unfold brG
    grind [nup_app]
  have h1 : brG g a b 2 = g 2 + 1 := rfl
  refine ⟨?_, ?_, ?_, ?_, ?_, ?_, ?_, ?_⟩
  · rw [h1]
    simp (disch := omega) only [hx]
    omega
  · intro n hn; rw [hx _ (by omega) (by omega), hx _ (by omega) (by omega)]; exact a2 n hn
  · intro b' hb
    have := a3 b' hb
    unfold brG
    grind [nup_app]
  · intro b' hb
    rw [h1] at hb
    by_cases hbg : b' = g 2
    · subst hbg
      unfold brG
      grind [nup_app]
    · have := a4 b' (by omega)
      unfold brG
      grind [nup_app]
  · intro k hk; rw [hx 8 (by omega) (by omega)] at hk; rw [hx _ (by omega) (by omega), h1]; have := a5 k hk; omega
  · intro p hp
    unfold pers
    rw [hx 0 (by omega) (by omega)]
    simp only [og_br hg]
    exact a6 p hp
  · intro b' n hb hn; rw [hx _ (by omega) (by omega)]; exact a7 b' n hb hn
  · intro b' n hb hb2 hn; rw [h1] at hb; rw [hx _ (by omega) (by omega)]; exact a8 b' n (by omega) hb2 hn
theorem ci_bridge {a b : Int32} (hW : WF g t) (hA : RA g c) (h1 : okBri g a b → ∀ k l c', k < 8 → l < 8 → k ≠ l → a = nI k → b = nI l → RA (brG g k l) c' → FR c c' → c' 53 0 = 0 → Q (nI (g 2)) (NH c')) (h0 : ¬ okBri g a b → Q (-1) (NH c)) : am_C tT E (d + 3) mX11_bridge [.inr 0, .inl a, .inl b] (NH c) Q := by
  have e2 : c 14 0 = g 2 := hA.1.2.2.2.2.2.1
  have hz := hW.2.2.2.2.2.2.2
  obtain ⟨⟨w0, w1, w2, w3, w4, w5, w6, w7, w8⟩, -⟩ := hW
  refine am_C.of (by decide) (Nat.le_of_ble_eq_true rfl) ?_
  show am_R tT E _ mX11_bridge _ 0 [some (.inr 0), some (.inl a), some (.inl b)] [] (NH c)
  refine am_goS gX11_bridge [] 400 ?_
  simp only [am_eqs, am_eqk, am_eqv, lX11_bridge_0, lX11_bridge_1, fx_class, NH_at, NH_put, ↓reduceIte, List.mem_cons, List.not_mem_nil, or_false, or_self, false_or, true_and, and_true, Nat.reduceEqDiff, reduceCtorEq, List.length_cons, List.length_nil, Nat.reduceAdd, Nat.reduceLeDiff, Nat.reduceSub, Nat.reduceLT, Nat.zero_le, Nat.zero_add, forall_const, not_true_eq_false, not_false_eq_true, false_implies, true_implies, implies_true, Nat.zero_lt_succ, am_z0, am_z1]
  refine c_isPlace (fun z1 => ?_) (fun z1 => ?_)
  · simp (disch := omega) only [hs_at, hs_put, hs_63, NH_at, NH_put, NH_cpy, ni_add, ni_mul, ni_clamp, ni_in, ni_eq, ni_lt, ni_le, ni_sub, Nat.reduceAdd, Nat.reduceMul, Nat.reduceSub, eq_self, true_implies, not_true_eq_false, false_implies, and_true, true_and, not_false_eq_true, Nat.reduceEqDiff, Nat.reduceLeDiff, Nat.reduceLT, implies_true, ite_true, ite_false]
    refine c_isPlace (fun z2 => ?_) (fun z2 => ?_)
    · simp (disch := omega) only [hs_at, hs_put, hs_63, NH_at, NH_put, NH_cpy, ni_add, ni_mul, ni_clamp, ni_in, ni_eq, ni_lt, ni_le, ni_sub, Nat.reduceAdd, Nat.reduceMul, Nat.reduceSub, eq_self, true_implies, not_true_eq_false, false_implies, and_true, true_and, not_false_eq_true, Nat.reduceEqDiff, Nat.reduceLeDiff, Nat.reduceLT, implies_true, ite_true, ite_false, e2]
      refine ⟨fun e => h0 (fun q => q.2.1 e), fun e => ⟨fun e3 => ?_, fun e3 => h0 (fun q => by have := q.2.2; omega)⟩⟩
      have hh1 := h1 ⟨⟨z1, z2⟩, e, by omega⟩
      obtain ⟨k, hk, rfl⟩ := z1
      obtain ⟨l, hl, rfl⟩ := z2
      have hh1 := hh1 k l _ hk hl (fun q => e (by rw [q])) rfl rfl (ra_bridge (by omega) (fun n hn => hz (g 2) n (by omega) (by omega) hn) hA) (fun o ho1 ho2 => by funext j; grind [cup_app, flC]) (by grind [cup_app, flC])
      refine c_tforget ?_
      refine am_C.of (by decide) (Nat.le_of_ble_eq_true rfl) ?_
      show am_R tT E _ mX2_add _ 0 [some (.inr 14), some (.inl (nI k)), some (.inl (nI l)), none] [] (NH (cup c 53 0 0))
      refine am_goS gX2_add [] 400 ?_
      simp only [am_eqs, am_eqk, am_eqv, lX2_add_0, lX2_add_1, fx_class, NH_at, NH_put, ↓reduceIte, List.mem_cons, List.not_mem_nil, or_false, or_self, false_or, true_and, and_true, Nat.reduceEqDiff, reduceCtorEq, List.length_cons, List.length_nil, Nat.reduceAdd, Nat.reduceLeDiff, Nat.reduceSub, Nat.reduceLT, Nat.zero_le, Nat.zero_add, forall_const, not_true_eq_false, not_false_eq_true, false_implies, true_implies, implies_true, Nat.zero_lt_succ, am_z0, am_z1]
      simp (disch := omega) only [hs_at, hs_put, hs_63, NH_at, NH_put, NH_cpy, ni_add, ni_mul, ni_clamp, ni_in, ni_eq, ni_lt, ni_le, ni_sub, Nat.reduceAdd, Nat.reduceMul, Nat.reduceSub, eq_self, true_implies, not_true_eq_false, false_implies, and_true, true_and, not_false_eq_true, Nat.reduceEqDiff, Nat.reduceLeDiff, Nat.reduceLT, implies_true, ite_true, ite_false, nup_self, nup_ne, cup_self, cup_ne, e2]
      refine ⟨fun _ => ⟨by omega, by omega, ?_⟩, fun c => absurd c (by omega)⟩
      refine c_fill16 (by omega) (by omega) ?_
      simp (disch := omega) only [hs_at, hs_put, hs_63, NH_at, NH_put, NH_cpy, ni_add, ni_mul, ni_clamp, ni_in, ni_eq, ni_lt, ni_le, ni_sub, Nat.reduceAdd, Nat.reduceMul, Nat.reduceSub, eq_self, true_implies, not_true_eq_false, false_implies, and_true, true_and, not_false_eq_true, Nat.reduceEqDiff, Nat.reduceLeDiff, Nat.reduceLT, implies_true, ite_true, ite_false, nup_self, nup_ne, cup_self, cup_ne, e2]
      exact hh1
    · simp (disch := omega) only [hs_at, hs_put, hs_63, NH_at, NH_put, NH_cpy, ni_add, ni_mul, ni_clamp, ni_in, ni_eq, ni_lt, ni_le, ni_sub, Nat.reduceAdd, Nat.reduceMul, Nat.reduceSub, eq_self, true_implies, not_true_eq_false, false_implies, and_true, true_and, not_false_eq_true, Nat.reduceEqDiff, Nat.reduceLeDiff, Nat.reduceLT, implies_true, ite_true, ite_false]
      exact h0 (fun q => z2 q.1.2)
  · simp (disch := omega) only [hs_at, hs_put, hs_63, NH_at, NH_put, NH_cpy, ni_add, ni_mul, ni_clamp, ni_in, ni_eq, ni_lt, ni_le, ni_sub, Nat.reduceAdd, Nat.reduceMul, Nat.reduceSub, eq_self, true_implies, not_true_eq_false, false_implies, and_true, true_and, not_false_eq_true, Nat.reduceEqDiff, Nat.reduceLeDiff, Nat.reduceLT, implies_true, ite_true, ite_false]
    exact h0 (fun q => z1 q.1.1)
end OPS9
