/-! ===== part 28: name, person, bridge ===== -/
theorem had_congr {g g' : Nat → Nat} {p : Nat} (h2 : og g' p 2 = og g p 2) (hr : ∀ i, i < og g p 2 → og g' p (5 + i) = og g p (5 + i)) : had g' p = had g p := by
  have : ∀ k, k ≤ og g p 2 → hadK g' p k = hadK g p k := by
    intro k
    induction k with
    | zero => intro _; rfl
    | succ k ih => intro hk; simp only [hadK, ih (by omega), hr k (by omega)]
  unfold had
  rw [h2, this _ (Nat.le_refl _)]
section OPS8
variable {E : am_E} {d : Nat} {h : am_H} {Q : Int32 → am_H → Prop} {g : Nat → Nat} {c : Nat → Nat → Nat} {t : Nat}
theorem wf_name {k l : Nat} (hg : g 0 < 20) (hk : k ≤ 3) (hl : l ≤ 12) (hW : WF g t) : WF (nmG g k l) t := by
  obtain ⟨a1, a2, a3, a4, a5, a6, a7, a8⟩ := hW
  have hpow : 2 ^ g 0 ≤ 2 ^ (g 0 + 1) := Nat.pow_le_pow_right (by decide) (by omega)
  have h0 : nmG g k l 0 = g 0 + 1 := rfl
  have ho : ∀ p f, og (nmG g k l) p f = og g p f := by
    intro p f
    unfold nmG
    grind [nup_app, og]
  have hh : ∀ j, 45 ≤ j + 0 → 50 ≤ j → nmG g k l j = g j := by
    intro j _ hj
    unfold nmG
    grind [nup_app]
  have hi : ∀ j, 1 ≤ j → j ≤ 9 → nmG g k l j = g j := by
    intro j _ hj
    unfold nmG
    grind [nup_app]
  refine ⟨?_, ?_, ?_, ?_, ?_, ?_, ?_, ?_⟩
  · rw [h0, hi 1 (by omega) (by omega), hi 2 (by omega) (by omega), hi 3 (by omega) (by omega), hi 4 (by omega) (by omega), hi 5 (by omega) (by omega), hi 6 (by omega) (by omega), hi 7 (by omega) (by omega), hi 8 (by omega) (by omega)]
    omega
  · intro n hn
    have := a2 n hn
    unfold nmG
    grind [nup_app]
  · intro b hb
    rw [hh _ (by omega) (by omega), hh _ (by omega) (by omega)]
    exact a3 b hb
  · intro b hb
    rw [hi 2 (by omega) (by omega)] at hb
    rw [hh _ (by omega) (by omega), hh _ (by omega) (by omega)]
    exact a4 b hb
  · intro b hb
    rw [hi 8 (by omega) (by omega)] at hb
    rw [hh _ (by omega) (by omega), hi 2 (by omega) (by omega)]
    exact a5 b hb
  · intro p hp
    obtain ⟨b1, b2, b3, b4, b5, b6, b7⟩ := a6 p hp
    unfold pers
    simp only [ho, h0]
    exact ⟨b1, b2, b3, by omega, by omega, fun i hi => by have := b6 i hi; omega, b7⟩
  · intro b n hb hn
    rw [hh _ (by omega) (by omega)]
    exact a7 b n hb hn
  · intro b n hb hn
    rw [hi 2 (by omega) (by omega)] at hb
    rw [hh _ (by omega) (by omega)]
    exact a8 b n hb hn
theorem ci_name {a b : Int32} (hW : WF g t) (hA : RA g c) (h1 : okName g a b → ∀ k l c', k ≤ 3 → l ≤ 12 → a = nI k → b = nI l → RA (nmG g k l) c' → FR c c' → c' 53 0 = 0 → Q (nI (g 0)) (NH c')) (h0 : ¬ okName g a b → Q (-1) (NH c)) : am_C tT E (d + 1) mX11_name [.inr 0, .inl a, .inl b] (NH c) Q := by
  have e0 : c 1 4 = g 0 := hA.1.1.2.2.2.2.1
  obtain ⟨⟨w0, w1, w2, w3, w4, w5, w6, w7, w8⟩, -⟩ := hW
  refine am_C.of (by decide) (Nat.le_of_ble_eq_true rfl) ?_
  show am_R tT E _ mX11_name _ 0 [some (.inr 0), some (.inl a), some (.inl b), none] [] (NH c)
  refine am_goS gX11_name [] 400 ?_
  simp only [am_eqs, am_eqk, am_eqv, lX11_name_0, lX11_name_1, fx_class, NH_at, NH_put, ↓reduceIte, List.mem_cons, List.not_mem_nil, or_false, or_self, false_or, true_and, and_true, Nat.reduceEqDiff, reduceCtorEq, List.length_cons, List.length_nil, Nat.reduceAdd, Nat.reduceLeDiff, Nat.reduceSub, Nat.reduceLT, Nat.zero_le, Nat.zero_add, forall_const, not_true_eq_false, not_false_eq_true, false_implies, true_implies, implies_true, Nat.zero_lt_succ, am_z0, am_z1]
  refine c_within (fun z1 => ?_) (fun z1 => ?_)
  · simp (disch := omega) only [hs_at, hs_put, hs_63, NH_at, NH_put, NH_cpy, ni_add, ni_mul, ni_clamp, ni_in, ni_eq, ni_lt, ni_le, ni_sub, Nat.reduceAdd, Nat.reduceMul, Nat.reduceSub, eq_self, true_implies, not_true_eq_false, false_implies, and_true, true_and, not_false_eq_true, Nat.reduceEqDiff, Nat.reduceLeDiff, Nat.reduceLT, implies_true, ite_true, ite_false]
    refine c_within (fun z2 => ?_) (fun z2 => ?_)
    · simp (disch := omega) only [hs_at, hs_put, hs_63, NH_at, NH_put, NH_cpy, ni_add, ni_mul, ni_clamp, ni_in, ni_eq, ni_lt, ni_le, ni_sub, Nat.reduceAdd, Nat.reduceMul, Nat.reduceSub, eq_self, true_implies, not_true_eq_false, false_implies, and_true, true_and, not_false_eq_true, Nat.reduceEqDiff, Nat.reduceLeDiff, Nat.reduceLT, implies_true, ite_true, ite_false, e0]
      refine ⟨fun e => ?_, fun e => h0 (fun q => by have := q.2.2; omega)⟩
      have hh1 := h1 ⟨z1, z2, by omega⟩
      obtain ⟨k, hk, rfl⟩ := (isB_c (N := 3) (by omega)).mp z1
      obtain ⟨l, hl, rfl⟩ := (isR (a := 1) (n := 12) (by omega) (by omega)).mp z2
      have hh1 := hh1 k (1 + l) _ (by omega) (by omega) rfl rfl (ra_name (by omega) hA) (fun o ho1 ho2 => by grind [cup]) (by grind [cup_app])
      refine c_tforget ?_
      simp (disch := omega) only [hs_at, hs_put, hs_63, NH_at, NH_put, NH_cpy, ni_add, ni_mul, ni_clamp, ni_in, ni_eq, ni_lt, ni_le, ni_sub, Nat.reduceAdd, Nat.reduceMul, Nat.reduceSub, eq_self, true_implies, not_true_eq_false, false_implies, and_true, true_and, not_false_eq_true, Nat.reduceEqDiff, Nat.reduceLeDiff, Nat.reduceLT, implies_true, ite_true, ite_false, nup_self, nup_ne, cup_self, cup_ne, e0]
      refine ⟨by omega, by omega, hh1⟩
    · simp (disch := omega) only [hs_at, hs_put, hs_63, NH_at, NH_put, NH_cpy, ni_add, ni_mul, ni_clamp, ni_in, ni_eq, ni_lt, ni_le, ni_sub, Nat.reduceAdd, Nat.reduceMul, Nat.reduceSub, eq_self, true_implies, not_true_eq_false, false_implies, and_true, true_and, not_false_eq_true, Nat.reduceEqDiff, Nat.reduceLeDiff, Nat.reduceLT, implies_true, ite_true, ite_false]
      exact h0 (fun q => z2 q.2.1)
  · simp (disch := omega) only [hs_at, hs_put, hs_63, NH_at, NH_put, NH_cpy, ni_add, ni_mul, ni_clamp, ni_in, ni_eq, ni_lt, ni_le, ni_sub, Nat.reduceAdd, Nat.reduceMul, Nat.reduceSub, eq_self, true_implies, not_true_eq_false, false_implies, and_true, true_and, not_false_eq_true, Nat.reduceEqDiff, Nat.reduceLeDiff, Nat.reduceLT, implies_true, ite_true, ite_false]
    exact h0 (fun q => z1 q.1)
/-! person -/
def peG (g : Nat → Nat) (pl co : Nat) : Nat → Nat := fun j => if j = 1 then g 1 + 1 else if j = 90 + 16 * g 1 then pl else if j = 91 + 16 * g 1 then co else if 92 + 16 * g 1 ≤ j ∧ j < 106 + 16 * g 1 then 0 else g j
def okPers (g : Nat → Nat) (a b : Int32) : Prop := isB a 8 ∧ isB b 10000 ∧ g 1 < 8
theorem ri_person {a b : Int32} (hW : WF g t) (h1 : okPers g a b → ∀ k l, k < 8 → l < 10000 → a = nI k → b = nI l → Q (nI (g 1)) (hs (am_upd h 63 4 (nI 0)) (peG g k l))) (h0 : ¬ okPers g a b → Q (-1) (hs h g)) : am_C tT E (d + 2) mX12_person [.inr 63, .inl a, .inl b] (hs h g) Q := by
  obtain ⟨⟨w0, w1, w2, w3, w4, w5, w6, w7, w8⟩, -⟩ := hW
  refine am_C.of (by decide) (Nat.le_of_ble_eq_true rfl) ?_
  show am_R tT E _ mX12_person _ 0 [some (.inr 63), some (.inl a), some (.inl b), none, none] [] (hs h g)
  refine am_goS gX12_person [41] 400 ?_
  simp only [am_eqs, am_eqk, am_eqv, lX12_person_0, lX12_person_1, lX12_person_2, fx_ref, ↓reduceIte, List.mem_cons, List.not_mem_nil, or_false, or_self, false_or, true_and, and_true, Nat.reduceEqDiff, reduceCtorEq, List.length_cons, List.length_nil, Nat.reduceAdd, Nat.reduceLeDiff, Nat.reduceSub, Nat.reduceLT, Nat.zero_le, Nat.zero_add, forall_const, not_true_eq_false, not_false_eq_true, false_implies, true_implies, implies_true, Nat.zero_lt_succ, am_z0, am_z1]
  refine r_isPlace (fun z1 => ?_) (fun z1 => ?_)
  · simp (disch := omega) only [hs_at, hs_put, hs_63, NH_at, NH_put, NH_cpy, ni_add, ni_mul, ni_clamp, ni_in, ni_eq, ni_lt, ni_le, ni_sub, Nat.reduceAdd, Nat.reduceMul, Nat.reduceSub, eq_self, true_implies, not_true_eq_false, false_implies, and_true, true_and, not_false_eq_true, Nat.reduceEqDiff, Nat.reduceLeDiff, Nat.reduceLT, implies_true, ite_true, ite_false]
    refine r_isIn (fun z2 => ?_) (fun z2 => ?_)
    · have z2 := (isB_c (N := 9999) (by omega)).mp z2
      simp (disch := omega) only [hs_at, hs_put, hs_63, NH_at, NH_put, NH_cpy, ni_add, ni_mul, ni_clamp, ni_in, ni_eq, ni_lt, ni_le, ni_sub, Nat.reduceAdd, Nat.reduceMul, Nat.reduceSub, eq_self, true_implies, not_true_eq_false, false_implies, and_true, true_and, not_false_eq_true, Nat.reduceEqDiff, Nat.reduceLeDiff, Nat.reduceLT, implies_true, ite_true, ite_false]
      refine ⟨fun e => h0 (fun q => by have := q.2.2; omega), fun e => ?_⟩
      have hh1 := h1 ⟨z1, z2, by omega⟩
      obtain ⟨k, hk, rfl⟩ := z1
      obtain ⟨l, hl, rfl⟩ := z2
      have hh1 := hh1 k l (by omega) (by omega) rfl rfl
      have loop : ∀ m i, i + m = 16 → am_R tT E (d + 2) mX12_person Q 41 [some (.inr 63), some (.inl (nI k)), some (.inl (nI l)), some (.inl (nI (g 1))), some (.inl (nI i))] [] (hs h (fun j => if 90 + 16 * g 1 ≤ j ∧ j < 90 + 16 * g 1 + i then 0 else g j)) := by
        intro m
        induction m with
        | zero =>
          intro i hi
          refine am_goS gX12_person [41] 400 ?_
          simp only [am_eqs, am_eqk, am_eqv, lX12_person_0, lX12_person_1, lX12_person_2, fx_ref, ↓reduceIte, List.mem_cons, List.not_mem_nil, or_false, or_self, false_or, true_and, and_true, Nat.reduceEqDiff, reduceCtorEq, List.length_cons, List.length_nil, Nat.reduceAdd, Nat.reduceLeDiff, Nat.reduceSub, Nat.reduceLT, Nat.zero_le, Nat.zero_add, forall_const, not_true_eq_false, not_false_eq_true, false_implies, true_implies, implies_true, Nat.zero_lt_succ, am_z0, am_z1]
          simp (disch := omega) only [hs_at, hs_put, hs_63, NH_at, NH_put, NH_cpy, ni_add, ni_mul, ni_clamp, ni_in, ni_eq, ni_lt, ni_le, ni_sub, Nat.reduceAdd, Nat.reduceMul, Nat.reduceSub, eq_self, true_implies, not_true_eq_false, false_implies, and_true, true_and, not_false_eq_true, Nat.reduceEqDiff, Nat.reduceLeDiff, Nat.reduceLT, implies_true, ite_true, ite_false]
          refine ⟨fun _ => ?_, fun c => absurd c (by omega)⟩
          refine r_gives (by omega) (by omega) ?_
          refine r_gives (by omega) (by omega) ?_
          simp (disch := omega) only [hs_at, hs_put, hs_63, NH_at, NH_put, NH_cpy, ni_add, ni_mul, ni_clamp, ni_in, ni_eq, ni_lt, ni_le, ni_sub, Nat.reduceAdd, Nat.reduceMul, Nat.reduceSub, eq_self, true_implies, not_true_eq_false, false_implies, and_true, true_and, not_false_eq_true, Nat.reduceEqDiff, Nat.reduceLeDiff, Nat.reduceLT, implies_true, ite_true, ite_false, nup_self, nup_ne, cup_self, cup_ne]
          refine r_forgets ?_
          have e : nup (nup (nup (fun j => if 90 + 16 * g 1 ≤ j ∧ j < 90 + 16 * g 1 + i then 0 else g j) (90 + 16 * g 1 + 0) k) (90 + 16 * g 1 + 1) l) 1 ((if 90 + 16 * g 1 ≤ 1 ∧ 1 < 90 + 16 * g 1 + i then 0 else g 1) + 1) = peG g k l := by
            funext j
            unfold peG
            grind [nup_app]
          rw [e]
          exact hh1
        | succ m ih =>
          intro i hi
          refine am_goS gX12_person [41] 400 ?_
          simp only [am_eqs, am_eqk, am_eqv, lX12_person_0, lX12_person_1, lX12_person_2, fx_ref, ↓reduceIte, List.mem_cons, List.not_mem_nil, or_false, or_self, false_or, true_and, and_true, Nat.reduceEqDiff, reduceCtorEq, List.length_cons, List.length_nil, Nat.reduceAdd, Nat.reduceLeDiff, Nat.reduceSub, Nat.reduceLT, Nat.zero_le, Nat.zero_add, forall_const, not_true_eq_false, not_false_eq_true, false_implies, true_implies, implies_true, Nat.zero_lt_succ, am_z0, am_z1]
          simp (disch := omega) only [hs_at, hs_put, hs_63, NH_at, NH_put, NH_cpy, ni_add, ni_mul, ni_clamp, ni_in, ni_eq, ni_lt, ni_le, ni_sub, Nat.reduceAdd, Nat.reduceMul, Nat.reduceSub, eq_self, true_implies, not_true_eq_false, false_implies, and_true, true_and, not_false_eq_true, Nat.reduceEqDiff, Nat.reduceLeDiff, Nat.reduceLT, implies_true, ite_true, ite_false]
          refine ⟨fun c => absurd c (by omega), fun _ => ?_⟩
          refine r_gives (by omega) (by omega) ?_
          have e : nup (fun j => if 90 + 16 * g 1 ≤ j ∧ j < 90 + 16 * g 1 + i then 0 else g j) (90 + 16 * g 1 + i) 0 = (fun j => if 90 + 16 * g 1 ≤ j ∧ j < 90 + 16 * g 1 + (i + 1) then 0 else g j) := by
            funext j
            grind [nup_app]
          rw [e]
          exact ih (i + 1) (by omega)
      have e0 : (fun j => if 90 + 16 * g 1 ≤ j ∧ j < 90 + 16 * g 1 + 0 then 0 else g j) = g := by
        funext j
        exact if_neg (by omega)
      have := loop 16 0 (by omega)
      rw [e0] at this
      exact this
    · simp (disch := omega) only [hs_at, hs_put, hs_63, NH_at, NH_put, NH_cpy, ni_add, ni_mul, ni_clamp, ni_in, ni_eq, ni_lt, ni_le, ni_sub, Nat.reduceAdd, Nat.reduceMul, Nat.reduceSub, eq_self, true_implies, not_true_eq_false, false_implies, and_true, true_and, not_false_eq_true, Nat.reduceEqDiff, Nat.reduceLeDiff, Nat.reduceLT, implies_true, ite_true, ite_false]
      exact h0 (fun q => z2 ((isB_c (N := 9999) (by omega)).mpr q.2.1))
  · simp (disch := omega) only [hs_at, hs_put, hs_63, NH_at, NH_put, NH_cpy, ni_add, ni_mul, ni_clamp, ni_in, ni_eq, ni_lt, ni_le, ni_sub, Nat.reduceAdd, Nat.reduceMul, Nat.reduceSub, eq_self, true_implies, not_true_eq_false, false_implies, and_true, true_and, not_false_eq_true, Nat.reduceEqDiff, Nat.reduceLeDiff, Nat.reduceLT, implies_true, ite_true, ite_false]
    exact h0 (fun q => z1 q.1)
theorem og_pe {pl co p f : Nat} (hp : p ≠ g 1) (hf : f < 16) : og (peG g pl co) p f = og g p f := by
  unfold og peG
  grind
theorem og_pe0 {pl co f : Nat} (hf : f < 16) : og (peG g pl co) (g 1) f = if f = 0 then pl else if f = 1 then co else 0 := by
  unfold og peG
  grind
theorem ra_person {pl co : Nat} (hg : g 1 < 8) (hm : ∀ p, p < 8 → og g p 2 ≤ 9) (hA : RA g c) : RA (peG g pl co) (cup (cup (cup (cup (cup (cup (cup (cup c 53 0 0) 7 (g 1) pl) 8 (g 1) co) 9 (g 1) 0) 10 (g 1) 0) 11 (g 1) 0) 12 (g 1) 0) 6 0 (g 1 + 1)) := by
  obtain ⟨⟨a1, a2, a3, a4, a5, a6, a7⟩, ⟨b1, b2⟩, hk, he⟩ := hA
  have hx : ∀ j, j ≠ 1 → (j < 90 ∨ 218 ≤ j) → peG g pl co j = g j := by
    intro j _ hj
    unfold peG
    grind
  refine ⟨⟨?_, ?_, ?_, ?_, ?_, ?_, ?_⟩, ⟨?_, ?_⟩, ?_, ?_⟩
  · simp (disch := omega) only [hx]
    grind [cup_app]
  · intro i hi; rw [hx _ (by omega) (by omega)]; grind [cup_app]
  · intro i hi; rw [hx _ (by omega) (by omega)]; grind [cup_app]
  · intro i hi; rw [hx _ (by omega) (by omega)]; grind [cup_app]
  · intro i hi; rw [hx _ (by omega) (by omega)]; grind [cup_app]
  · rw [hx _ (by omega) (by omega)]; grind [cup_app]
  · intro i hi; rw [hx _ (by omega) (by omega)]; grind [cup_app]
  · show _ = g 1 + 1
    grind [cup_app]
  · intro p hp
    by_cases hpg : p = g 1
    · subst hpg
      have hd0 : had (peG g pl co) (g 1) = 0 := by unfold had; rw [og_pe0 (by omega)]; rfl
      rw [hd0, og_pe0 (by omega), og_pe0 (by omega), og_pe0 (by omega), og_pe0 (by omega)]
      refine ⟨by grind [cup_app], by grind [cup_app], by grind [cup_app], by grind [cup_app], by grind [cup_app], fun i hi => ?_⟩
      simp at hi
    · have hmp := hm p hp
      have hhc : had (peG g pl co) p = had g p := had_congr (og_pe hpg (by omega)) (fun i hi => og_pe hpg (by omega))
      obtain ⟨b20, b21, b22, b23, b24, b25⟩ := b2 p hp
      rw [hhc, og_pe hpg (by omega), og_pe hpg (by omega), og_pe hpg (by omega), og_pe hpg (by omega)]
      refine ⟨by grind [cup_app], by grind [cup_app], by grind [cup_app], by grind [cup_app], by grind [cup_app], fun i hi => ?_⟩
      rw [og_pe hpg (by omega)]
      have := b25 i hi
      grind [cup_app]
  · intro b n hb hn
    rw [hx _ (by omega) (by omega)]
    have := hk b n hb hn
    grind [cup_app]
  · intro p hp
    have := he p hp
    by_cases hpg : p = g 1
    · subst hpg; rw [og_pe0 (by omega)]; grind [cup_app]
    · rw [og_pe hpg (by omega)]; grind [cup_app]
theorem wf_person {pl co : Nat} (hg : g 1 < 8) (hpl : pl < 8) (hco : co ≤ 9999) (hW : WF g t) : WF (peG g pl co) t := by
  obtain ⟨a1, a2, a3, a4, a5, a6, a7, a8⟩ := hW
  have hx : ∀ j, j ≠ 1 → (j < 90 ∨ 218 ≤ j) → peG g pl co j = g j := by
    intro j _ hj
    unfold peG
    grind
  have h1 : peG g pl co 1 = g 1 + 1 := rfl
  refine ⟨?_, ?_, ?_, ?_, ?_, ?_, ?_, ?_⟩
  · rw [h1]
    simp (disch := omega) only [hx]
    omega
  · intro n hn; rw [hx _ (by omega) (by omega), hx _ (by omega) (by omega)]; exact a2 n hn
  · intro b hb; rw [hx _ (by omega) (by omega), hx _ (by omega) (by omega)]; exact a3 b hb
  · intro b hb; rw [hx 2 (by omega) (by omega)] at hb; rw [hx _ (by omega) (by omega), hx _ (by omega) (by omega)]; exact a4 b hb
  · intro b hb; rw [hx 8 (by omega) (by omega)] at hb; rw [hx _ (by omega) (by omega), hx 2 (by omega) (by omega)]; exact a5 b hb
  · intro p hp
    unfold pers
    rw [hx 0 (by omega) (by omega)]
    by_cases hpg : p = g 1
    · subst hpg
      simp (disch := omega) only [og_pe0]
      have := Nat.two_pow_pos (g 0)
      grind
    · have := a6 p hp
      obtain ⟨b1, b2, b3, b4, b5, b6, b7⟩ := this
      rw [og_pe hpg (by omega), og_pe hpg (by omega), og_pe hpg (by omega), og_pe hpg (by omega), og_pe hpg (by omega)]
      refine ⟨b1, b2, b3, b4, b5, fun i hi => ?_, fun i j hij hj => ?_⟩
      · rw [og_pe hpg (by omega)]; exact b6 i hi
      · rw [og_pe hpg (by omega), og_pe hpg (by omega)]; exact b7 i j hij hj
  · intro b n hb hn; rw [hx _ (by omega) (by omega)]; exact a7 b n hb hn
  · intro b n hb hb2 hn; rw [hx 2 (by omega) (by omega)] at hb; rw [hx _ (by omega) (by omega)]; exact a8 b n hb hb2 hn
theorem ci_person {a b : Int32} (hW : WF g t) (hA : RA g c) (h1 : okPers g a b → ∀ k l c', k < 8 → l < 10000 → a = nI k → b = nI l → RA (peG g k l) c' → FR c c' → c' 53 0 = 0 → Q (nI (g 1)) (NH c')) (h0 : ¬ okPers g a b → Q (-1) (NH c)) : am_C tT E (d + 2) mX11_person [.inr 0, .inl a, .inl b] (NH c) Q := by
  have e1 : c 6 0 = g 1 := hA.2.1.1
  have hm : ∀ p, p < 8 → og g p 2 ≤ 9 := fun p hp => (hW.p hp).2.2.1
  obtain ⟨⟨w0, w1, w2, w3, w4, w5, w6, w7, w8⟩, -⟩ := hW
  refine am_C.of (by decide) (Nat.le_of_ble_eq_true rfl) ?_
  show am_R tT E _ mX11_person _ 0 [some (.inr 0), some (.inl a), some (.inl b)] [] (NH c)
  refine am_goS gX11_person [] 400 ?_
  simp only [am_eqs, am_eqk, am_eqv, lX11_person_0, lX11_person_1, fx_class, NH_at, NH_put, ↓reduceIte, List.mem_cons, List.not_mem_nil, or_false, or_self, false_or, true_and, and_true, Nat.reduceEqDiff, reduceCtorEq, List.length_cons, List.length_nil, Nat.reduceAdd, Nat.reduceLeDiff, Nat.reduceSub, Nat.reduceLT, Nat.zero_le, Nat.zero_add, forall_const, not_true_eq_false, not_false_eq_true, false_implies, true_implies, implies_true, Nat.zero_lt_succ, am_z0, am_z1]
  refine c_isPlace (fun z1 => ?_) (fun z1 => ?_)
  · simp (disch := omega) only [hs_at, hs_put, hs_63, NH_at, NH_put, NH_cpy, ni_add, ni_mul, ni_clamp, ni_in, ni_eq, ni_lt, ni_le, ni_sub, Nat.reduceAdd, Nat.reduceMul, Nat.reduceSub, eq_self, true_implies, not_true_eq_false, false_implies, and_true, true_and, not_false_eq_true, Nat.reduceEqDiff, Nat.reduceLeDiff, Nat.reduceLT, implies_true, ite_true, ite_false]
    refine c_within (fun z2 => ?_) (fun z2 => ?_)
    · have z2 := (isB_c (N := 9999) (by omega)).mp z2
      simp (disch := omega) only [hs_at, hs_put, hs_63, NH_at, NH_put, NH_cpy, ni_add, ni_mul, ni_clamp, ni_in, ni_eq, ni_lt, ni_le, ni_sub, Nat.reduceAdd, Nat.reduceMul, Nat.reduceSub, eq_self, true_implies, not_true_eq_false, false_implies, and_true, true_and, not_false_eq_true, Nat.reduceEqDiff, Nat.reduceLeDiff, Nat.reduceLT, implies_true, ite_true, ite_false, e1]
      refine ⟨fun e => ?_, fun e => h0 (fun q => by have := q.2.2; omega)⟩
      have hh1 := h1 ⟨z1, z2, by omega⟩
      obtain ⟨k, hk, rfl⟩ := z1
      obtain ⟨l, hl, rfl⟩ := z2
      have hh1 := hh1 k l _ (by omega) (by omega) rfl rfl (ra_person (by omega) hm hA) (fun o ho1 ho2 => by grind [cup]) (by grind [cup_app])
      refine c_tforget ?_
      refine am_C.of (by decide) (Nat.le_of_ble_eq_true rfl) ?_
      show am_R tT E _ mX5_add _ 0 [some (.inr 6), some (.inl (nI k)), some (.inl (nI l)), none] [] (NH (cup c 53 0 0))
      refine am_goS gX5_add [] 400 ?_
      simp only [am_eqs, am_eqk, am_eqv, lX5_add_0, lX5_add_1, fx_class, NH_at, NH_put, ↓reduceIte, List.mem_cons, List.not_mem_nil, or_false, or_self, false_or, true_and, and_true, Nat.reduceEqDiff, reduceCtorEq, List.length_cons, List.length_nil, Nat.reduceAdd, Nat.reduceLeDiff, Nat.reduceSub, Nat.reduceLT, Nat.zero_le, Nat.zero_add, forall_const, not_true_eq_false, not_false_eq_true, false_implies, true_implies, implies_true, Nat.zero_lt_succ, am_z0, am_z1]
      simp (disch := omega) only [hs_at, hs_put, hs_63, NH_at, NH_put, NH_cpy, ni_add, ni_mul, ni_clamp, ni_in, ni_eq, ni_lt, ni_le, ni_sub, Nat.reduceAdd, Nat.reduceMul, Nat.reduceSub, eq_self, true_implies, not_true_eq_false, false_implies, and_true, true_and, not_false_eq_true, Nat.reduceEqDiff, Nat.reduceLeDiff, Nat.reduceLT, implies_true, ite_true, ite_false, nup_self, nup_ne, cup_self, cup_ne, e1]
      exact ⟨fun _ => ⟨by omega, by omega, by omega, by omega, by omega, by omega, hh1⟩, fun c => absurd c (by omega)⟩
    · simp (disch := omega) only [hs_at, hs_put, hs_63, NH_at, NH_put, NH_cpy, ni_add, ni_mul, ni_clamp, ni_in, ni_eq, ni_lt, ni_le, ni_sub, Nat.reduceAdd, Nat.reduceMul, Nat.reduceSub, eq_self, true_implies, not_true_eq_false, false_implies, and_true, true_and, not_false_eq_true, Nat.reduceEqDiff, Nat.reduceLeDiff, Nat.reduceLT, implies_true, ite_true, ite_false]
      exact h0 (fun q => z2 ((isB_c (N := 9999) (by omega)).mpr q.2.1))
  · simp (disch := omega) only [hs_at, hs_put, hs_63, NH_at, NH_put, NH_cpy, ni_add, ni_mul, ni_clamp, ni_in, ni_eq, ni_lt, ni_le, ni_sub, Nat.reduceAdd, Nat.reduceMul, Nat.reduceSub, eq_self, true_implies, not_true_eq_false, false_implies, and_true, true_and, not_false_eq_true, Nat.reduceEqDiff, Nat.reduceLeDiff, Nat.reduceLT, implies_true, ite_true, ite_false]
    exact h0 (fun q => z1 q.1)
end OPS8
