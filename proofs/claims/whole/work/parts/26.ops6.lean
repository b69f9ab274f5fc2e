/-! ===== part 26: estate, night ===== -/
section OPS6
variable {E : am_E} {d : Nat} {h : am_H} {Q : Int32 → am_H → Prop} {g : Nat → Nat} {c : Nat → Nat → Nat} {t : Nat}
theorem cnt_le (s : Nat) : ∀ k, cntK s k ≤ k := by
  intro k
  induction k with
  | zero => exact Nat.le_refl _
  | succ k ih =>
    simp only [cntK]
    rcases bit01 s k with e | e <;> omega
theorem couN_lt (g : Nat → Nat) (x : Nat × Nat) (hx : x.1 < 256) : ∀ o, o ≤ 8 → (couN g o x).1 < 256 := by
  intro o
  induction o with
  | zero => intro _; exact hx
  | succ o ih =>
    intro ho
    simp only [couN]
    split
    · exact ih (by omega)
    · refine Nat.or_lt_two_pow (n := 8) (ih (by omega)) ?_
      rw [Nat.one_shiftLeft]
      exact Nat.pow_lt_pow_right (by omega) (by omega)
theorem couM_lt (g : Nat → Nat) (x : Nat × Nat) (hx : x.1 < 256) (h1 : g 1 ≤ 8) : ∀ r, (couM g r x).1 < 256 := by
  intro r
  induction r with
  | zero => exact hx
  | succ r ih => exact couN_lt g _ ih (g 1) h1
theorem cou_lt {p : Nat} (hp : p < 8) (h1 : g 1 ≤ 8) : cou g p < 256 := by
  refine Nat.lt_of_le_of_lt Nat.and_le_left (couM_lt g _ ?_ h1 _)
  show 1 <<< p < 256
  rw [Nat.one_shiftLeft]
  exact Nat.pow_lt_pow_right (m := p) (n := 8) (by omega) (by omega)
noncomputable def sp_estate (g : Nat → Nat) (vp : Int32) : Int32 := cif (isB vp (g 1) ∧ ¬ cntK (cou g vp.toNatClampNeg) 20 = 0) (nI (og g vp.toNatClampNeg 1 / cntK (cou g vp.toNatClampNeg) 20)) (-1)
theorem ri_estate {vp : Int32} (hW : WF g t) (hq : Q (sp_estate g vp) (hs h g)) : am_C tT E (d + 3) mX12_estate [.inr 63, .inl vp] (hs h g) Q := by
  have w1 := hW.1.2.1
  refine am_C.of (by decide) (Nat.le_of_ble_eq_true rfl) ?_
  show am_R tT E _ mX12_estate _ 0 [some (.inr 63), some (.inl vp), none] [] (hs h g)
  refine am_goS gX12_estate [] 400 ?_
  simp only [am_eqs, am_eqk, am_eqv, lX12_estate_0, fx_ref, ↓reduceIte, List.mem_cons, List.not_mem_nil, or_false, or_self, false_or, true_and, and_true, Nat.reduceEqDiff, reduceCtorEq, List.length_cons, List.length_nil, Nat.reduceAdd, Nat.reduceLeDiff, Nat.reduceSub, Nat.reduceLT, Nat.zero_le, Nat.zero_add, forall_const, not_true_eq_false, not_false_eq_true, false_implies, true_implies, implies_true, Nat.zero_lt_succ, am_z0, am_z1]
  refine r_isPerson (by omega) (fun z => ?_) (fun z => ?_)
  · simp (disch := omega) only [hs_at, hs_put, hs_63, NH_at, NH_put, NH_cpy, ni_add, ni_mul, ni_clamp, ni_in, ni_eq, ni_lt, ni_le, ni_sub, Nat.reduceAdd, Nat.reduceMul, Nat.reduceSub, eq_self, true_implies, not_true_eq_false, false_implies, and_true, true_and, not_false_eq_true, Nat.reduceEqDiff, Nat.reduceLeDiff, Nat.reduceLT, implies_true, ite_true, ite_false]
    refine ri_cousins hW ?_
    rw [sp_cousins, cif_pos z]
    obtain ⟨p, hp, rfl⟩ := z
    have hpe := hW.p (show p < 8 by omega)
    rw [ni_clamp (by omega)]
    have hc := cou_lt (g := g) (show p < 8 by omega) w1
    have hn := cnt_le (cou g p) 20
    refine r_count (by omega) ?_
    simp (disch := omega) only [hs_at, hs_put, hs_63, NH_at, NH_put, NH_cpy, ni_add, ni_mul, ni_clamp, ni_in, ni_eq, ni_lt, ni_le, ni_sub, Nat.reduceAdd, Nat.reduceMul, Nat.reduceSub, eq_self, true_implies, not_true_eq_false, false_implies, and_true, true_and, not_false_eq_true, Nat.reduceEqDiff, Nat.reduceLeDiff, Nat.reduceLT, implies_true, ite_true, ite_false]
    refine ⟨fun e => ?_, fun e => ?_⟩
    · rw [sp_estate, cif_neg (fun q => q.2 (by rw [ni_clamp (by omega)]; exact e))] at hq
      exact hq
    · refine r_own (by omega) (by omega) ?_
      have h2 := hpe.2.1
      rw [sp_estate, ni_clamp (by omega), cif_pos ⟨⟨p, hp, rfl⟩, e⟩] at hq
      rw [ni_div (by omega) (by omega)]
      refine ⟨?_, hq⟩
      show ¬ nI _ = nI 0
      rw [ni_eq (by omega) (by omega)]
      exact e
  · simp (disch := omega) only [hs_at, hs_put, hs_63, NH_at, NH_put, NH_cpy, ni_add, ni_mul, ni_clamp, ni_in, ni_eq, ni_lt, ni_le, ni_sub, Nat.reduceAdd, Nat.reduceMul, Nat.reduceSub, eq_self, true_implies, not_true_eq_false, false_implies, and_true, true_and, not_false_eq_true, Nat.reduceEqDiff, Nat.reduceLeDiff, Nat.reduceLT, implies_true, ite_true, ite_false]
    rw [sp_estate, cif_neg (fun q => z q.1)] at hq
    exact hq
theorem ci_estate {vp : Int32} (hW : WF g t) (hR : RP g c) (he : RE g c) (hq : Q (sp_estate g vp) (NH c)) : am_C tT E (d + 1) mX11_estate [.inr 0, .inl vp] (NH c) Q := by
  have w1 := hW.1.2.1
  have e1 := hR.1
  refine am_C.of (by decide) (Nat.le_of_ble_eq_true rfl) ?_
  show am_R tT E _ mX11_estate _ 0 [some (.inr 0), some (.inl vp), none] [] (NH c)
  refine am_goS gX11_estate [] 400 ?_
  simp only [am_eqs, am_eqk, am_eqv, lX11_estate_0, lX11_estate_1, fx_class, NH_at, NH_put, ↓reduceIte, List.mem_cons, List.not_mem_nil, or_false, or_self, false_or, true_and, and_true, Nat.reduceEqDiff, reduceCtorEq, List.length_cons, List.length_nil, Nat.reduceAdd, Nat.reduceLeDiff, Nat.reduceSub, Nat.reduceLT, Nat.zero_le, Nat.zero_add, forall_const, not_true_eq_false, not_false_eq_true, false_implies, true_implies, implies_true, Nat.zero_lt_succ, am_z0, am_z1]
  refine c_isPerson (by omega) (fun z => ?_) (fun z => ?_)
  · simp (disch := omega) only [hs_at, hs_put, hs_63, NH_at, NH_put, NH_cpy, ni_add, ni_mul, ni_clamp, ni_in, ni_eq, ni_lt, ni_le, ni_sub, Nat.reduceAdd, Nat.reduceMul, Nat.reduceSub, eq_self, true_implies, not_true_eq_false, false_implies, and_true, true_and, not_false_eq_true, Nat.reduceEqDiff, Nat.reduceLeDiff, Nat.reduceLT, implies_true, ite_true, ite_false]
    rw [e1] at z
    obtain ⟨p, hp, rfl⟩ := z
    have hpe := hW.p (show p < 8 by omega)
    have hc := cou_lt (g := g) (show p < 8 by omega) w1
    have hn := cnt_le (cou g p) 20
    have q1 := (hR.2 p (by omega)).2.1
    refine c_cousinsOf hp hW hR he ?_
    refine c_bitCount (by omega) ?_
    simp (disch := omega) only [hs_at, hs_put, hs_63, NH_at, NH_put, NH_cpy, ni_add, ni_mul, ni_clamp, ni_in, ni_eq, ni_lt, ni_le, ni_sub, Nat.reduceAdd, Nat.reduceMul, Nat.reduceSub, eq_self, true_implies, not_true_eq_false, false_implies, and_true, true_and, not_false_eq_true, Nat.reduceEqDiff, Nat.reduceLeDiff, Nat.reduceLT, implies_true, ite_true, ite_false, q1]
    refine ⟨fun e => ?_, fun e => ?_⟩
    · rw [sp_estate, cif_neg (fun q => q.2 (by rw [ni_clamp (by omega)]; exact e))] at hq
      exact hq
    · have h2 := hpe.2.1
      rw [sp_estate, ni_clamp (by omega), cif_pos ⟨⟨p, hp, rfl⟩, e⟩] at hq
      rw [ni_div (by omega) (by omega)]
      refine ⟨by omega, ?_, hq⟩
      show ¬ nI _ = nI 0
      rw [ni_eq (by omega) (by omega)]
      exact e
  · simp (disch := omega) only [hs_at, hs_put, hs_63, NH_at, NH_put, NH_cpy, ni_add, ni_mul, ni_clamp, ni_in, ni_eq, ni_lt, ni_le, ni_sub, Nat.reduceAdd, Nat.reduceMul, Nat.reduceSub, eq_self, true_implies, not_true_eq_false, false_implies, and_true, true_and, not_false_eq_true, Nat.reduceEqDiff, Nat.reduceLeDiff, Nat.reduceLT, implies_true, ite_true, ite_false]
    rw [e1] at z
    rw [sp_estate, cif_neg (fun q => z q.1)] at hq
    exact hq
/-- what one lacks of another's names -/
def lak (g : Nat → Nat) (p q : Nat) : Nat := had g q &&& (had g p ^^^ 4294967295)
def nigOK (g : Nat → Nat) (s k : Nat) : Prop := ∀ n, n < k → s >>> n &&& 1 = 1 → ∃ b, b < g 2 ∧ 0 < g (220 + 20 * b + n)
noncomputable def sp_night (g : Nat → Nat) (vp vq : Int32) : Int32 := cif ((isB vp (g 1) ∧ isB vq (g 1)) ∧ ¬ vp = vq) (cif (nigOK g (lak g vp.toNatClampNeg vq.toNatClampNeg) (g 0) ∧ og g vp.toNatClampNeg 2 + cntK (lak g vp.toNatClampNeg vq.toNatClampNeg) 20 ≤ 9) (nI (cntK (lak g vp.toNatClampNeg vq.toNatClampNeg) 20)) (-1)) (-1)
theorem ri_night {vp vq : Int32} (ht : t < 1000000) (hW : WF g t) (hq : Q (sp_night g vp vq) (hs h g)) : am_C tT E (d + 2) mX12_night [.inr 63, .inl vp, .inl vq] (hs h g) Q := by
  have hW2 := hW
  obtain ⟨⟨w0, w1, w2, w3, w4, w5, w6, w7, w8⟩, -, -, -, -, -, wk, -⟩ := hW
  refine am_C.of (by decide) (Nat.le_of_ble_eq_true rfl) ?_
  show am_R tT E _ mX12_night _ 0 [some (.inr 63), some (.inl vp), some (.inl vq), none, none, none, none] [] (hs h g)
  refine am_goS gX12_night [40] 400 ?_
  simp only [am_eqs, am_eqk, am_eqv, lX12_night_0, lX12_night_1, lX12_night_2, lX12_night_3, fx_ref, ↓reduceIte, List.mem_cons, List.not_mem_nil, or_false, or_self, false_or, true_and, and_true, Nat.reduceEqDiff, reduceCtorEq, List.length_cons, List.length_nil, Nat.reduceAdd, Nat.reduceLeDiff, Nat.reduceSub, Nat.reduceLT, Nat.zero_le, Nat.zero_add, forall_const, not_true_eq_false, not_false_eq_true, false_implies, true_implies, implies_true, Nat.zero_lt_succ, am_z0, am_z1]
  refine r_isPerson (by omega) (fun z1 => ?_) (fun z1 => ?_)
  · simp (disch := omega) only [hs_at, hs_put, hs_63, NH_at, NH_put, NH_cpy, ni_add, ni_mul, ni_clamp, ni_in, ni_eq, ni_lt, ni_le, ni_sub, Nat.reduceAdd, Nat.reduceMul, Nat.reduceSub, eq_self, true_implies, not_true_eq_false, false_implies, and_true, true_and, not_false_eq_true, Nat.reduceEqDiff, Nat.reduceLeDiff, Nat.reduceLT, implies_true, ite_true, ite_false]
    refine r_isPerson (by omega) (fun z2 => ?_) (fun z2 => ?_)
    · simp (disch := omega) only [hs_at, hs_put, hs_63, NH_at, NH_put, NH_cpy, ni_add, ni_mul, ni_clamp, ni_in, ni_eq, ni_lt, ni_le, ni_sub, Nat.reduceAdd, Nat.reduceMul, Nat.reduceSub, eq_self, true_implies, not_true_eq_false, false_implies, and_true, true_and, not_false_eq_true, Nat.reduceEqDiff, Nat.reduceLeDiff, Nat.reduceLT, implies_true, ite_true, ite_false]
      refine ⟨fun e => ?_, fun e => ?_⟩
      · rw [sp_night, cif_neg (fun q => q.2 e)] at hq
        exact hq
      · rw [sp_night, cif_pos ⟨⟨z1, z2⟩, e⟩] at hq
        obtain ⟨p, hp, rfl⟩ := z1
        obtain ⟨q, hqq, rfl⟩ := z2
        rw [ni_clamp (by omega), ni_clamp (by omega)] at hq
        have hpp := hW2.p (show p < 8 by omega)
        have hpq := hW2.p (show q < 8 by omega)
        have hhq := had_20 w0 hpq
        have hand := Nat.and_le_left (n := had g q) (m := had g p ^^^ 4294967295)
        refine r_had (by omega) hpq.2.2.1 (hpq.r20 w0) ?_
        refine r_had (by omega) hpp.2.2.1 (hpp.r20 w0) ?_
        rw [ni_m1, ni_xor, ni_and]
        change am_R tT E (d + 2) mX12_night Q 40 [some (.inr 63), some (.inl (nI p)), some (.inl (nI q)), some (.inl (nI (lak g p q))), some (.inl (nI 0)), none, none] [] (hs h g)
        have hl : lak g p q < 1048576 := by unfold lak; omega
        generalize lak g p q = s at hq hl ⊢
        have hn := cnt_le s 20
        have inner : ∀ n, n < g 0 → (∀ v v', (s >>> n &&& 1 = 1 → ∃ b, b < g 2 ∧ 0 < g (220 + 20 * b + n)) → am_R tT E (d + 2) mX12_night Q 40 [some (.inr 63), some (.inl (nI p)), some (.inl (nI q)), some (.inl (nI s)), some (.inl (nI (n + 1))), v, v'] [] (hs h g)) → ((s >>> n &&& 1 = 1 ∧ ∀ b, b < g 2 → ¬ 0 < g (220 + 20 * b + n)) → Q (-1) (hs h g)) → ∀ k b x, b + k = g 2 → (x = 1 ∧ (s >>> n &&& 1 = 0 ∨ ∃ b', b' < b ∧ 0 < g (220 + 20 * b' + n)) ∨ x = 0 ∧ s >>> n &&& 1 = 1 ∧ ∀ b', b' < b → ¬ 0 < g (220 + 20 * b' + n)) → am_R tT E (d + 2) mX12_night Q 70 [some (.inr 63), some (.inl (nI p)), some (.inl (nI q)), some (.inl (nI s)), some (.inl (nI n)), some (.inl (nI x)), some (.inl (nI b))] [] (hs h g) := by
          intro n hn0 hgo hno k
          induction k with
          | zero =>
            intro b x hb hx
            have e : b = g 2 := by omega
            subst e
            refine am_goS gX12_night [40, 70] 400 ?_
            simp only [am_eqs, am_eqk, am_eqv, lX12_night_0, lX12_night_1, lX12_night_2, lX12_night_3, fx_ref, ↓reduceIte, List.mem_cons, List.not_mem_nil, or_false, or_self, false_or, true_and, and_true, Nat.reduceEqDiff, reduceCtorEq, List.length_cons, List.length_nil, Nat.reduceAdd, Nat.reduceLeDiff, Nat.reduceSub, Nat.reduceLT, Nat.zero_le, Nat.zero_add, forall_const, not_true_eq_false, not_false_eq_true, false_implies, true_implies, implies_true, Nat.zero_lt_succ, am_z0, am_z1]
            rcases hx with ⟨rfl, hx⟩ | ⟨rfl, hx1, hx2⟩
            · simp (disch := omega) only [hs_at, hs_put, hs_63, NH_at, NH_put, NH_cpy, ni_add, ni_mul, ni_clamp, ni_in, ni_eq, ni_lt, ni_le, ni_sub, Nat.reduceAdd, Nat.reduceMul, Nat.reduceSub, eq_self, true_implies, not_true_eq_false, false_implies, and_true, true_and, not_false_eq_true, Nat.reduceEqDiff, Nat.reduceLeDiff, Nat.reduceLT, implies_true, ite_true, ite_false]
              refine ⟨fun _ => hgo _ _ (fun hs1 => ?_), fun c => absurd c (by omega)⟩
              rcases hx with hx | hx
              · omega
              · exact hx
            · simp (disch := omega) only [hs_at, hs_put, hs_63, NH_at, NH_put, NH_cpy, ni_add, ni_mul, ni_clamp, ni_in, ni_eq, ni_lt, ni_le, ni_sub, Nat.reduceAdd, Nat.reduceMul, Nat.reduceSub, eq_self, true_implies, not_true_eq_false, false_implies, and_true, true_and, not_false_eq_true, Nat.reduceEqDiff, Nat.reduceLeDiff, Nat.reduceLT, implies_true, ite_true, ite_false]
              refine ⟨fun _ => hno ⟨hx1, hx2⟩, fun c => absurd c (by omega)⟩
          | succ k ih =>
            intro b x hb hx
            have hk1 := wk b n (by omega) (by omega)
            refine am_goS gX12_night [40, 70] 400 ?_
            simp only [am_eqs, am_eqk, am_eqv, lX12_night_0, lX12_night_1, lX12_night_2, lX12_night_3, fx_ref, ↓reduceIte, List.mem_cons, List.not_mem_nil, or_false, or_self, false_or, true_and, and_true, Nat.reduceEqDiff, reduceCtorEq, List.length_cons, List.length_nil, Nat.reduceAdd, Nat.reduceLeDiff, Nat.reduceSub, Nat.reduceLT, Nat.zero_le, Nat.zero_add, forall_const, not_true_eq_false, not_false_eq_true, false_implies, true_implies, implies_true, Nat.zero_lt_succ, am_z0, am_z1]
            rcases hx with ⟨rfl, hx⟩ | ⟨rfl, hx1, hx2⟩
            · simp (disch := omega) only [hs_at, hs_put, hs_63, NH_at, NH_put, NH_cpy, ni_add, ni_mul, ni_clamp, ni_in, ni_eq, ni_lt, ni_le, ni_sub, Nat.reduceAdd, Nat.reduceMul, Nat.reduceSub, eq_self, true_implies, not_true_eq_false, false_implies, and_true, true_and, not_false_eq_true, Nat.reduceEqDiff, Nat.reduceLeDiff, Nat.reduceLT, implies_true, ite_true, ite_false]
              refine ⟨fun c => absurd c (by omega), fun _ => ih (b + 1) 1 (by omega) (Or.inl ⟨rfl, ?_⟩)⟩
              rcases hx with hx | ⟨b', h1, h2⟩
              · exact Or.inl hx
              · exact Or.inr ⟨b', by omega, h2⟩
            · simp (disch := omega) only [hs_at, hs_put, hs_63, NH_at, NH_put, NH_cpy, ni_add, ni_mul, ni_clamp, ni_in, ni_eq, ni_lt, ni_le, ni_sub, Nat.reduceAdd, Nat.reduceMul, Nat.reduceSub, eq_self, true_implies, not_true_eq_false, false_implies, and_true, true_and, not_false_eq_true, Nat.reduceEqDiff, Nat.reduceLeDiff, Nat.reduceLT, implies_true, ite_true, ite_false]
              refine ⟨fun c => absurd c (by omega), fun _ => ⟨by omega, fun c => ?_, fun c => ?_⟩⟩
              · refine ih (b + 1) 0 (by omega) (Or.inr ⟨rfl, hx1, fun b' hb' => ?_⟩)
                by_cases hbb : b' = b
                · rw [hbb]; omega
                · exact hx2 b' (by omega)
              · exact ih (b + 1) 1 (by omega) (Or.inl ⟨rfl, Or.inr ⟨b, by omega, by omega⟩⟩)
        have outer : ∀ k n v v', n + k = g 0 → nigOK g s n → am_R tT E (d + 2) mX12_night Q 40 [some (.inr 63), some (.inl (nI p)), some (.inl (nI q)), some (.inl (nI s)), some (.inl (nI n)), v, v'] [] (hs h g) := by
          intro k
          induction k with
          | zero =>
            intro n v v' hnk hok
            have e : n = g 0 := by omega
            subst e
            have hm := hpp.2.2.1
            refine am_goS gX12_night [40, 70] 400 ?_
            simp only [am_eqs, am_eqk, am_eqv, lX12_night_0, lX12_night_1, lX12_night_2, lX12_night_3, fx_ref, ↓reduceIte, List.mem_cons, List.not_mem_nil, or_false, or_self, false_or, true_and, and_true, Nat.reduceEqDiff, reduceCtorEq, List.length_cons, List.length_nil, Nat.reduceAdd, Nat.reduceLeDiff, Nat.reduceSub, Nat.reduceLT, Nat.zero_le, Nat.zero_add, forall_const, not_true_eq_false, not_false_eq_true, false_implies, true_implies, implies_true, Nat.zero_lt_succ, am_z0, am_z1]
            simp (disch := omega) only [hs_at, hs_put, hs_63, NH_at, NH_put, NH_cpy, ni_add, ni_mul, ni_clamp, ni_in, ni_eq, ni_lt, ni_le, ni_sub, Nat.reduceAdd, Nat.reduceMul, Nat.reduceSub, eq_self, true_implies, not_true_eq_false, false_implies, and_true, true_and, not_false_eq_true, Nat.reduceEqDiff, Nat.reduceLeDiff, Nat.reduceLT, implies_true, ite_true, ite_false]
            refine ⟨fun _ => ?_, fun c => absurd c (by omega)⟩
            refine r_own (by omega) (by omega) ?_
            refine r_count (by omega) ?_
            simp (disch := omega) only [hs_at, hs_put, hs_63, NH_at, NH_put, NH_cpy, ni_add, ni_mul, ni_clamp, ni_in, ni_eq, ni_lt, ni_le, ni_sub, Nat.reduceAdd, Nat.reduceMul, Nat.reduceSub, eq_self, true_implies, not_true_eq_false, false_implies, and_true, true_and, not_false_eq_true, Nat.reduceEqDiff, Nat.reduceLeDiff, Nat.reduceLT, implies_true, ite_true, ite_false]
            refine ⟨fun c => r_count (by omega) ?_, fun c => ?_⟩
            · rw [cif_pos ⟨hok, c⟩] at hq
              exact hq
            · rw [cif_neg (fun q => c q.2)] at hq
              exact hq
          | succ k ih =>
            intro n v v' hnk hok
            have hb := bit01 s n
            refine am_goS gX12_night [40, 70] 400 ?_
            simp only [am_eqs, am_eqk, am_eqv, lX12_night_0, lX12_night_1, lX12_night_2, lX12_night_3, fx_ref, ↓reduceIte, List.mem_cons, List.not_mem_nil, or_false, or_self, false_or, true_and, and_true, Nat.reduceEqDiff, reduceCtorEq, List.length_cons, List.length_nil, Nat.reduceAdd, Nat.reduceLeDiff, Nat.reduceSub, Nat.reduceLT, Nat.zero_le, Nat.zero_add, forall_const, not_true_eq_false, not_false_eq_true, false_implies, true_implies, implies_true, Nat.zero_lt_succ, am_z0, am_z1]
            simp (disch := omega) only [hs_at, hs_put, hs_63, NH_at, NH_put, NH_cpy, ni_add, ni_mul, ni_clamp, ni_in, ni_eq, ni_lt, ni_le, ni_sub, Nat.reduceAdd, Nat.reduceMul, Nat.reduceSub, eq_self, true_implies, not_true_eq_false, false_implies, and_true, true_and, not_false_eq_true, Nat.reduceEqDiff, Nat.reduceLeDiff, Nat.reduceLT, implies_true, ite_true, ite_false, ni_shr, ni_and]
            have hgo : ∀ v v', (s >>> n &&& 1 = 1 → ∃ b, b < g 2 ∧ 0 < g (220 + 20 * b + n)) → am_R tT E (d + 2) mX12_night Q 40 [some (.inr 63), some (.inl (nI p)), some (.inl (nI q)), some (.inl (nI s)), some (.inl (nI (n + 1))), v, v'] [] (hs h g) := fun v v' hh => ih (n + 1) v v' (by omega) (fun m hm hs1 => by
              by_cases hmn : m = n
              · subst hmn; exact hh hs1
              · exact hok m (by omega) hs1)
            have hno : (s >>> n &&& 1 = 1 ∧ ∀ b, b < g 2 → ¬ 0 < g (220 + 20 * b + n)) → Q (-1) (hs h g) := fun ⟨a1, a2⟩ => by
              rw [cif_neg (fun q => by obtain ⟨b, hb1, hb2⟩ := q.1 n (by omega) a1; exact a2 b hb1 hb2)] at hq
              exact hq
            refine ⟨fun c => absurd c (by omega), fun _ => ⟨fun e0 => ?_, fun e0 => ?_⟩⟩
            · exact inner n (by omega) hgo hno (g 2) 0 1 (by omega) (Or.inl ⟨rfl, Or.inl e0⟩)
            · exact inner n (by omega) hgo hno (g 2) 0 0 (by omega) (Or.inr ⟨rfl, by omega, fun b' hb' => absurd hb' (by omega)⟩)
        exact outer (g 0) 0 _ _ (by omega) (fun n hn => absurd hn (by omega))
    · simp (disch := omega) only [hs_at, hs_put, hs_63, NH_at, NH_put, NH_cpy, ni_add, ni_mul, ni_clamp, ni_in, ni_eq, ni_lt, ni_le, ni_sub, Nat.reduceAdd, Nat.reduceMul, Nat.reduceSub, eq_self, true_implies, not_true_eq_false, false_implies, and_true, true_and, not_false_eq_true, Nat.reduceEqDiff, Nat.reduceLeDiff, Nat.reduceLT, implies_true, ite_true, ite_false]
      rw [sp_night, cif_neg (fun q => z2 q.1.2)] at hq
      exact hq
  · simp (disch := omega) only [hs_at, hs_put, hs_63, NH_at, NH_put, NH_cpy, ni_add, ni_mul, ni_clamp, ni_in, ni_eq, ni_lt, ni_le, ni_sub, Nat.reduceAdd, Nat.reduceMul, Nat.reduceSub, eq_self, true_implies, not_true_eq_false, false_implies, and_true, true_and, not_false_eq_true, Nat.reduceEqDiff, Nat.reduceLeDiff, Nat.reduceLT, implies_true, ite_true, ite_false]
    rw [sp_night, cif_neg (fun q => z1 q.1.1)] at hq
    exact hq
end OPS6
