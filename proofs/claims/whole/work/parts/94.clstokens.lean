/-! ===== part 94: the class's scanner ===== -/
/-- the tokens laid out -/
def ARR (T : Nat → Nat) (n cnt : Nat) (c : Nat → Nat → Nat) : Prop := TK T n cnt = tEND ∧ cnt ≤ n ∧ n ≤ 400 ∧ ∀ k, k ≤ cnt → c 51 k = TK T n k ∧ c 52 k = POS T n k
section CTOK
variable {E : am_E} {d : Nat} {h : am_H} {Q : Int32 → am_H → Prop} {c : Nat → Nat → Nat} {T : Nat → Nat} {n : Nat}
theorem CTp.cg {c' : Nat → Nat → Nat} (hR : CTp T n c) (h46 : c' 46 0 = c 46 0) (h50 : c' 50 = c 50) : CTp T n c' := ⟨by rw [h46]; exact hR.1, hR.2.1, by rw [h50]; exact hR.2.2.1, hR.2.2.2⟩
theorem c_scan (hR : CTp T n c) (hq : ∀ (c' : Nat → Nat → Nat) (cnt : Nat), ARR T n cnt c' → (∀ o, o ≠ 51 → o ≠ 52 → c' o = c o) → Q 0 (NH c')) : am_C tT E (d + 6) mX4_scan [.inr 46] (NH c) Q := by
  have hn := hR.2.1
  have ht256 := hR.2.2.2
  refine am_C.of (by decide) (Nat.le_of_ble_eq_true rfl) ?_
  show am_R tT E _ mX4_scan _ 0 [some (.inr 46), none, none, none, none, none] [] (NH c)
  refine am_goS gX4_scan [6] 400 ?_
  simp only [am_eqs, am_eqk, am_eqv, lX4_scan_0, lX4_scan_1, lX4_scan_2, lX4_scan_3, lX4_scan_4, fx_class, NH_at, NH_put, ↓reduceIte, List.mem_cons, List.not_mem_nil, or_false, or_self, false_or, true_and, and_true, Nat.reduceEqDiff, reduceCtorEq, List.length_cons, List.length_nil, Nat.reduceAdd, Nat.reduceLeDiff, Nat.reduceSub, Nat.reduceLT, Nat.zero_le, Nat.zero_add, forall_const, not_true_eq_false, not_false_eq_true, false_implies, true_implies, implies_true, Nat.zero_lt_succ, am_z0, am_z1]
  have exit : ∀ (m : Nat) (c1 : Nat → Nat → Nat) (v2 v3 v4 v5 : Option am_V), m ≤ n → POS T n m = n → (∀ k, k < m → c1 51 k = TK T n k ∧ c1 52 k = POS T n k) → (∀ o, o ≠ 51 → o ≠ 52 → c1 o = c o) → am_R tT E (d + 6) mX4_scan Q 163 [some (.inr 46), some (.inl (nI m)), v2, v3, v4, v5] [] (NH c1) := by
    intro m c1 v2 v3 v4 v5 hm hpn harr hfr
    have e0 : c1 46 0 = n := by rw [hfr 46 (by omega) (by omega)]; exact hR.1
    have eTK : TK T n m = tEND := by unfold TK tkC; rw [hpn, if_pos (Nat.le_refl _)]
    refine am_goS gX4_scan [] 400 ?_
    simp only [am_eqs, am_eqk, am_eqv, lX4_scan_0, lX4_scan_1, lX4_scan_2, lX4_scan_3, lX4_scan_4, fx_class, NH_at, NH_put, ↓reduceIte, List.mem_cons, List.not_mem_nil, or_false, or_self, false_or, true_and, and_true, Nat.reduceEqDiff, reduceCtorEq, List.length_cons, List.length_nil, Nat.reduceAdd, Nat.reduceLeDiff, Nat.reduceSub, Nat.reduceLT, Nat.zero_le, Nat.zero_add, forall_const, not_true_eq_false, not_false_eq_true, false_implies, true_implies, implies_true, Nat.zero_lt_succ, am_z0, am_z1]
    try simp (disch := omega) only [hs_at, hs_put, hs_63, NH_at, NH_put, NH_cpy, ni_add, ni_mul, ni_clamp, ni_in, ni_eq, ni_lt, ni_le, ni_sub, Nat.reduceAdd, Nat.reduceMul, Nat.reduceSub, eq_self, true_implies, not_true_eq_false, false_implies, and_true, true_and, not_false_eq_true, Nat.reduceEqDiff, Nat.reduceLeDiff, Nat.reduceLT, implies_true, ite_true, ite_false, e0, ni_m1]
    refine ⟨by omega, by omega, ?_⟩
    refine hq _ m ⟨eTK, hm, hn, fun k hk => ?_⟩ (fun o x y => ?_)
    · by_cases e : k = m
      · subst e
        rw [eTK, hpn]
        refine ⟨?_, ?_⟩
        · rw [cup_self, nup_self]; rfl
        · rw [cup_ne _ _ _ (by omega), cup_self, nup_self]
      · obtain ⟨a1, a2⟩ := harr k (by omega)
        refine ⟨?_, ?_⟩
        · rw [cup_self, nup_ne _ _ e, cup_ne _ _ _ (by omega)]; exact a1
        · rw [cup_ne _ _ _ (by omega), cup_self, nup_ne _ _ e]; exact a2
    · rw [cup_ne _ _ _ x, cup_ne _ _ _ y]; exact hfr o x y
  have loop : ∀ f it m p (c1 : Nat → Nat → Nat) (v4 v5 : Option am_V), p + f = n → it ≤ p → m ≤ p → stE isW T n p = POS T n m → (∀ k, k < m → c1 51 k = TK T n k ∧ c1 52 k = POS T n k) → (∀ o, o ≠ 51 → o ≠ 52 → c1 o = c o) → am_R tT E (d + 6) mX4_scan Q 6 [some (.inr 46), some (.inl (nI m)), some (.inl (nI p)), some (.inl (nI it)), v4, v5] [] (NH c1) := by
    intro f
    induction f using Nat.strongRecOn with
    | ind f ih =>
      intro it m p c1 v4 v5 hf hit hm hst harr hfr
      have e0 : c1 46 0 = n := by rw [hfr 46 (by omega) (by omega)]; exact hR.1
      by_cases hpn : p = n
      · have hst' := hst
        rw [stE_no (fun z => absurd z (by omega))] at hst'
        have hex := fun (v2 v3 v4 v5 : Option am_V) => exit m c1 v2 v3 v4 v5 (by omega) (by omega) harr hfr
        refine am_goS gX4_scan [6, 21, 163] 400 ?_
        simp only [am_eqs, am_eqk, am_eqv, lX4_scan_0, lX4_scan_1, lX4_scan_2, lX4_scan_3, lX4_scan_4, fx_class, NH_at, NH_put, ↓reduceIte, List.mem_cons, List.not_mem_nil, or_false, or_self, false_or, true_and, and_true, Nat.reduceEqDiff, reduceCtorEq, List.length_cons, List.length_nil, Nat.reduceAdd, Nat.reduceLeDiff, Nat.reduceSub, Nat.reduceLT, Nat.zero_le, Nat.zero_add, forall_const, not_true_eq_false, not_false_eq_true, false_implies, true_implies, implies_true, Nat.zero_lt_succ, am_z0, am_z1]
        try simp (disch := omega) only [hs_at, hs_put, hs_63, NH_at, NH_put, NH_cpy, ni_add, ni_mul, ni_clamp, ni_in, ni_eq, ni_lt, ni_le, ni_sub, Nat.reduceAdd, Nat.reduceMul, Nat.reduceSub, eq_self, true_implies, not_true_eq_false, false_implies, and_true, true_and, not_false_eq_true, Nat.reduceEqDiff, Nat.reduceLeDiff, Nat.reduceLT, implies_true, ite_true, ite_false, e0]
        exact ⟨fun _ => hex _ _ _ _, fun _ => ⟨fun _ => hex _ _ _ _, fun z => absurd z (by omega)⟩⟩
      · have hR1 : CTp T n c1 := hR.cg (by rw [hfr 46 (by omega) (by omega)]) (hfr 50 (by omega) (by omega))
        have hk := hR1.2.2.1 p (by omega)
        have h256 := ht256 p (by omega)
        have hws : isW (T p) → am_R tT E (d + 6) mX4_scan Q 6 [some (.inr 46), some (.inl (nI m)), some (.inl (nI (p + 1))), some (.inl (nI (it + 1))), some (.inl (nI (T p))), some (.inl (nI (p + 1)))] [] (NH c1) := by
          intro y
          exact ih (f - 1) (by omega) (it + 1) m (p + 1) c1 _ _ (by omega) (by omega) (by omega) (by rw [← stE_yes (by omega) y]; exact hst) harr hfr
        have htok : ¬ isW (T p) → ∀ (tk stp : Nat) (v4 : Option am_V), tk = TK T n m → stp = enC T n p → am_R tT E (d + 6) mX4_scan Q 6 [some (.inr 46), some (.inl (nI (m + 1))), some (.inl (nI stp)), some (.inl (nI (it + 1))), v4, some (.inl (nI stp))] [] (NH (cup (cup c1 52 m p) 51 m tk)) := by
          intro y tk stp v4 htk hstp
          have hpos : POS T n m = p := by rw [← hst, stE_no (fun _ => y)]
          have heb := enC_b (T := T) (n := n) (a := p) (by omega)
          have he1 := heb.1 (by omega)
          refine ih (n - stp) (by omega) (it + 1) (m + 1) stp _ _ _ (by omega) (by omega) (by omega) ?_ (fun k hk => ?_) (fun o x y => ?_)
          · show stE isW T n stp = stE isW T n (enC T n (POS T n m))
            rw [hpos, hstp]
          · by_cases e : k = m
            · subst e
              refine ⟨?_, ?_⟩
              · rw [cup_self, nup_self]; exact htk
              · rw [cup_ne _ _ _ (by omega), cup_self, nup_self]; exact hpos.symm
            · obtain ⟨a1, a2⟩ := harr k (by omega)
              refine ⟨?_, ?_⟩
              · rw [cup_self, nup_ne _ _ e, cup_ne _ _ _ (by omega)]; exact a1
              · rw [cup_ne _ _ _ (by omega), cup_self, nup_ne _ _ e]; exact a2
          · rw [cup_ne _ _ _ x, cup_ne _ _ _ y]; exact hfr o x y
        have hR2 : CTp T n (cup c1 52 m p) := hR1.cg (by rw [cup_ne _ _ _ (by omega)]) (cup_ne _ _ _ (by omega))
        have main : ¬ isW (T p) → am_R tT E (d + 6) mX4_scan Q 54 [some (.inr 46), some (.inl (nI m)), some (.inl (nI p)), some (.inl (nI it)), some (.inl (nI (T p))), some (.inl (nI (p + 1)))] [] (NH c1) := by
          intro y
          have hpos : POS T n m = p := by rw [← hst, stE_no (fun _ => y)]
          have eTK : TK T n m = cif (isL (T p)) (wdC (bts T p (stE isL T n p - p))) (cif (isD (T p)) (if 4 < stE isD T n p - p then tBAD else nuV T p (stE isD T n p - p)) (cif (isS (T p)) (20000 + T p) tBAD)) := by
            unfold TK tkC
            rw [hpos, if_neg (by omega)]
          have eEN : enC T n p = cif (isL (T p)) (stE isL T n p) (cif (isD (T p)) (stE isD T n p) (p + 1)) := by
            unfold enC
            rw [if_neg (by omega)]
          have ht := htok y
          refine am_goS gX4_scan [6] 400 ?_
          simp only [am_eqs, am_eqk, am_eqv, lX4_scan_0, lX4_scan_1, lX4_scan_2, lX4_scan_3, lX4_scan_4, fx_class, NH_at, NH_put, ↓reduceIte, List.mem_cons, List.not_mem_nil, or_false, or_self, false_or, true_and, and_true, Nat.reduceEqDiff, reduceCtorEq, List.length_cons, List.length_nil, Nat.reduceAdd, Nat.reduceLeDiff, Nat.reduceSub, Nat.reduceLT, Nat.zero_le, Nat.zero_add, forall_const, not_true_eq_false, not_false_eq_true, false_implies, true_implies, implies_true, Nat.zero_lt_succ, am_z0, am_z1]
          try simp (disch := omega) only [hs_at, hs_put, hs_63, NH_at, NH_put, NH_cpy, ni_add, ni_mul, ni_clamp, ni_in, ni_eq, ni_lt, ni_le, ni_sub, Nat.reduceAdd, Nat.reduceMul, Nat.reduceSub, eq_self, true_implies, not_true_eq_false, false_implies, and_true, true_and, not_false_eq_true, Nat.reduceEqDiff, Nat.reduceLeDiff, Nat.reduceLT, implies_true, ite_true, ite_false]
          refine ⟨by omega, ?_⟩
          refine c_isLetter h256 (fun z => ?_) (fun z => ?_)
          · rw [cif_pos z] at eTK eEN
            have hse := stE_le (P := isL) (T := T) (n := n) (a := p) (by omega)
            try simp (disch := omega) only [hs_at, hs_put, hs_63, NH_at, NH_put, NH_cpy, ni_add, ni_mul, ni_clamp, ni_in, ni_eq, ni_lt, ni_le, ni_sub, Nat.reduceAdd, Nat.reduceMul, Nat.reduceSub, eq_self, true_implies, not_true_eq_false, false_implies, and_true, true_and, not_false_eq_true, Nat.reduceEqDiff, Nat.reduceLeDiff, Nat.reduceLT, implies_true, ite_true, ite_false]
            refine c_wordEnd hR2 (by omega) ?_
            refine c_wordOf hR2 hse.1 hse.2.1 ?_
            try simp (disch := omega) only [hs_at, hs_put, hs_63, NH_at, NH_put, NH_cpy, ni_add, ni_mul, ni_clamp, ni_in, ni_eq, ni_lt, ni_le, ni_sub, Nat.reduceAdd, Nat.reduceMul, Nat.reduceSub, eq_self, true_implies, not_true_eq_false, false_implies, and_true, true_and, not_false_eq_true, Nat.reduceEqDiff, Nat.reduceLeDiff, Nat.reduceLT, implies_true, ite_true, ite_false]
            exact ⟨by omega, ht _ _ _ eTK.symm eEN.symm⟩
          · rw [cif_neg z] at eTK eEN
            try simp (disch := omega) only [hs_at, hs_put, hs_63, NH_at, NH_put, NH_cpy, ni_add, ni_mul, ni_clamp, ni_in, ni_eq, ni_lt, ni_le, ni_sub, Nat.reduceAdd, Nat.reduceMul, Nat.reduceSub, eq_self, true_implies, not_true_eq_false, false_implies, and_true, true_and, not_false_eq_true, Nat.reduceEqDiff, Nat.reduceLeDiff, Nat.reduceLT, implies_true, ite_true, ite_false]
            refine c_isDigit h256 (fun z2 => ?_) (fun z2 => ?_)
            · rw [cif_pos z2] at eTK eEN
              have hse := stE_le (P := isD) (T := T) (n := n) (a := p) (by omega)
              try simp (disch := omega) only [hs_at, hs_put, hs_63, NH_at, NH_put, NH_cpy, ni_add, ni_mul, ni_clamp, ni_in, ni_eq, ni_lt, ni_le, ni_sub, Nat.reduceAdd, Nat.reduceMul, Nat.reduceSub, eq_self, true_implies, not_true_eq_false, false_implies, and_true, true_and, not_false_eq_true, Nat.reduceEqDiff, Nat.reduceLeDiff, Nat.reduceLT, implies_true, ite_true, ite_false]
              refine c_numberEnd hR2 (by omega) ?_
              refine c_numberOf hR2 hse.1 hse.2.1 hse.2.2.1 ?_
              try simp (disch := omega) only [hs_at, hs_put, hs_63, NH_at, NH_put, NH_cpy, ni_add, ni_mul, ni_clamp, ni_in, ni_eq, ni_lt, ni_le, ni_sub, Nat.reduceAdd, Nat.reduceMul, Nat.reduceSub, eq_self, true_implies, not_true_eq_false, false_implies, and_true, true_and, not_false_eq_true, Nat.reduceEqDiff, Nat.reduceLeDiff, Nat.reduceLT, implies_true, ite_true, ite_false]
              exact ⟨by omega, ht _ _ _ eTK.symm eEN.symm⟩
            · rw [cif_neg z2] at eTK eEN
              try simp (disch := omega) only [hs_at, hs_put, hs_63, NH_at, NH_put, NH_cpy, ni_add, ni_mul, ni_clamp, ni_in, ni_eq, ni_lt, ni_le, ni_sub, Nat.reduceAdd, Nat.reduceMul, Nat.reduceSub, eq_self, true_implies, not_true_eq_false, false_implies, and_true, true_and, not_false_eq_true, Nat.reduceEqDiff, Nat.reduceLeDiff, Nat.reduceLT, implies_true, ite_true, ite_false]
              rw [i2c_ok _ h256]
              refine ⟨show 1 < 16 by decide, c_signs h256 (fun q k hk => ⟨fun u => absurd u (nI_pos (show k < 2147483648 by omega)), fun _ => ⟨by omega, ?_⟩⟩) (fun q => ⟨fun _ => ⟨by omega, ?_⟩, fun u => absurd (show (-1 : Int32) < nI 0 by decide) u⟩)⟩
              · rw [cif_pos q] at eTK
                try simp (disch := omega) only [hs_at, hs_put, hs_63, NH_at, NH_put, NH_cpy, ni_add, ni_mul, ni_clamp, ni_in, ni_eq, ni_lt, ni_le, ni_sub, Nat.reduceAdd, Nat.reduceMul, Nat.reduceSub, eq_self, true_implies, not_true_eq_false, false_implies, and_true, true_and, not_false_eq_true, Nat.reduceEqDiff, Nat.reduceLeDiff, Nat.reduceLT, implies_true, ite_true, ite_false]
                exact ht _ _ _ eTK.symm eEN.symm
              · rw [cif_neg q] at eTK
                try simp (disch := omega) only [hs_at, hs_put, hs_63, NH_at, NH_put, NH_cpy, ni_add, ni_mul, ni_clamp, ni_in, ni_eq, ni_lt, ni_le, ni_sub, Nat.reduceAdd, Nat.reduceMul, Nat.reduceSub, eq_self, true_implies, not_true_eq_false, false_implies, and_true, true_and, not_false_eq_true, Nat.reduceEqDiff, Nat.reduceLeDiff, Nat.reduceLT, implies_true, ite_true, ite_false, ni_m2]
                exact ht _ _ _ eTK.symm eEN.symm
        refine am_goS gX4_scan [6, 54, 163] 400 ?_
        simp only [am_eqs, am_eqk, am_eqv, lX4_scan_0, lX4_scan_1, lX4_scan_2, lX4_scan_3, lX4_scan_4, fx_class, NH_at, NH_put, ↓reduceIte, List.mem_cons, List.not_mem_nil, or_false, or_self, false_or, true_and, and_true, Nat.reduceEqDiff, reduceCtorEq, List.length_cons, List.length_nil, Nat.reduceAdd, Nat.reduceLeDiff, Nat.reduceSub, Nat.reduceLT, Nat.zero_le, Nat.zero_add, forall_const, not_true_eq_false, not_false_eq_true, false_implies, true_implies, implies_true, Nat.zero_lt_succ, am_z0, am_z1]
        try simp (disch := omega) only [hs_at, hs_put, hs_63, NH_at, NH_put, NH_cpy, ni_add, ni_mul, ni_clamp, ni_in, ni_eq, ni_lt, ni_le, ni_sub, Nat.reduceAdd, Nat.reduceMul, Nat.reduceSub, eq_self, true_implies, not_true_eq_false, false_implies, and_true, true_and, not_false_eq_true, Nat.reduceEqDiff, Nat.reduceLeDiff, Nat.reduceLT, implies_true, ite_true, ite_false, e0, hk]
        refine ⟨fun z => absurd z (by omega), fun _ => ⟨fun z => absurd z (by omega), fun _ => ⟨by omega, fun z => hws (Or.inl z), fun z => ⟨fun z2 => hws (Or.inr z2), fun z2 => main (fun q => q.elim z z2)⟩⟩⟩⟩
  exact loop n 0 0 0 c none none (by omega) (Nat.le_refl _) (Nat.le_refl _) rfl (fun k hk => absurd hk (by omega)) (fun _ _ _ => rfl)
end CTOK
