/-! ===== part 54: the class's walk goes and comes back ===== -/
noncomputable def wkS (lw : Lw) (p : Nat) (f : Nat → Nat) (g : Nat → Nat) : Nat → Nat → Nat
  | 0 => g
  | i + 1 => stG (wkS lw p f g i) lw p (f i)
def WB (lw : Lw) (p t : Nat) (f : Nat → Nat) (g : Nat → Nat) (c : Nat → Nat → Nat) (n : Nat) : Prop := ∀ i, i < n → WF (wkS lw p f g i) (t + i) ∧ f i < wkS lw p f g i 2 ∧ tou (wkS lw p f g i) (f i) (og (wkS lw p f g i) p 0) ∧ duG (wkS lw p f g i) lw p (f i) ≠ 200 ∧ c 25 i = duG (wkS lw p f g i) lw p (f i) ∧ (duG (wkS lw p f g i) lw p (f i) ≠ 100 → c 26 i = og (wkS lw p f g i) p (5 + duG (wkS lw p f g i) lw p (f i)))
def FW (c c' : Nat → Nat → Nat) : Prop := (∀ o, o ≠ 7 → o ≠ 11 → o ≠ 12 → o ≠ 13 → o ≠ 16 → o ≠ 19 → o ≠ 21 → o ≠ 22 → o ≠ 23 → o ≠ 25 → o ≠ 26 → c' o = c o) ∧ ∀ k, k ≠ 6 → c' 23 k = c 23 k
theorem FW.refl (c : Nat → Nat → Nat) : FW c c := ⟨fun _ _ _ _ _ _ _ _ _ _ _ _ => rfl, fun _ _ => rfl⟩
theorem FW.ft {c c1 c2 : Nat → Nat → Nat} (h : FW c c1) (hf : FT c1 c2) : FW c c2 := ⟨fun o h7 h11 h12 h13 h16 h19 h21 h22 h23 h25 h26 => (hf o h19 h21 h22).trans (h.1 o h7 h11 h12 h13 h16 h19 h21 h22 h23 h25 h26), fun k hk => by rw [hf 23 (by omega) (by omega) (by omega)]; exact h.2 k hk⟩
theorem FW.fp {c c1 c2 : Nat → Nat → Nat} (h : FW c c1) (hf : FP c1 c2) : FW c c2 := ⟨fun o h7 h11 h12 h13 h16 h19 h21 h22 h23 h25 h26 => (hf o h7 h11 h12 h13 h16).trans (h.1 o h7 h11 h12 h13 h16 h19 h21 h22 h23 h25 h26), fun k hk => by rw [hf 23 (by omega) (by omega) (by omega) (by omega) (by omega)]; exact h.2 k hk⟩
theorem FW.put {c c1 : Nat → Nat → Nat} {o k v : Nat} (h : FW c c1) (ho : o = 25 ∨ o = 26 ∨ o = 23 ∧ k = 6) : FW c (cup c1 o k v) := by
  refine ⟨fun q h7 h11 h12 h13 h16 h19 h21 h22 h23 h25 h26 => ?_, fun j hj => ?_⟩
  · rw [cup_ne _ _ _ (by omega)]; exact h.1 q h7 h11 h12 h13 h16 h19 h21 h22 h23 h25 h26
  · rw [← h.2 j hj, cup_app]
    split
    · rename_i e
      subst e
      rw [if_neg (by omega)]
    · rfl
section CGO
variable {E : am_E} {d : Nat} {h : am_H} {Q : Int32 → am_H → Prop} {g g0 : Nat → Nat} {c : Nat → Nat → Nat} {t : Nat}
theorem c_go {V : Nat → Nat → Nat → Nat → Prop} {lw : Lw} {p L : Nat} {bs : List Nat} {f : Nat → Nat} (hf : f = c 24) (hp : p < g 1) (hW : WF g t) (ht : t + 12 < 1000000) (hA : RAt g c) (hL : LC c lw) (hok : LOK lw) (hVI : VI V c) (h3 : c 23 3 = L) (hL12 : L ≤ 12) (hcs : CS f bs 0) (hlen : bs.length = L) (hcw : cwG g bs (og g p 0))
    (hV : c 20 3 = 1 → ∀ k, k < L → (∀ i, i < k → duG (wkS lw p f g i) lw p (f i) ≠ 200) → ∀ o, o < og (wkS lw p f g k) p 2 → (V (f k) (og (wkS lw p f g k) p (5 + o)) (og (wkS lw p f g k) p 2) o ↔ mayG (wkS lw p f g k) lw p o (f k)))
    (K0 : wkG lw p bs g = none → ∀ n c', n ≤ L → RAt (wkS lw p f g n) c' → WB lw p t f g c' n → WF (wkS lw p f g n) (t + n) → VI V c' → FW c c' → c' 23 6 = n → Q (nI 0) (NH c'))
    (K1 : wkG lw p bs g = some (wkS lw p f g L) → ∀ c', RAt (wkS lw p f g L) c' → WB lw p t f g c' L → WF (wkS lw p f g L) (t + L) → VI V c' → FW c c' → c' 23 6 = L → Q (nI 1) (NH c')) :
    am_C tT E (d + 4) mX9_go [.inr 23, .inl (nI p)] (NH c) Q := by
  have w1 := hW.1.2.1
  have w2 := hW.1.2.2.1
  refine am_C.of (by decide) (Nat.le_of_ble_eq_true rfl) ?_
  show am_R tT E _ mX9_go _ 0 [some (.inr 23), some (.inl (nI p)), none, none] [] (NH c)
  refine am_goS gX9_go [5] 400 ?_
  simp only [am_eqs, am_eqk, am_eqv, lX9_go_0, lX9_go_1, lX9_go_2, fx_class, NH_at, NH_put, ↓reduceIte, List.mem_cons, List.not_mem_nil, or_false, or_self, false_or, true_and, and_true, Nat.reduceEqDiff, reduceCtorEq, List.length_cons, List.length_nil, Nat.reduceAdd, Nat.reduceLeDiff, Nat.reduceSub, Nat.reduceLT, Nat.zero_le, Nat.zero_add, forall_const, not_true_eq_false, not_false_eq_true, false_implies, true_implies, implies_true, Nat.zero_lt_succ, am_z0, am_z1]
  have loop : ∀ (r : List Nat) (k : Nat) (c1 : Nat → Nat → Nat) (v2 v3 : Option am_V), CS f r k → k + r.length = L → WF (wkS lw p f g k) (t + k) → (∀ j, j < 90 ∨ 460 ≤ j → wkS lw p f g k j = g j) → cwG g r (og (wkS lw p f g k) p 0) → wkG lw p r (wkS lw p f g k) = wkG lw p bs g → (∀ i, i < k → duG (wkS lw p f g i) lw p (f i) ≠ 200) → RAt (wkS lw p f g k) c1 → WB lw p t f g c1 k → VI V c1 → FW c c1 → c1 23 6 = k → am_R tT E (d + 4) mX9_go Q 5 [some (.inr 23), some (.inl (nI p)), v2, v3] [] (NH c1) := by
    intro r
    induction r with
    | nil =>
      intro k c1 v2 v3 hcs hk hWk hst hcw hwk hns hAk hwb hvi hfw h6
      have e : k = L := by simpa using hk
      subst e
      have e3 : c1 23 3 = k := by rw [hfw.2 3 (by omega)]; exact h3
      refine am_goS gX9_go [5] 400 ?_
      simp only [am_eqs, am_eqk, am_eqv, lX9_go_0, lX9_go_1, lX9_go_2, fx_class, NH_at, NH_put, ↓reduceIte, List.mem_cons, List.not_mem_nil, or_false, or_self, false_or, true_and, and_true, Nat.reduceEqDiff, reduceCtorEq, List.length_cons, List.length_nil, Nat.reduceAdd, Nat.reduceLeDiff, Nat.reduceSub, Nat.reduceLT, Nat.zero_le, Nat.zero_add, forall_const, not_true_eq_false, not_false_eq_true, false_implies, true_implies, implies_true, Nat.zero_lt_succ, am_z0, am_z1]
      simp (disch := omega) only [hs_at, hs_put, hs_63, NH_at, NH_put, NH_cpy, ni_add, ni_mul, ni_clamp, ni_in, ni_eq, ni_lt, ni_le, ni_sub, Nat.reduceAdd, Nat.reduceMul, Nat.reduceSub, eq_self, true_implies, not_true_eq_false, false_implies, and_true, true_and, not_false_eq_true, Nat.reduceEqDiff, Nat.reduceLeDiff, Nat.reduceLT, implies_true, ite_true, ite_false, h6, e3]
      exact ⟨fun _ => K1 hwk.symm c1 hAk hwb hWk hvi hfw h6, fun z => absurd (Nat.le_refl _) z⟩
    | cons b r ih =>
      intro k c1 v2 v3 hcs hk hWk hst hcw hwk hns hAk hwb hvi hfw h6
      obtain ⟨hb24, hcs'⟩ := hcs
      obtain ⟨hb, htou, hcw'⟩ := hcw
      simp only [List.length_cons] at hk
      have hcl := fun (c2 : Nat → Nat → Nat) (hf2 : FW c c2) => hf2.1
      have e3 : c1 23 3 = L := by rw [hfw.2 3 (by omega)]; exact h3
      have e24 : c1 24 k = b := by rw [hfw.1 24 (by omega) (by omega) (by omega) (by omega) (by omega) (by omega) (by omega) (by omega) (by omega) (by omega) (by omega), ← hf]; exact hb24
      have e20 : c1 20 = c 20 := hfw.1 20 (by omega) (by omega) (by omega) (by omega) (by omega) (by omega) (by omega) (by omega) (by omega) (by omega) (by omega)
      have hLC : LC c1 lw := by
        unfold LC at *
        rw [hfw.1 17 (by omega) (by omega) (by omega) (by omega) (by omega) (by omega) (by omega) (by omega) (by omega) (by omega) (by omega), hfw.1 18 (by omega) (by omega) (by omega) (by omega) (by omega) (by omega) (by omega) (by omega) (by omega) (by omega) (by omega)]
        exact hL
      have s1 : wkS lw p f g k 1 = g 1 := hst 1 (by omega)
      have s2 : wkS lw p f g k 2 = g 2 := hst 2 (by omega)
      have s50 : wkS lw p f g k (50 + 2 * b) = g (50 + 2 * b) := hst _ (by omega)
      have s51 : wkS lw p f g k (51 + 2 * b) = g (51 + 2 * b) := hst _ (by omega)
      have htou1 : tou (wkS lw p f g k) b (og (wkS lw p f g k) p 0) := by unfold tou at *; rw [s50, s51]; exact htou
      have hV1 : c1 20 3 = 1 → ∀ o, o < og (wkS lw p f g k) p 2 → (V b (og (wkS lw p f g k) p (5 + o)) (og (wkS lw p f g k) p 2) o ↔ mayG (wkS lw p f g k) lw p o b) := by
        intro z
        have := hV (by rw [← e20]; exact z) k (by omega) hns
        rw [hb24] at this
        exact this
      have h9 := (hWk.p (show p < 8 by omega)).2.2.1
      have hnext : duG (wkS lw p f g k) lw p b ≠ 200 → ∀ (c2 : Nat → Nat → Nat) (v2 v3 : Option am_V), RAt (stG (wkS lw p f g k) lw p b) c2 → WB lw p t f g c2 (k + 1) → VI V c2 → FW c c2 → c2 23 6 = k + 1 → am_R tT E (d + 4) mX9_go Q 5 [some (.inr 23), some (.inl (nI p)), v2, v3] [] (NH c2) := by
        intro hd c2 v2 v3 ra wb vi fw h6'
        have hss : wkS lw p f g (k + 1) = stG (wkS lw p f g k) lw p b := by rw [wkS, hb24]
        refine ih (k + 1) c2 v2 v3 hcs' (by omega) ?_ (fun j hj => ?_) ?_ ?_ (fun i hi => ?_) ?_ wb vi fw h6'
        · rw [hss, ← Nat.add_assoc]; exact wf_st (by omega) (by omega) hWk hd
        · rw [hss, st_off (by omega) (by omega) hWk hd hj]; exact hst j hj
        · rw [hss, st_at (by omega) hWk, oth_congr s50 s51]; exact hcw'
        · rw [hss, ← hwk, wkG, if_neg hd]
        · by_cases e : i = k
          · rw [e, hb24]; exact hd
          · exact hns i (by omega)
        · rw [hss]; exact ra
      have hwb1 : ∀ (c2 : Nat → Nat → Nat), (∀ i, i < k → c2 25 i = c1 25 i) → (∀ i, i < k → c2 26 i = c1 26 i) → duG (wkS lw p f g k) lw p b ≠ 200 → c2 25 k = duG (wkS lw p f g k) lw p b → (duG (wkS lw p f g k) lw p b ≠ 100 → c2 26 k = og (wkS lw p f g k) p (5 + duG (wkS lw p f g k) lw p b)) → WB lw p t f g c2 (k + 1) := by
        intro c2 x25 x26 hd y25 y26 i hi
        by_cases e : i = k
        · subst e
          rw [hb24]
          exact ⟨hWk, by omega, htou1, hd, y25, y26⟩
        · have := hwb i (by omega)
          rw [← x25 i (by omega), ← x26 i (by omega)] at this
          exact this
      have hbar : duG (wkS lw p f g k) lw p b = 200 → wkG lw p bs g = none := fun z => by rw [← hwk, wkG, if_pos z]
      refine am_goS gX9_go [5] 400 ?_
      simp only [am_eqs, am_eqk, am_eqv, lX9_go_0, lX9_go_1, lX9_go_2, fx_class, NH_at, NH_put, ↓reduceIte, List.mem_cons, List.not_mem_nil, or_false, or_self, false_or, true_and, and_true, Nat.reduceEqDiff, reduceCtorEq, List.length_cons, List.length_nil, Nat.reduceAdd, Nat.reduceLeDiff, Nat.reduceSub, Nat.reduceLT, Nat.zero_le, Nat.zero_add, forall_const, not_true_eq_false, not_false_eq_true, false_implies, true_implies, implies_true, Nat.zero_lt_succ, am_z0, am_z1]
      simp (disch := omega) only [hs_at, hs_put, hs_63, NH_at, NH_put, NH_cpy, ni_add, ni_mul, ni_clamp, ni_in, ni_eq, ni_lt, ni_le, ni_sub, Nat.reduceAdd, Nat.reduceMul, Nat.reduceSub, eq_self, true_implies, not_true_eq_false, false_implies, and_true, true_and, not_false_eq_true, Nat.reduceEqDiff, Nat.reduceLeDiff, Nat.reduceLT, implies_true, ite_true, ite_false, h6, e3, e24]
      refine ⟨fun z => absurd z (by omega), fun _ => ⟨by omega, ?_⟩⟩
      refine c_standsAtT (by omega) hWk hAk (fun z => ?_) (fun z => absurd ⟨⟨b, by omega, rfl⟩, by rw [ni_clamp (by omega)]; exact htou1⟩ z)
      simp (disch := omega) only [hs_at, hs_put, hs_63, NH_at, NH_put, NH_cpy, ni_add, ni_mul, ni_clamp, ni_in, ni_eq, ni_lt, ni_le, ni_sub, Nat.reduceAdd, Nat.reduceMul, Nat.reduceSub, eq_self, true_implies, not_true_eq_false, false_implies, and_true, true_and, not_false_eq_true, Nat.reduceEqDiff, Nat.reduceLeDiff, Nat.reduceLT, implies_true, ite_true, ite_false]
      refine c_due (V := V) (by omega) (by omega) hWk (by omega) hAk hLC hok hvi hV1 (fun hd => ?_) (fun hd c2 f2 v2 => ?_) (fun o ho hd c2 f2 v2 => ?_)
      · have hn := hnext (by omega)
        unfold stG at hn
        rw [if_pos hd] at hn
        simp (disch := omega) only [hs_at, hs_put, hs_63, NH_at, NH_put, NH_cpy, ni_add, ni_mul, ni_clamp, ni_in, ni_eq, ni_lt, ni_le, ni_sub, Nat.reduceAdd, Nat.reduceMul, Nat.reduceSub, eq_self, true_implies, not_true_eq_false, false_implies, and_true, true_and, not_false_eq_true, Nat.reduceEqDiff, Nat.reduceLeDiff, Nat.reduceLT, implies_true, ite_true, ite_false, ni_m2, h6]
        refine ⟨by omega, ?_⟩
        have ra1 : RAt (wkS lw p f g k) (cup c1 25 k 100) := rat_cell hAk (fun o x y _ => cup_ne _ _ _ (by omega))
        have e63 : cup c1 25 k 100 23 6 = k := by rw [cup_ne _ _ _ (by omega)]; exact h6
        simp (disch := omega) only [hs_at, hs_put, hs_63, NH_at, NH_put, NH_cpy, ni_add, ni_mul, ni_clamp, ni_in, ni_eq, ni_lt, ni_le, ni_sub, Nat.reduceAdd, Nat.reduceMul, Nat.reduceSub, eq_self, true_implies, not_true_eq_false, false_implies, and_true, true_and, not_false_eq_true, Nat.reduceEqDiff, Nat.reduceLeDiff, Nat.reduceLT, implies_true, ite_true, ite_false, e63]
        refine c_passF (by omega) (by omega) hWk ra1 (fun c3 r3 f3 => ?_)
        have e6 : c3 23 6 = k := by rw [f3 23 (by omega) (by omega) (by omega) (by omega) (by omega), cup_ne _ _ _ (by omega)]; exact h6
        simp (disch := omega) only [hs_at, hs_put, hs_63, NH_at, NH_put, NH_cpy, ni_add, ni_mul, ni_clamp, ni_in, ni_eq, ni_lt, ni_le, ni_sub, Nat.reduceAdd, Nat.reduceMul, Nat.reduceSub, eq_self, true_implies, not_true_eq_false, false_implies, and_true, true_and, not_false_eq_true, Nat.reduceEqDiff, Nat.reduceLeDiff, Nat.reduceLT, implies_true, ite_true, ite_false, nup_self, nup_ne, cup_self, cup_ne, e6]
        refine ⟨by omega, ?_⟩
        have fw3 : FW c (cup (cup c3 26 k 100) 23 6 (k + 1)) := (FW.put (FW.put ((FW.put hfw (Or.inl rfl)).fp f3) (Or.inr (Or.inl rfl))) (Or.inr (Or.inr ⟨rfl, rfl⟩)))
        have f25 : c3 25 = nup (c1 25) k 100 := by rw [f3 25 (by omega) (by omega) (by omega) (by omega) (by omega), cup_self]
        have f26 : c3 26 = c1 26 := by rw [f3 26 (by omega) (by omega) (by omega) (by omega) (by omega), cup_ne _ _ _ (by omega)]
        refine hn _ _ _ (rat_cell r3 (fun o x y _ => by rw [cup_ne _ _ _ (by omega), cup_ne _ _ _ (by omega)])) (hwb1 _ (fun i hi => ?_) (fun i hi => ?_) (by omega) ?_ (fun z => absurd hd z)) (hvi.ft ?_ ?_) fw3 ?_
        · rw [cup_ne _ _ _ (by omega), cup_ne _ _ _ (by omega), f25, nup_ne _ _ (by omega)]
        · rw [cup_ne _ _ _ (by omega), cup_self, f26, nup_ne _ _ (by omega)]
        · rw [cup_ne _ _ _ (by omega), cup_ne _ _ _ (by omega), f25, nup_self, hd]
        · rw [cup_ne _ _ _ (by omega), cup_ne _ _ _ (by omega), f3 20 (by omega) (by omega) (by omega) (by omega) (by omega), cup_ne _ _ _ (by omega)]
        · rw [cup_ne _ _ _ (by omega), cup_ne _ _ _ (by omega), f3 22 (by omega) (by omega) (by omega) (by omega) (by omega), cup_ne _ _ _ (by omega)]
        · rw [cup_self, nup_self]
      · simp (disch := omega) only [hs_at, hs_put, hs_63, NH_at, NH_put, NH_cpy, ni_add, ni_mul, ni_clamp, ni_in, ni_eq, ni_lt, ni_le, ni_sub, Nat.reduceAdd, Nat.reduceMul, Nat.reduceSub, eq_self, true_implies, not_true_eq_false, false_implies, and_true, true_and, not_false_eq_true, Nat.reduceEqDiff, Nat.reduceLeDiff, Nat.reduceLT, implies_true, ite_true, ite_false]
        refine K0 (hbar hd) k c2 (by omega) (hAk.ft f2) (fun i hi => ?_) hWk v2 (hfw.ft f2) ?_
        · have := hwb i hi
          rw [← f2 25 (by omega) (by omega) (by omega), ← f2 26 (by omega) (by omega) (by omega)] at this
          exact this
        · rw [f2 23 (by omega) (by omega) (by omega)]; exact h6
      · have hn := hnext (by omega)
        unfold stG at hn
        rw [if_neg (by omega), hd] at hn
        have e62 : c2 23 6 = k := by rw [f2 23 (by omega) (by omega) (by omega)]; exact h6
        simp (disch := omega) only [hs_at, hs_put, hs_63, NH_at, NH_put, NH_cpy, ni_add, ni_mul, ni_clamp, ni_in, ni_eq, ni_lt, ni_le, ni_sub, Nat.reduceAdd, Nat.reduceMul, Nat.reduceSub, eq_self, true_implies, not_true_eq_false, false_implies, and_true, true_and, not_false_eq_true, Nat.reduceEqDiff, Nat.reduceLeDiff, Nat.reduceLT, implies_true, ite_true, ite_false, ni_m2, e62]
        refine ⟨fun z => absurd z (by omega), fun _ => ⟨by omega, ?_⟩⟩
        have ra1 : RAt (wkS lw p f g k) (cup c2 25 k o) := rat_cell (hAk.ft f2) (fun o x y _ => cup_ne _ _ _ (by omega))
        have e63 : cup c2 25 k o 23 6 = k := by rw [cup_ne _ _ _ (by omega)]; exact e62
        simp (disch := omega) only [hs_at, hs_put, hs_63, NH_at, NH_put, NH_cpy, ni_add, ni_mul, ni_clamp, ni_in, ni_eq, ni_lt, ni_le, ni_sub, Nat.reduceAdd, Nat.reduceMul, Nat.reduceSub, eq_self, true_implies, not_true_eq_false, false_implies, and_true, true_and, not_false_eq_true, Nat.reduceEqDiff, Nat.reduceLeDiff, Nat.reduceLT, implies_true, ite_true, ite_false, e63]
        refine c_passO (by omega) (by omega) ho hWk ra1 (fun c3 r3 f3 => ?_)
        have e6 : c3 23 6 = k := by rw [f3 23 (by omega) (by omega) (by omega) (by omega) (by omega)]; exact e63
        simp (disch := omega) only [hs_at, hs_put, hs_63, NH_at, NH_put, NH_cpy, ni_add, ni_mul, ni_clamp, ni_in, ni_eq, ni_lt, ni_le, ni_sub, Nat.reduceAdd, Nat.reduceMul, Nat.reduceSub, eq_self, true_implies, not_true_eq_false, false_implies, and_true, true_and, not_false_eq_true, Nat.reduceEqDiff, Nat.reduceLeDiff, Nat.reduceLT, implies_true, ite_true, ite_false, nup_self, nup_ne, cup_self, cup_ne, e6]
        refine ⟨by omega, ?_⟩
        have fw3 := (FW.put (k := 6) (v := k + 1) (o := 23) (FW.put (k := k) (v := og (wkS lw p f g k) p (5 + o)) (o := 26) ((FW.put (k := k) (v := o) (o := 25) (hfw.ft f2) (Or.inl rfl)).fp f3) (Or.inr (Or.inl rfl))) (Or.inr (Or.inr ⟨rfl, rfl⟩)))
        have f25 : c3 25 = nup (c1 25) k o := by rw [f3 25 (by omega) (by omega) (by omega) (by omega) (by omega), cup_self, f2 25 (by omega) (by omega) (by omega)]
        have f26 : c3 26 = c1 26 := by rw [f3 26 (by omega) (by omega) (by omega) (by omega) (by omega), cup_ne _ _ _ (by omega), f2 26 (by omega) (by omega) (by omega)]
        refine hn _ _ _ (rat_cell r3 (fun o x y _ => by rw [cup_ne _ _ _ (by omega), cup_ne _ _ _ (by omega)])) (hwb1 _ (fun i hi => ?_) (fun i hi => ?_) (by omega) ?_ (fun _ => ?_)) (v2.ft ?_ ?_) fw3 ?_
        · rw [cup_ne _ _ _ (by omega), cup_ne _ _ _ (by omega), f25, nup_ne _ _ (by omega)]
        · rw [cup_ne _ _ _ (by omega), cup_self, f26, nup_ne _ _ (by omega)]
        · rw [cup_ne _ _ _ (by omega), cup_ne _ _ _ (by omega), f25, nup_self, hd]
        · rw [cup_ne _ _ _ (by omega), cup_self, nup_self, hd]
        · rw [cup_ne _ _ _ (by omega), cup_ne _ _ _ (by omega), f3 20 (by omega) (by omega) (by omega) (by omega) (by omega), cup_ne _ _ _ (by omega)]
        · rw [cup_ne _ _ _ (by omega), cup_ne _ _ _ (by omega), f3 22 (by omega) (by omega) (by omega) (by omega) (by omega), cup_ne _ _ _ (by omega)]
        · rw [cup_self, nup_self]
  refine loop bs 0 _ none none hcs (by omega) hW (fun _ _ => rfl) hcw rfl (fun i hi => absurd hi (by omega)) (rat_cell hA (fun o x y _ => cup_ne _ _ _ (by omega))) (fun i hi => absurd hi (by omega)) (hVI.ft (cup_ne _ _ _ (by omega)) (cup_ne _ _ _ (by omega))) (FW.put (FW.refl c) (Or.inr (Or.inr ⟨rfl, rfl⟩))) ?_
  rw [cup_self, nup_self]
end CGO
