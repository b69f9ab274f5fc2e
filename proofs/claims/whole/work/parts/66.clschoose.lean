/-! ===== part 66: the class's plan: names are tried ===== -/
def FZ (c c' : Nat → Nat → Nat) : Prop := (∀ o, o ≤ 6 ∨ o = 8 ∨ o = 9 ∨ o = 10 ∨ o = 14 ∨ o = 15 ∨ o = 17 ∨ o = 18 ∨ o = 20 ∨ o = 24 ∨ (26 < o ∧ o ≠ 59) → c' o = c o) ∧ ∀ k, k ≠ 6 → c' 23 k = c 23 k
section CHOOSE
variable {E : am_E} {d : Nat} {h : am_H} {Q : Int32 → am_H → Prop} {g g0 g1 : Nat → Nat} {c : Nat → Nat → Nat} {t : Nat}
theorem FZ.refl (c : Nat → Nat → Nat) : FZ c c := ⟨fun _ _ => rfl, fun _ _ => rfl⟩
theorem FZ.trans {c c1 c2 : Nat → Nat → Nat} (h1 : FZ c c1) (h2 : FZ c1 c2) : FZ c c2 := ⟨fun o ho => (h2.1 o ho).trans (h1.1 o ho), fun k hk => (h2.2 k hk).trans (h1.2 k hk)⟩
theorem FZ.fw {c c1 : Nat → Nat → Nat} (h : FW c c1) : FZ c c1 := ⟨fun o ho => h.1 o (by omega) (by omega) (by omega) (by omega) (by omega) (by omega) (by omega) (by omega) (by omega) (by omega) (by omega), h.2⟩
theorem FZ.fp {c c1 : Nat → Nat → Nat} (h : FP c c1) : FZ c c1 := ⟨fun o ho => h o (by omega) (by omega) (by omega) (by omega) (by omega), fun k _ => by rw [h 23 (by omega) (by omega) (by omega) (by omega) (by omega)]⟩
theorem c_fill (hq : ∀ c', (∀ o, o ≠ 22 → c' o = c o) → (∀ j, j < 2160 → c' 22 j = 0) → Q 0 (NH c')) : am_C tT E d mJ7_fill_53178 [.inr 22, .inl (nI 0)] (NH c) Q := by
  refine am_C.of (by decide) (Nat.le_of_ble_eq_true rfl) ?_
  show am_R tT E _ mJ7_fill_53178 _ 0 [some (.inr 22), some (.inl (nI 0)), none, none] [] (NH c)
  refine am_goS gJ7_fill_53178 [5] 400 ?_
  simp only [am_eqs, am_eqk, am_eqv, lJ7_fill_53178_0, fx_class, NH_at, NH_put, ↓reduceIte, List.mem_cons, List.not_mem_nil, or_false, or_self, false_or, true_and, and_true, Nat.reduceEqDiff, reduceCtorEq, List.length_cons, List.length_nil, Nat.reduceAdd, Nat.reduceLeDiff, Nat.reduceSub, Nat.reduceLT, Nat.zero_le, Nat.zero_add, forall_const, not_true_eq_false, not_false_eq_true, false_implies, true_implies, implies_true, Nat.zero_lt_succ, am_z0, am_z1]
  have loop : ∀ n k (c1 : Nat → Nat → Nat), k + n = 2160 → (∀ o, o ≠ 22 → c1 o = c o) → (∀ j, j < k → c1 22 j = 0) → am_R tT E d mJ7_fill_53178 Q 5 [some (.inr 22), some (.inl (nI 0)), some (.inl (nI k)), some (.inl (nI 2160))] [] (NH c1) := by
    intro n
    induction n with
    | zero =>
      intro k c1 hk hf hz
      have e : k = 2160 := by omega
      subst e
      refine am_goS gJ7_fill_53178 [5] 400 ?_
      simp only [am_eqs, am_eqk, am_eqv, lJ7_fill_53178_0, fx_class, NH_at, NH_put, ↓reduceIte, List.mem_cons, List.not_mem_nil, or_false, or_self, false_or, true_and, and_true, Nat.reduceEqDiff, reduceCtorEq, List.length_cons, List.length_nil, Nat.reduceAdd, Nat.reduceLeDiff, Nat.reduceSub, Nat.reduceLT, Nat.zero_le, Nat.zero_add, forall_const, not_true_eq_false, not_false_eq_true, false_implies, true_implies, implies_true, Nat.zero_lt_succ, am_z0, am_z1]
      exact ⟨fun _ => hq c1 hf hz, fun z => absurd (Int32.le_refl _) z⟩
    | succ n ih =>
      intro k c1 hk hf hz
      refine am_goS gJ7_fill_53178 [5] 400 ?_
      simp only [am_eqs, am_eqk, am_eqv, lJ7_fill_53178_0, fx_class, NH_at, NH_put, ↓reduceIte, List.mem_cons, List.not_mem_nil, or_false, or_self, false_or, true_and, and_true, Nat.reduceEqDiff, reduceCtorEq, List.length_cons, List.length_nil, Nat.reduceAdd, Nat.reduceLeDiff, Nat.reduceSub, Nat.reduceLT, Nat.zero_le, Nat.zero_add, forall_const, not_true_eq_false, not_false_eq_true, false_implies, true_implies, implies_true, Nat.zero_lt_succ, am_z0, am_z1]
      try simp (disch := omega) only [hs_at, hs_put, hs_63, NH_at, NH_put, NH_cpy, ni_add, ni_mul, ni_clamp, ni_in, ni_eq, ni_lt, ni_le, ni_sub, Nat.reduceAdd, Nat.reduceMul, Nat.reduceSub, eq_self, true_implies, not_true_eq_false, false_implies, and_true, true_and, not_false_eq_true, Nat.reduceEqDiff, Nat.reduceLeDiff, Nat.reduceLT, implies_true, ite_true, ite_false]
      refine ⟨fun z => absurd z (by omega), fun _ => ⟨by omega, ?_⟩⟩
      refine ih (k + 1) _ (by omega) (fun o ho => ?_) (fun j hj => ?_)
      · rw [cup_ne _ _ _ ho]; exact hf o ho
      · rw [cup_self, nup_app]
        split
        · rfl
        · exact hz j (by omega)
  exact loop 2160 0 c rfl (fun _ _ => rfl) (fun j hj => absurd hj (by omega))
theorem c_remember {V : Nat → Nat → Nat → Nat → Prop} (hq : ∀ c', (∀ o, o ≠ 20 → o ≠ 22 → c' o = c o) → VI V c' → Q 0 (NH c')) : am_C tT E (d + 1) mX7_remember [.inr 20] (NH c) Q := by
  refine am_C.of (by decide) (Nat.le_of_ble_eq_true rfl) ?_
  show am_R tT E _ mX7_remember _ 0 [some (.inr 20)] [] (NH c)
  refine am_goS gX7_remember [] 400 ?_
  simp only [am_eqs, am_eqk, am_eqv, lX7_remember_0, fx_class, NH_at, NH_put, ↓reduceIte, List.mem_cons, List.not_mem_nil, or_false, or_self, false_or, true_and, and_true, Nat.reduceEqDiff, reduceCtorEq, List.length_cons, List.length_nil, Nat.reduceAdd, Nat.reduceLeDiff, Nat.reduceSub, Nat.reduceLT, Nat.zero_le, Nat.zero_add, forall_const, not_true_eq_false, not_false_eq_true, false_implies, true_implies, implies_true, Nat.zero_lt_succ, am_z0, am_z1]
  refine c_fill (fun c' hf hz => ?_)
  try simp (disch := omega) only [hs_at, hs_put, hs_63, NH_at, NH_put, NH_cpy, ni_add, ni_mul, ni_clamp, ni_in, ni_eq, ni_lt, ni_le, ni_sub, Nat.reduceAdd, Nat.reduceMul, Nat.reduceSub, eq_self, true_implies, not_true_eq_false, false_implies, and_true, true_and, not_false_eq_true, Nat.reduceEqDiff, Nat.reduceLeDiff, Nat.reduceLT, implies_true, ite_true, ite_false]
  refine hq _ (fun o x y => by rw [cup_ne _ _ _ x]; exact hf o y) (Or.inr ⟨by rw [cup_self, nup_self], fun b n m hb hn hm1 hm => ?_⟩)
  rw [cup_ne _ _ _ (by omega), hz _ (by omega)]
  exact ⟨by omega, fun o _ => by simp⟩
theorem c_vforget (hq : Q 0 (NH (cup c 20 3 0))) : am_C tT E d mX7_forget [.inr 20] (NH c) Q := by
  refine am_C.of (by decide) (Nat.le_of_ble_eq_true rfl) ?_
  show am_R tT E _ mX7_forget _ 0 [some (.inr 20)] [] (NH c)
  refine am_goS gX7_forget [] 400 ?_
  simp only [am_eqs, am_eqk, am_eqv, lX7_forget_0, fx_class, NH_at, NH_put, ↓reduceIte, List.mem_cons, List.not_mem_nil, or_false, or_self, false_or, true_and, and_true, Nat.reduceEqDiff, reduceCtorEq, List.length_cons, List.length_nil, Nat.reduceAdd, Nat.reduceLeDiff, Nat.reduceSub, Nat.reduceLT, Nat.zero_le, Nat.zero_add, forall_const, not_true_eq_false, not_false_eq_true, false_implies, true_implies, implies_true, Nat.zero_lt_succ, am_z0, am_z1]
  exact hq
theorem c_startRound (hq : ∀ c', (∀ o, o ≠ 23 → o ≠ 24 → c' o = c o) → (∀ i, i < 12 → c' 24 i = c 5 i) → c' 23 3 = c 1 9 → (∀ k, k ≠ 3 → c' 23 k = c 23 k) → Q 0 (NH c')) : am_C tT E (d + 1) mX9_startRound [.inr 23] (NH c) Q := by
  refine am_C.of (by decide) (Nat.le_of_ble_eq_true rfl) ?_
  show am_R tT E _ mX9_startRound _ 0 [some (.inr 23)] [] (NH c)
  refine am_goS gX9_startRound [] 400 ?_
  simp only [am_eqs, am_eqk, am_eqv, lX9_startRound_0, fx_class, NH_at, NH_put, ↓reduceIte, List.mem_cons, List.not_mem_nil, or_false, or_self, false_or, true_and, and_true, Nat.reduceEqDiff, reduceCtorEq, List.length_cons, List.length_nil, Nat.reduceAdd, Nat.reduceLeDiff, Nat.reduceSub, Nat.reduceLT, Nat.zero_le, Nat.zero_add, forall_const, not_true_eq_false, not_false_eq_true, false_implies, true_implies, implies_true, Nat.zero_lt_succ, am_z0, am_z1]
  try simp (disch := omega) only [hs_at, hs_put, hs_63, NH_at, NH_put, NH_cpy, ni_add, ni_mul, ni_clamp, ni_in, ni_eq, ni_lt, ni_le, ni_sub, Nat.reduceAdd, Nat.reduceMul, Nat.reduceSub, eq_self, true_implies, not_true_eq_false, false_implies, and_true, true_and, not_false_eq_true, Nat.reduceEqDiff, Nat.reduceLeDiff, Nat.reduceLT, implies_true, ite_true, ite_false, nup_self, nup_ne, cup_self, cup_ne]
  refine ⟨by first | decide | omega, by first | decide | omega, by first | decide | omega, ?_⟩
  refine hq _ (fun o x y => ?_) (fun j hj => ?_) ?_ (fun k hk => ?_)
  · funext j; grind [cup_app, ccp_app]
  · grind [cup_app, ccp_app]
  · grind [cup_app, ccp_app]
  · grind [cup_app, ccp_app]
theorem CS_rb {f : Nat → Nat} (hf : ∀ i, i < 12 → f i = g (75 + i)) : ∀ n k, k + n ≤ 12 → CS f (rbF g n k) k
  | 0, _, _ => trivial
  | n + 1, k, h => ⟨hf k (by omega), CS_rb hf n (k + 1) (by omega)⟩
theorem cmL_snoc {p n : Nat} : ∀ (ch : List Nat) (g : Nat → Nat), cmL p (ch ++ [n]) g = comG (cmL p ch g) p n
  | [], _ => rfl
  | _ :: r, g => cmL_snoc r _
theorem has_cmL {p fr k : Nat} (hp : p < 8) (hk : fr ≤ k) : ∀ (ch : List Nat) (g : Nat → Nat) (lo : Nat), og g p 2 + ch.length ≤ 9 → okC g p fr ch lo → (hasN (cmL p ch g) p k ↔ hasN g p k)
  | [], _, _, _, _ => Iff.rfl
  | n :: r, g, lo, hl, h => by
    simp only [List.length_cons] at hl
    obtain ⟨h1, h2, h3, h4⟩ := h
    have e0 : comG g p n 0 = g 0 := com_off (by omega) hp (by omega)
    have e2 : og (comG g p n) p 2 = og g p 2 + 1 := by rw [og_com (by omega) hp hp (by omega), if_pos rfl, if_pos rfl]
    have hlt : ∀ (r : List Nat) (lo : Nat), okC g p fr r lo → lo ≤ fr := by
      intro r
      induction r with
      | nil => intro lo h; exact h
      | cons m r ih => intro lo h; have := ih _ h.2.2.2; have := h.1; omega
    have := hlt r _ h4
    rw [cmL, has_cmL hp hk r (comG g p n) (n + 1) (by omega) (okC_com hp (by omega) e0 r (n + 1) (by omega) h4), has_com hp (by omega)]
    exact ⟨fun z => z.resolve_right (by omega), Or.inl⟩
theorem rat_append {p n : Nat} (hm9 : ∀ q, q < 8 → og g q 2 ≤ 9) (hp : p < 8) (hm : og g p 2 < 9) (hA : RAt g c) : RAt (comG g p n) (iC c p (c 12 p) n) := by
  have ez : c 12 p = og g p 2 := (hA.2.1.2 p hp).2.2.2.2.1
  have hcell : ∀ o, o ≠ 13 → o ≠ 12 → o ≠ 11 → iC c p (c 12 p) n o = c o := by
    intro o h1 h2 h3
    funext j
    unfold iC
    rw [cup_app, if_neg h3, cup_app, if_neg h2, cup_app, if_neg h1, ccp_app, if_neg h1]
  have hx : ∀ j, (j < 90 ∨ 218 ≤ j) → comG g p n j = g j := fun j hj => com_off (by omega) hp hj
  refine ⟨rw_congr hA.1 (fun j hj => hx j (by omega)) (hcell 1 (by omega) (by omega) (by omega)) (hcell 2 (by omega) (by omega) (by omega)) (hcell 3 (by omega) (by omega) (by omega)) (hcell 4 (by omega) (by omega) (by omega)) (hcell 5 (by omega) (by omega) (by omega)) (hcell 14 (by omega) (by omega) (by omega)) (hcell 15 (by omega) (by omega) (by omega)), ?_, fun b m hb hmm => ?_⟩
  · rw [ez]
    refine rp_ins hp hm9 hm (Nat.le_refl _) hA.2.1 (hx 1 (by omega)) (fun q hq hqp => ?_) ?_ (fun i hi => ?_) ?_ (fun i hi1 hi2 => absurd hi2 (by omega))
    · have h9 := hm9 q hq
      refine ⟨?_, ?_, ?_, ?_, fun i hi => ?_⟩ <;> rw [og_com (by omega) hp hq (by omega), if_neg hqp]
    · refine ⟨?_, ?_, ?_, ?_⟩ <;> rw [og_com (by omega) hp hp (by omega), if_pos rfl] <;> simp
      all_goals omega
    · rw [og_com (by omega) hp hp (by omega), if_pos rfl, if_neg (by omega), if_neg (by omega)]
    · rw [og_com (by omega) hp hp (by omega), if_pos rfl, if_neg (by omega), if_pos rfl]
  · rw [hx _ (by omega), hcell _ (by omega) (by omega) (by omega)]
    exact hA.2.2 b m hb hmm
theorem rat_unappend {p n : Nat} (hm9 : ∀ q, q < 8 → og g q 2 ≤ 9) (hp : p < 8) (hm : og g p 2 < 9) (hn : n < 32) (hr : ∀ i, i < og g p 2 → og g p (5 + i) < 32) (hno : ¬ hasN g p n) (hA : RAt (comG g p n) c) : RAt g (rC c p (og g p 2)) := by
  have hcp : ∀ f, f < 15 → og (comG g p n) p f = if f = 2 then og g p 2 + 1 else if f = 5 + og g p 2 then n else og g p f := fun f hf => by rw [og_com (by omega) hp hp hf, if_pos rfl]
  have hcq : ∀ q f, q < 8 → q ≠ p → f < 15 → og (comG g p n) q f = og g q f := fun q f hq hqp hf => by rw [og_com (by omega) hp hq hf, if_neg hqp]
  have e2 : og (comG g p n) p 2 = og g p 2 + 1 := by rw [hcp 2 (by omega), if_pos rfl]
  have e5 : ∀ i, i < og g p 2 → og (comG g p n) p (5 + i) = og g p (5 + i) := fun i hi => by rw [hcp _ (by omega), if_neg (by omega), if_neg (by omega)]
  have en : og (comG g p n) p (5 + og g p 2) = n := by rw [hcp _ (by omega), if_neg (by omega), if_pos rfl]
  have hcell : ∀ o, o ≠ 13 → o ≠ 12 → o ≠ 11 → rC c p (og g p 2) o = c o := by
    intro o h1 h2 h3
    funext j
    unfold rC
    rw [cup_app, if_neg h2, ccp_app, if_neg h1, cup_app, if_neg h3]
  have hx : ∀ j, (j < 90 ∨ 218 ≤ j) → comG g p n j = g j := fun j hj => com_off (by omega) hp hj
  refine ⟨rw_congr hA.1 (fun j hj => (hx j (by omega)).symm) (hcell 1 (by omega) (by omega) (by omega)) (hcell 2 (by omega) (by omega) (by omega)) (hcell 3 (by omega) (by omega) (by omega)) (hcell 4 (by omega) (by omega) (by omega)) (hcell 5 (by omega) (by omega) (by omega)) (hcell 14 (by omega) (by omega) (by omega)) (hcell 15 (by omega) (by omega) (by omega)), ?_, fun b m hb hmm => ?_⟩
  · refine rp_rem (g1 := comG g p n) (g2 := g) (n := n) hp (fun q hq => ?_) (by omega) hA.2.1 (hx 1 (by omega)).symm (fun q hq hqp => ?_) en hn (fun i hi => ?_) (fun i hi hio => ?_) ?_ (fun i hi => (e5 i hi).symm) (fun i h1 h2 => absurd h2 (by omega))
    · by_cases e : q = p
      · subst e; omega
      · rw [hcq q 2 hq e (by omega)]; exact hm9 q hq
    · have h9 := hm9 q hq
      refine ⟨?_, ?_, ?_, ?_, fun i hi => ?_⟩
      all_goals (try rw [hcq q 2 hq hqp (by omega)] at hi)
      all_goals rw [hcq q _ hq hqp (by omega)]
    · by_cases e : i = og g p 2
      · rw [e, en]; exact hn
      · rw [e5 i (by omega)]; exact hr i (by omega)
    · rw [e5 i (by omega)]
      exact fun e => hno ⟨i, by omega, e⟩
    · refine ⟨?_, ?_, ?_, ?_⟩
      · rw [hcp 0 (by omega), if_neg (by omega), if_neg (by omega)]
      · rw [hcp 1 (by omega), if_neg (by omega), if_neg (by omega)]
      · omega
      · rw [hcp 3 (by omega), if_neg (by omega), if_neg (by omega)]
  · rw [← hx _ (by omega), hcell _ (by omega) (by omega) (by omega)]
    exact hA.2.2 b m hb hmm
theorem c_leaf {lw : Lw} {p n fr : Nat} {ch : List Nat} {vf v5 v6 : Option am_V} (hn : ch.length = n) (hp : p < g 1) (hW : WF g t) (ht : t + 12 < 1000000) (hA : RAt (cmL p ch g) c) (hL : LC c lw) (hok : LOK lw) (hcw : cwG g (rbF g (g 8) 0) (og g p 0)) (h9 : og g p 2 + n ≤ 9) (hn3 : n ≤ 3) (hc : okC g p fr ch 0) (hVI : VI (verV g lw p) c) (h3 : c 23 3 = g 8) (h24 : ∀ i, i < 12 → c 24 i = g (75 + i))
    (h1 : rdOK g lw p ch → ∀ c', RAt (cmL p ch g) c' → VI (verV g lw p) c' → FZ c c' → c' 59 = c 59 → Q (nI 1) (NH c')) (h0 : ¬ rdOK g lw p ch → ∀ c', RAt (cmL p ch g) c' → VI (verV g lw p) c' → FZ c c' → c' 59 = c 59 → Q (nI 0) (NH c')) :
    am_R tT E (d + 5) mX6_choose Q 0 [some (.inr 58), some (.inl (nI p)), some (.inl (nI n)), some (.inl (nI n)), vf, v5, v6] [] (NH c) := by
  have w1 := hW.1.2.1
  have w2 := hW.1.2.2.1
  have w8 := hW.1.2.2.2.2.2.2.2.2
  obtain ⟨k1, k2, k3, k4⟩ := cmL_ok (fr := fr) ch g 0 hp hW (by omega) hc
  have hvs : VS g (cmL p ch g) p := vs_cmL (fr := fr) ch g 0 hp w1 (by omega) (VS.refl g p) (fun _ _ => rfl)
  have hcs : CS (c 24) (rbF g (g 8) 0) 0 := CS_rb h24 _ _ (by omega)
  have hcw' : cwG (cmL p ch g) (rbF g (g 8) 0) (og (cmL p ch g) p 0) := by
    rw [k3]
    exact cw_congr (by omega) (fun j hj => k2 j (by omega)) _ _ hcw
  have e1 : cmL p ch g 1 = g 1 := k2 1 (by omega)
  have e2 : cmL p ch g 2 = g 2 := k2 2 (by omega)
  have hfb : ∀ i, i < g 8 → c 24 i < cmL p ch g 2 := by
    intro i hi
    have := CS_lt _ _ _ hcs hcw' i (by rw [rbF_len]; exact hi)
    rw [Nat.zero_add] at this
    exact this
  refine am_goS gX6_choose [35] 400 ?_
  simp only [am_eqs, am_eqk, am_eqv, lX6_choose_0, lX6_choose_1, lX6_choose_2, lX6_choose_3, fx_class, NH_at, NH_put, ↓reduceIte, List.mem_cons, List.not_mem_nil, or_false, or_self, false_or, true_and, and_true, Nat.reduceEqDiff, reduceCtorEq, List.length_cons, List.length_nil, Nat.reduceAdd, Nat.reduceLeDiff, Nat.reduceSub, Nat.reduceLT, Nat.zero_le, Nat.zero_add, forall_const, not_true_eq_false, not_false_eq_true, false_implies, true_implies, implies_true, Nat.zero_lt_succ, am_z0, am_z1]
  try simp (disch := omega) only [hs_at, hs_put, hs_63, NH_at, NH_put, NH_cpy, ni_add, ni_mul, ni_clamp, ni_in, ni_eq, ni_lt, ni_le, ni_sub, Nat.reduceAdd, Nat.reduceMul, Nat.reduceSub, eq_self, true_implies, not_true_eq_false, false_implies, and_true, true_and, not_false_eq_true, Nat.reduceEqDiff, Nat.reduceLeDiff, Nat.reduceLT, implies_true, ite_true, ite_false]
  refine ⟨fun _ => ?_, fun z => absurd (Nat.le_refl _) z⟩
  refine c_go (V := verV g lw p) (g := cmL p ch g) (t := t) (L := g 8) (bs := rbF g (g 8) 0) (f := c 24) rfl (by omega) k1 ht hA hL hok hVI h3 (by omega) hcs (rbF_len g _ _) hcw' (fun _ k hk hd o ho => ?_) (fun hw n c3 n1 ra wb wf vi fw h6 => ?_) (fun hw c3 ra wb wf vi fw h6 => ?_)
  · obtain ⟨a1, a2, a3⟩ := vs_wkS (lw := lw) (L := g 8) (f := c 24) (show p < 8 by omega) k1 hvs hfb k (by omega) hd
    have := hfb k hk
    exact ver_vs a3 (by omega) (by omega) (hW.mono (by omega)) a1 ho
  · have c324 : c 24 = c3 24 := (fw.1 24 (by omega) (by omega) (by omega) (by omega) (by omega) (by omega) (by omega) (by omega) (by omega) (by omega) (by omega)).symm
    refine c_wback (g := cmL p ch g) (t := t) (lw := lw) (n := n) (f := c 24) c324 (by omega) (by omega) (wkS_st (by omega) wb (by omega)) ra wb h6 (by omega) (by omega) (fun c4 r4 f4 => ?_)
    refine ⟨Or.inl rfl, h0 (fun q => by unfold rdOK at q; rw [hw] at q; cases q) c4 r4 (vi.ft (f4 20 (by omega) (by omega) (by omega) (by omega) (by omega)) (f4 22 (by omega) (by omega) (by omega) (by omega) (by omega))) ((FZ.fw fw).trans (FZ.fp f4)) ?_⟩
    rw [f4 59 (by omega) (by omega) (by omega) (by omega) (by omega), fw.1 59 (by omega) (by omega) (by omega) (by omega) (by omega) (by omega) (by omega) (by omega) (by omega) (by omega) (by omega)]
  · have c324 : c 24 = c3 24 := (fw.1 24 (by omega) (by omega) (by omega) (by omega) (by omega) (by omega) (by omega) (by omega) (by omega) (by omega) (by omega)).symm
    refine c_wback (g := cmL p ch g) (t := t) (lw := lw) (n := g 8) (f := c 24) c324 (by omega) (by omega) (wkS_st (by omega) wb (by omega)) ra wb h6 (by omega) (by omega) (fun c4 r4 f4 => ?_)
    refine ⟨Or.inr rfl, h1 (by unfold rdOK; rw [hw]; rfl) c4 r4 (vi.ft (f4 20 (by omega) (by omega) (by omega) (by omega) (by omega)) (f4 22 (by omega) (by omega) (by omega) (by omega) (by omega))) ((FZ.fw fw).trans (FZ.fp f4)) ?_⟩
    rw [f4 59 (by omega) (by omega) (by omega) (by omega) (by omega), fw.1 59 (by omega) (by omega) (by omega) (by omega) (by omega) (by omega) (by omega) (by omega) (by omega) (by omega) (by omega)]
end CHOOSE
