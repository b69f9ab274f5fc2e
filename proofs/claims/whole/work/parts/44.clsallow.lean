/-! ===== part 44: what the class's law allows ===== -/
def tkS (q : Nat × Nat) : List Nat := if q.1 = 0 then [q.2] else if q.1 < 13 then [10005 + q.1] else if q.1 = 13 then [20043] else if q.1 = 14 then [20045] else if q.1 = 15 then [20042] else if q.1 = 16 then [q.2, 20047] else if q.1 = 17 then [20060] else if q.1 = 18 then [20061] else if q.1 = 19 then [20062] else if q.1 = 20 then [10005] else if q.1 = 21 then [10004] else [10003]
def tkL : List (Nat × Nat) → List Nat
  | [] => []
  | q :: r => tkS q ++ tkL r
def tkW : Lw → List Nat
  | [] => []
  | l :: r => tkL l.2 ++ (10000 + l.1) :: tkW r
def CS (f : Nat → Nat) : List Nat → Nat → Prop
  | [], _ => True
  | x :: r, a => f a = x ∧ CS f r (a + 1)
theorem CS_app {f : Nat → Nat} : ∀ (x y : List Nat) (a : Nat), CS f (x ++ y) a ↔ CS f x a ∧ CS f y (a + x.length)
  | [], y, a => by simp [CS]
  | z :: x, y, a => by
    have := CS_app (f := f) x y (a + 1)
    simp only [List.cons_append, CS, this, List.length_cons, and_assoc]
    rw [show a + 1 + x.length = a + (x.length + 1) by omega]
def LC (c : Nat → Nat → Nat) (lw : Lw) : Prop := c 17 0 = lw.length ∧ c 17 1 = (tkW lw).length ∧ (tkW lw).length ≤ 400 ∧ CS (c 18) (tkW lw) 0
section CALL
variable {E : am_E} {d : Nat} {h : am_H} {Q : Int32 → am_H → Prop} {g : Nat → Nat} {c : Nat → Nat → Nat} {t : Nat}
theorem c_steps {fc : Nat → Int32} (h400 : c 17 1 ≤ 400) (hf : ∀ s, 1 ≤ s → s ≤ 8 → nI (c 21 (s - 1)) = fc s) : ∀ (st : List (Nat × Nat)) (i : Nat) (stk : List Int32) (T : List Bool) (c1 : Nat → Nat → Nat) (v4 : Option am_V), CS (c 18) (tkL st) i → i + (tkL st).length < c 17 1 → TM T stk → T.length ≤ 22 → tyL st T = some [true] → SC (c1 19) stk → (∀ o, o ≠ 19 → c1 o = c o) →
    (∀ c2 v v4, evL fc st stk = [v] → (v = nI 0 ∨ v = nI 1) → SC (c2 19) [v] → (∀ o, o ≠ 19 → c2 o = c o) → am_R tT E (d + 1) mX3_allows Q 4 [some (.inr 17), some (.inr 21), some (.inl (nI 1)), some (.inl (nI (i + (tkL st).length))), v4] [] (NH c2)) →
    am_R tT E (d + 1) mX3_allows Q 4 [some (.inr 17), some (.inr 21), some (.inl (nI stk.length)), some (.inl (nI i)), v4] [] (NH c1) := by
  intro st
  induction st with
  | nil =>
    intro i stk T c1 v4 hcs hi hm h22 hty hsc hfr hk
    have hT : T = [true] := by simpa [tyL] using hty
    subst hT
    match stk, hm, hsc, hk with
    | [v], hm, hsc, hk => exact hk c1 v v4 rfl (hm.1 rfl) hsc hfr
  | cons q st ih =>
    intro i stk T c1 v4 hcs hi hm h22 hty hsc hfr hk
    have hlT := TM_len T stk hm
    simp only [tyL] at hty
    cases ht1 : ty1 q T with
    | none => rw [ht1] at hty; cases hty
    | some T' =>
      rw [ht1] at hty
      have hm' := ty_ev1 (fc := fc) ht1 hm
      simp only [tkL, CS_app] at hcs
      obtain ⟨hc1, hc2⟩ := hcs
      simp only [tkL, List.length_append] at hi
      rcases ty_q ht1 with ⟨t1, t2, t3, t4, t5, t6⟩ | t1
      · have hnx := fun (c2 : Nat → Nat → Nat) (v4 : Option am_V) (hs2 : SC (c2 19) (ev1 fc q stk)) (hfr2 : ∀ o, o ≠ 19 → c2 o = c o) => ih (i + (tkS q).length) (ev1 fc q stk) T' c2 v4 hc2 (by omega) hm' t6 hty hs2 hfr2 (fun c3 v v5 e1 e2 e3 e4 => by
          have := hk c3 v v5 e1 e2 e3 e4
          rw [tkL, List.length_append, ← Nat.add_assoc] at this
          exact this)
        have e18 := hfr 18 (by omega)
        have e17 := hfr 17 (by omega)
        have e21 := hfr 21 (by omega)
        have hlk := fun (c' : Nat → Nat → Nat) (h' : ∀ o, o ≠ 19 → c' o = c1 o) (o : Nat) (ho : o ≠ 19) => (h' o ho).trans (hfr o ho)
        have one : ∀ x, tkS q = [x] → c 18 i = x ∧ i < c 17 1 ∧ (tkS q).length = 1 := by
          intro x hx
          rw [hx] at hc1 hi
          exact ⟨hc1.1, by simp at hi; omega, by rw [hx]; rfl⟩
        by_cases h13 : q.1 < 13
        · have hcc := t2 h13
          by_cases h0 : q.1 = 0
          · have hx : tkS q = [q.2] := by unfold tkS; rw [if_pos h0]
            obtain ⟨o1, o2, o3⟩ := one _ hx
            have hev : ev1 fc q stk = nI q.2 :: stk := by unfold ev1; rw [if_pos h13, if_pos h0]
            refine c_tok (x := q.2) (by rw [e18]; exact o1) (by rw [e17]; exact o2) (by rw [e17]; exact h400) hsc rfl (Or.inl ⟨by omega, by omega, fun c' hc' hs' => ?_⟩)
            rw [hev, o3] at hnx
            exact hnx c' _ hs' (hlk c' hc')
          · have hx : tkS q = [10005 + q.1] := by unfold tkS; rw [if_neg h0, if_pos h13]
            obtain ⟨o1, o2, o3⟩ := one _ hx
            have hev : ev1 fc q stk = fc q.1 :: stk := by unfold ev1; rw [if_pos h13, if_neg h0]
            refine c_tok (x := 10005 + q.1) (by rw [e18]; exact o1) (by rw [e17]; exact o2) (by rw [e17]; exact h400) hsc rfl (Or.inr (Or.inl ⟨by omega, by omega, by omega, fun c' hc' hs' => ?_⟩))
            rw [e21, show 10005 + q.1 - 10006 = q.1 - 1 by omega, hf q.1 (by omega) (by omega)] at hs'
            rw [hev, o3] at hnx
            exact hnx c' _ hs' (hlk c' hc')
        · match stk, hm, hlT, hsc, hnx with
          | [], hm, hlT, hsc, hnx => exfalso; have := t4 (by omega); simp at hlT; simp [hlT] at this
          | a :: r, hm, hlT, hsc, hnx =>
            simp only [List.length_cons] at hlT
            unfold ev1 at hnx
            rw [if_neg h13] at hnx
            dsimp only at hnx
            by_cases h16 : q.1 = 16
            · have t32 := t3 h16
              have hx : tkS q = [q.2, 20047] := by unfold tkS; rw [if_neg (by omega), if_neg h13, if_neg (by omega), if_neg (by omega), if_neg (by omega), if_pos h16]
              rw [if_pos h16] at hnx
              rw [hx] at hc1 hi hnx
              obtain ⟨o1, o2, -⟩ := hc1
              simp only [List.length_cons, List.length_nil, Nat.zero_add, Nat.reduceAdd] at hi hnx
              refine c_tok (x := q.2) (by rw [e18]; exact o1) (by rw [e17]; omega) (by rw [e17]; exact h400) hsc rfl (Or.inl ⟨by omega, by simp only [List.length_cons]; omega, fun c' hc' hs' => ?_⟩)
              have hl' := hlk c' hc'
              refine c_tok (x := 20047) (tp := _) (stk := nI q.2 :: a :: r) (by rw [hl' 18 (by omega)]; exact o2) (by rw [hl' 17 (by omega)]; omega) (by rw [hl' 17 (by omega)]; exact h400) hs' rfl (Or.inr (Or.inr (Or.inr ⟨by unfold isJ; omega, by simp only [List.length_cons]; omega, nI q.2, a, r, rfl, fun c'' hc'' hs'' => ?_⟩)))
              have hne : ¬ nI q.2 = nI 0 := by rw [ni_eq (by omega) (by omega)]; omega
              have hjn : jn 20047 a (nI q.2) = a / nI q.2 := by
                unfold jn
                rw [if_neg (by omega), if_neg (by omega), if_neg (by omega), if_pos rfl, if_neg hne]
              rw [hjn] at hs''
              exact hnx c'' _ hs'' (fun o ho => (hc'' o ho).trans (hl' o ho))
            · rw [if_neg h16] at hnx
              by_cases h20 : q.1 = 20
              · have hx : tkS q = [10005] := by unfold tkS; simp [h20]
                obtain ⟨o1, o2, o3⟩ := one _ hx
                rw [if_pos h20, o3] at hnx
                refine c_tok (x := 10005) (by rw [e18]; exact o1) (by rw [e17]; exact o2) (by rw [e17]; exact h400) hsc rfl (Or.inr (Or.inr (Or.inl ⟨rfl, by simp only [List.length_cons]; omega, a, r, rfl, fun c' hc' hs' => ?_⟩)))
                exact hnx c' _ hs' (hlk c' hc')
              · rw [if_neg h20] at hnx
                match r, hm, hlT, hsc, hnx with
                | [], hm, hlT, hsc, hnx => exfalso; have := t5 (by omega) h16 h20; simp at hlT; omega
                | b :: r', hm, hlT, hsc, hnx =>
                  simp only [List.length_cons] at hlT
                  dsimp only at hnx
                  have hex : ∃ x, tkS q = [x] ∧ isJ x ∧ jn x b a = bth q.1 b a := by
                    have : q.1 = 13 ∨ q.1 = 14 ∨ q.1 = 15 ∨ q.1 = 17 ∨ q.1 = 18 ∨ q.1 = 19 ∨ q.1 = 21 ∨ q.1 = 22 := by omega
                    rcases this with e | e | e | e | e | e | e | e
                    all_goals
                      unfold tkS bth
                      rw [e]
                      simp only [Nat.reduceEqDiff, Nat.reduceLT, Nat.reduceLeDiff, if_true, if_false, ↓reduceIte]
                      refine ⟨_, rfl, by unfold isJ; omega, ?_⟩
                      unfold jn
                      simp only [Nat.reduceEqDiff, if_true, if_false, ↓reduceIte]
                  obtain ⟨x, hx, hj, hjn⟩ := hex
                  obtain ⟨o1, o2, o3⟩ := one _ hx
                  rw [o3] at hnx
                  refine c_tok (x := x) (by rw [e18]; exact o1) (by rw [e17]; exact o2) (by rw [e17]; exact h400) hsc rfl (Or.inr (Or.inr (Or.inr ⟨hj, by simp only [List.length_cons]; omega, a, b, r', rfl, fun c' hc' hs' => ?_⟩)))
                  rw [hjn] at hs'
                  exact hnx c' _ hs' (hlk c' hc')
      · omega
theorem c_allows {lw : Lw} {fc : Nat → Int32} (hL : LC c lw) (hok : LOK lw) (hf : ∀ s, 1 ≤ s → s ≤ 8 → nI (c 21 (s - 1)) = fc s)
    (h1 : alw fc lw → ∀ c', (∀ o, o ≠ 19 → c' o = c o) → Q (nI 1) (NH c')) (h0 : ¬ alw fc lw → ∀ c', (∀ o, o ≠ 19 → c' o = c o) → Q (nI 0) (NH c')) : am_C tT E (d + 1) mX3_allows [.inr 17, .inr 21] (NH c) Q := by
  obtain ⟨-, L1, L2, L3⟩ := hL
  refine am_C.of (by decide) (Nat.le_of_ble_eq_true rfl) ?_
  show am_R tT E _ mX3_allows _ 0 [some (.inr 17), some (.inr 21), none, none, none] [] (NH c)
  refine am_goS gX3_allows [4] 400 ?_
  simp only [am_eqs, am_eqk, am_eqv, lX3_allows_0, lX3_allows_1, lX3_allows_2, lX3_allows_3, lX3_allows_4, fx_class, NH_at, NH_put, ↓reduceIte, List.mem_cons, List.not_mem_nil, or_false, or_self, false_or, true_and, and_true, Nat.reduceEqDiff, reduceCtorEq, List.length_cons, List.length_nil, Nat.reduceAdd, Nat.reduceLeDiff, Nat.reduceSub, Nat.reduceLT, Nat.zero_le, Nat.zero_add, forall_const, not_true_eq_false, not_false_eq_true, false_implies, true_implies, implies_true, Nat.zero_lt_succ, am_z0, am_z1]
  have lines : ∀ (lw' : Lw) (i : Nat) (c1 : Nat → Nat → Nat) (v4 : Option am_V), CS (c 18) (tkW lw') i → i + (tkW lw').length = c 17 1 → LOK lw' → (alw fc lw' ↔ alw fc lw) → (∀ o, o ≠ 19 → c1 o = c o) → am_R tT E (d + 1) mX3_allows Q 4 [some (.inr 17), some (.inr 21), some (.inl (nI 0)), some (.inl (nI i)), v4] [] (NH c1) := by
    intro lw'
    induction lw' with
    | nil =>
      intro i c1 v4 hcs hi hok' hiff hfr
      have e17 : c1 17 1 = i := by rw [hfr 17 (by omega)]; simpa [tkW] using hi.symm
      refine am_goS gX3_allows [4] 400 ?_
      simp only [am_eqs, am_eqk, am_eqv, lX3_allows_0, lX3_allows_1, lX3_allows_2, lX3_allows_3, lX3_allows_4, fx_class, NH_at, NH_put, ↓reduceIte, List.mem_cons, List.not_mem_nil, or_false, or_self, false_or, true_and, and_true, Nat.reduceEqDiff, reduceCtorEq, List.length_cons, List.length_nil, Nat.reduceAdd, Nat.reduceLeDiff, Nat.reduceSub, Nat.reduceLT, Nat.zero_le, Nat.zero_add, forall_const, not_true_eq_false, not_false_eq_true, false_implies, true_implies, implies_true, Nat.zero_lt_succ, am_z0, am_z1]
      simp (disch := omega) only [hs_at, hs_put, hs_63, NH_at, NH_put, NH_cpy, ni_add, ni_mul, ni_clamp, ni_in, ni_eq, ni_lt, ni_le, ni_sub, Nat.reduceAdd, Nat.reduceMul, Nat.reduceSub, eq_self, true_implies, not_true_eq_false, false_implies, and_true, true_and, not_false_eq_true, Nat.reduceEqDiff, Nat.reduceLeDiff, Nat.reduceLT, implies_true, ite_true, ite_false, e17]
      exact ⟨fun _ => h1 (hiff.mp trivial) c1 hfr, fun z => absurd (Nat.le_refl _) z⟩
    | cons l r ih =>
      intro i c1 v4 hcs hi hok' hiff hfr
      have hl0 := hok' l List.mem_cons_self
      have hokr : LOK r := fun q hq => hok' q (List.mem_cons_of_mem _ hq)
      simp only [tkW, CS_app, CS] at hcs
      obtain ⟨s1, s2, s3⟩ := hcs
      simp only [tkW, List.length_append, List.length_cons] at hi
      have hans : ∀ c2 : Nat → Nat → Nat, (∀ o, o ≠ 19 → c2 o = c o) → (l.2 = [] ∨ evL fc l.2 [] = [nI 1]) → (l.1 = 0 → Q (nI 1) (NH c2)) ∧ (¬ l.1 = 0 → Q (nI 0) (NH c2)) := by
        intro c2 hfr2 hcond
        refine ⟨fun e => h1 (hiff.mp (Or.inl ⟨hcond, e⟩)) c2 hfr2, fun e => h0 (fun q => ?_) c2 hfr2⟩
        rcases hiff.mpr q with ⟨-, y⟩ | ⟨y, -⟩
        · exact e y
        · exact y hcond
      by_cases hnil : l.2 = []
      · rw [hnil] at s2 s3 hi
        simp only [tkL, List.length_nil, Nat.add_zero, Nat.zero_add] at s2 s3 hi
        have e18 : c1 18 i = 10000 + l.1 := by rw [hfr 18 (by omega)]; exact s2
        have e17 : c1 17 1 = c 17 1 := by rw [hfr 17 (by omega)]
        have := hans c1 hfr (Or.inl hnil)
        refine am_goS gX3_allows [4] 400 ?_
        simp only [am_eqs, am_eqk, am_eqv, lX3_allows_0, lX3_allows_1, lX3_allows_2, lX3_allows_3, lX3_allows_4, fx_class, NH_at, NH_put, ↓reduceIte, List.mem_cons, List.not_mem_nil, or_false, or_self, false_or, true_and, and_true, Nat.reduceEqDiff, reduceCtorEq, List.length_cons, List.length_nil, Nat.reduceAdd, Nat.reduceLeDiff, Nat.reduceSub, Nat.reduceLT, Nat.zero_le, Nat.zero_add, forall_const, not_true_eq_false, not_false_eq_true, false_implies, true_implies, implies_true, Nat.zero_lt_succ, am_z0, am_z1]
        simp (disch := omega) only [hs_at, hs_put, hs_63, NH_at, NH_put, NH_cpy, ni_add, ni_mul, ni_clamp, ni_in, ni_eq, ni_lt, ni_le, ni_sub, Nat.reduceAdd, Nat.reduceMul, Nat.reduceSub, eq_self, true_implies, not_true_eq_false, false_implies, and_true, true_and, not_false_eq_true, Nat.reduceEqDiff, Nat.reduceLeDiff, Nat.reduceLT, implies_true, ite_true, ite_false, e18, e17]
        refine ⟨fun z => absurd z (by omega), fun _ => ⟨by omega, fun e => ⟨fun e2 => this.1 (by omega), fun e2 => this.2 (by omega)⟩, fun e => ⟨fun e2 => ⟨fun e3 => absurd e3 e, fun _ => this.2 (by omega)⟩, fun z => absurd z (by omega)⟩⟩⟩
      · have hty := hl0.2.resolve_left hnil
        refine c_steps (c := c) (fc := fc) (by omega) hf l.2 i [] [] c1 v4 s1 (by omega) trivial (by decide) hty trivial hfr (fun c2 v v5 hev h01 hsc hfr2 => ?_)
        have e18 : c2 18 (i + (tkL l.2).length) = 10000 + l.1 := by rw [hfr2 18 (by omega)]; exact s2
        have e17 : c2 17 1 = c 17 1 := by rw [hfr2 17 (by omega)]
        have e19 : nI (c2 19 0) = v := hsc.1
        have hnx := ih (i + (tkL l.2).length + 1) c2 (some (.inl (nI (10000 + l.1)))) s3 (by omega) hokr
        have hbig : i + (tkL l.2).length < 400 := by omega
        have hj : i + (tkL l.2).length < c 17 1 := by omega
        generalize i + (tkL l.2).length = j at e18 hnx hbig hj
        refine am_goS gX3_allows [4] 400 ?_
        simp only [am_eqs, am_eqk, am_eqv, lX3_allows_0, lX3_allows_1, lX3_allows_2, lX3_allows_3, lX3_allows_4, fx_class, NH_at, NH_put, ↓reduceIte, List.mem_cons, List.not_mem_nil, or_false, or_self, false_or, true_and, and_true, Nat.reduceEqDiff, reduceCtorEq, List.length_cons, List.length_nil, Nat.reduceAdd, Nat.reduceLeDiff, Nat.reduceSub, Nat.reduceLT, Nat.zero_le, Nat.zero_add, forall_const, not_true_eq_false, not_false_eq_true, false_implies, true_implies, implies_true, Nat.zero_lt_succ, am_z0, am_z1]
        simp (disch := omega) only [hs_at, hs_put, hs_63, NH_at, NH_put, NH_cpy, ni_add, ni_mul, ni_clamp, ni_in, ni_eq, ni_lt, ni_le, ni_sub, Nat.reduceAdd, Nat.reduceMul, Nat.reduceSub, eq_self, true_implies, not_true_eq_false, false_implies, and_true, true_and, not_false_eq_true, Nat.reduceEqDiff, Nat.reduceLeDiff, Nat.reduceLT, implies_true, ite_true, ite_false, e18, e17]
        rw [e19]
        rcases h01 with rfl | rfl
        · have hc : ¬ (l.2 = [] ∨ evL fc l.2 [] = [nI 1]) := by
            rintro (q | q)
            · exact hnil q
            · rw [hev] at q
              have : nI 0 = nI 1 := by injection q
              exact absurd this (by decide)
          have hiff2 : alw fc r ↔ alw fc lw := by
            rw [← hiff]
            simp only [alw]
            exact ⟨fun z => Or.inr ⟨hc, z⟩, fun z => by rcases z with ⟨z, -⟩ | ⟨-, z⟩; exact absurd z hc; exact z⟩
          have hgo := hnx hiff2 hfr2
          simp (disch := omega) only [hs_at, hs_put, hs_63, NH_at, NH_put, NH_cpy, ni_add, ni_mul, ni_clamp, ni_in, ni_eq, ni_lt, ni_le, ni_sub, Nat.reduceAdd, Nat.reduceMul, Nat.reduceSub, eq_self, true_implies, not_true_eq_false, false_implies, and_true, true_and, not_false_eq_true, Nat.reduceEqDiff, Nat.reduceLeDiff, Nat.reduceLT, implies_true, ite_true, ite_false]
          refine ⟨fun z => absurd z (by omega), fun _ => ⟨by omega, fun _ => hgo, fun e => ⟨fun _ => hgo, fun z => absurd z (by omega)⟩⟩⟩
        · have := hans c2 hfr2 (Or.inr hev)
          simp (disch := omega) only [hs_at, hs_put, hs_63, NH_at, NH_put, NH_cpy, ni_add, ni_mul, ni_clamp, ni_in, ni_eq, ni_lt, ni_le, ni_sub, Nat.reduceAdd, Nat.reduceMul, Nat.reduceSub, eq_self, true_implies, not_true_eq_false, false_implies, and_true, true_and, not_false_eq_true, Nat.reduceEqDiff, Nat.reduceLeDiff, Nat.reduceLT, implies_true, ite_true, ite_false]
          refine ⟨fun z => absurd z (by omega), fun _ => ⟨by omega, fun e => ⟨fun e2 => this.1 (by omega), fun e2 => this.2 (by omega)⟩, fun e => ⟨fun e2 => ⟨fun e3 => absurd e3 e, fun _ => this.2 (by omega)⟩, fun z => absurd z (by omega)⟩⟩⟩
  exact lines lw 0 c none L3 (by omega) hok Iff.rfl (fun _ _ => rfl)
end CALL
