/-! ===== part 68: plan of the class ===== -/
section CIPLAN
variable {E : am_E} {d : Nat} {h : am_H} {Q : Int32 → am_H → Prop} {g g0 g1 : Nat → Nat} {c : Nat → Nat → Nat} {t : Nat}
theorem cb_rb {A : Nat → Int32} (hg : g 2 ≤ 12) (N : Nat) (hN : N ≤ 12) (hA : ∀ i, i < N → A i = nI (g (75 + i))) (hr : ∀ i, i < N → g (75 + i) < g 2) : ∀ n k pl, k + n ≤ N → ((∃ bs, cbF g A n k pl = some bs) ↔ cwG g (rbF g n k) pl) := by
  intro n
  induction n with
  | zero => intro k pl _; exact ⟨fun _ => trivial, fun _ => ⟨[], rfl⟩⟩
  | succ n ih =>
    intro k pl hk
    have e := hA k (by omega)
    have hb := hr k (by omega)
    have hi := ih (k + 1) (oth g (g (75 + k)) pl) (by omega)
    rw [cbF, rbF, e, ni_clamp (by omega)]
    constructor
    · rintro ⟨bs, hbs⟩
      by_cases z : isB (nI (g (75 + k))) (g 2) ∧ tou g (g (75 + k)) pl
      · rw [cif_pos z] at hbs
        refine ⟨hb, z.2, hi.mp ?_⟩
        cases q : cbF g A n (k + 1) (oth g (g (75 + k)) pl) with
        | none => rw [q] at hbs; cases hbs
        | some l => exact ⟨l, rfl⟩
      · rw [cif_neg z] at hbs; cases hbs
    · rintro ⟨h1, h2, h3⟩
      obtain ⟨l, hl⟩ := hi.mpr h3
      exact ⟨g (75 + k) :: l, by rw [cif_pos ⟨⟨_, hb, rfl⟩, h2⟩, hl]; rfl⟩
theorem CS_WA {f : Nat → Nat} : ∀ (l : List Nat) (k : Nat), CS f l k → WA (fun i => nI (f i)) l k
  | [], _, _ => trivial
  | _ :: r, k, h => ⟨congrArg nI h.1, CS_WA r (k + 1) h.2⟩
theorem c_isPartM {v : Int32} (h0 : Q (nI 0) h) : am_C tT E (d + 1) mX11_isPart [.inl v, .inl (-1)] h Q := by
  refine am_C.of (by decide) (Nat.le_of_ble_eq_true rfl) ?_
  show am_R tT E _ mX11_isPart _ 0 [some (.inl v), some (.inl (-1))] [] h
  refine am_goS gX11_isPart [] 400 ?_
  simp only [am_eqs, am_eqk, am_eqv, lX11_isPart_0, fx_class, NH_at, NH_put, ↓reduceIte, List.mem_cons, List.not_mem_nil, or_false, or_self, false_or, true_and, and_true, Nat.reduceEqDiff, reduceCtorEq, List.length_cons, List.length_nil, Nat.reduceAdd, Nat.reduceLeDiff, Nat.reduceSub, Nat.reduceLT, Nat.zero_le, Nat.zero_add, forall_const, not_true_eq_false, not_false_eq_true, false_implies, true_implies, implies_true, Nat.zero_lt_succ, am_z0, am_z1]
  refine c_within (fun c => ?_) (fun c => ?_)
  · exfalso
    have := Int32.le_trans c.1 c.2
    revert this
    decide
  · exact ⟨Or.inl rfl, h0⟩
theorem ci_plan {lw : Lw} {vp vw : Int32} (hW : WF g t) (ht : t + 12 < 1000000) (hA : RA g c) (hL : LC c lw) (hok : LOK lw) (h20 : c 20 3 = 0) (hq : ∀ c2, RA g c2 → (∀ o, o = 0 ∨ o = 17 ∨ o = 18 ∨ (26 < o ∧ o ≠ 59) → c2 o = c o) → c2 20 3 = 0 → Q (sp_plan g lw vp vw) (NH c2)) : am_C tT E (d + 10) mX11_plan [.inr 0, .inl vp, .inl vw] (NH c) Q := by
  have e1 : c 6 0 = g 1 := hA.2.1.1
  have w1 := hW.1.2.1
  have w2 := hW.1.2.2.1
  have w8 := hW.1.2.2.2.2.2.2.2.2
  have hno : ¬ okPl g vp vw → ∀ c2, RA g c2 → (∀ o, o = 0 ∨ o = 17 ∨ o = 18 ∨ (26 < o ∧ o ≠ 59) → c2 o = c o) → c2 20 3 = 0 → Q (-1) (NH c2) := fun z c2 a b e => by have := hq c2 a b e; unfold sp_plan at this; rw [cif_neg z] at this; exact this
  have hno0 : ¬ okPl g vp vw → Q (-1) (NH c) := fun z => hno z c hA (fun _ _ => rfl) h20
  refine am_C.of (by decide) (Nat.le_of_ble_eq_true rfl) ?_
  show am_R tT E _ mX11_plan _ 0 [some (.inr 0), some (.inl vp), some (.inl vw), none] [] (NH c)
  refine am_goS gX11_plan [25] 400 ?_
  simp only [am_eqs, am_eqk, am_eqv, lX11_plan_0, lX11_plan_1, lX11_plan_2, fx_class, NH_at, NH_put, ↓reduceIte, List.mem_cons, List.not_mem_nil, or_false, or_self, false_or, true_and, and_true, Nat.reduceEqDiff, reduceCtorEq, List.length_cons, List.length_nil, Nat.reduceAdd, Nat.reduceLeDiff, Nat.reduceSub, Nat.reduceLT, Nat.zero_le, Nat.zero_add, forall_const, not_true_eq_false, not_false_eq_true, false_implies, true_implies, implies_true, Nat.zero_lt_succ, am_z0, am_z1]
  refine c_isPerson (by omega) (fun z1 => ?_) (fun z1 => ?_)
  · try simp (disch := omega) only [hs_at, hs_put, hs_63, NH_at, NH_put, NH_cpy, ni_add, ni_mul, ni_clamp, ni_in, ni_eq, ni_lt, ni_le, ni_sub, Nat.reduceAdd, Nat.reduceMul, Nat.reduceSub, eq_self, true_implies, not_true_eq_false, false_implies, and_true, true_and, not_false_eq_true, Nat.reduceEqDiff, Nat.reduceLeDiff, Nat.reduceLT, implies_true, ite_true, ite_false]
    rw [e1] at z1
    obtain ⟨p, hp, rfl⟩ := z1
    have hpe := hW.p (show p < 8 by omega)
    have main : (vw = nI 0 ∨ ∃ k, k < 3 ∧ vw = nI (10 + k)) → am_R tT E (d + 10) mX11_plan Q 25 [some (.inr 0), some (.inl (nI p)), some (.inl vw), none] [] (NH c) := by
      intro hvw
      refine am_goS gX11_plan [] 400 ?_
      simp only [am_eqs, am_eqk, am_eqv, lX11_plan_0, lX11_plan_1, lX11_plan_2, fx_class, NH_at, NH_put, ↓reduceIte, List.mem_cons, List.not_mem_nil, or_false, or_self, false_or, true_and, and_true, Nat.reduceEqDiff, reduceCtorEq, List.length_cons, List.length_nil, Nat.reduceAdd, Nat.reduceLeDiff, Nat.reduceSub, Nat.reduceLT, Nat.zero_le, Nat.zero_add, forall_const, not_true_eq_false, not_false_eq_true, false_implies, true_implies, implies_true, Nat.zero_lt_succ, am_z0, am_z1]
      refine c_startRound (fun c2 f2 s24 s3 s23 => ?_)
      have hA2 : RA g c2 := ra_cell hA (fun o x y => f2 o (by omega) (by omega))
      have hA2t : RAt g c2 := ⟨hA2.1, hA2.2.1, hA2.2.2.1⟩
      have q7 : c2 7 p = og g p 0 := (hA2.2.1.2 p (by omega)).1
      have s3' : c2 23 3 = g 8 := by rw [s3]; exact hA.1.1.2.2.2.2.2.2
      have s24' : ∀ i, i < 12 → c2 24 i = g (75 + i) := fun i hi => by rw [s24 i hi]; exact hA.1.2.2.2.2.1 i hi
      have hcb := cb_rb (g := g) (A := fun k => nI (c2 24 k)) w2 (g 8) w8 (fun i hi => by rw [s24' i (by omega)]) hW.2.2.2.2.1 (g 8) 0 (og g p 0) (by omega)
      have h202 : c2 20 3 = 0 := by rw [f2 20 (by omega) (by omega)]; exact h20
      try simp (disch := omega) only [hs_at, hs_put, hs_63, NH_at, NH_put, NH_cpy, ni_add, ni_mul, ni_clamp, ni_in, ni_eq, ni_lt, ni_le, ni_sub, Nat.reduceAdd, Nat.reduceMul, Nat.reduceSub, eq_self, true_implies, not_true_eq_false, false_implies, and_true, true_and, not_false_eq_true, Nat.reduceEqDiff, Nat.reduceLeDiff, Nat.reduceLT, implies_true, ite_true, ite_false, q7]
      refine ⟨by omega, ?_⟩
      refine c_canBe (g := g) (t := t) s3' w8 hpe.1 hW hA2t (fun hz hl0 => ?_) (fun hz => ?_)
      · have hcw := hcb.mp hz
        have hokp : okPl g (nI p) vw := ⟨⟨p, hp, rfl⟩, hvw, by rw [ni_clamp (by omega)]; exact hcw, hl0⟩
        unfold sp_plan at hq
        rw [cif_pos hokp, ni_clamp (by omega)] at hq
        try simp (disch := omega) only [hs_at, hs_put, hs_63, NH_at, NH_put, NH_cpy, ni_add, ni_mul, ni_clamp, ni_in, ni_eq, ni_lt, ni_le, ni_sub, Nat.reduceAdd, Nat.reduceMul, Nat.reduceSub, eq_self, true_implies, not_true_eq_false, false_implies, and_true, true_and, not_false_eq_true, Nat.reduceEqDiff, Nat.reduceLeDiff, Nat.reduceLT, implies_true, ite_true, ite_false]
        refine c_remember (V := verV g lw p) (fun c3 f3 v3 => ?_)
        have hA3t : RAt g c3 := rat_cell hA2t (fun o x y _ => f3 o (by omega) (by omega))
        have hL3 : LC c3 lw := by
          unfold LC at *
          rw [f3 17 (by omega) (by omega), f3 18 (by omega) (by omega), f2 17 (by omega) (by omega), f2 18 (by omega) (by omega)]
          exact hL
        have fin : ∀ c4, RAt g c4 → FZ c3 c4 → RA g (cup c4 20 3 0) ∧ (∀ o, o = 0 ∨ o = 17 ∨ o = 18 ∨ (26 < o ∧ o ≠ 59) → cup c4 20 3 0 o = c o) ∧ cup c4 20 3 0 20 3 = 0 := by
          intro c4 r4 f4
          have r5 := rat_cell (c' := cup c4 20 3 0) r4 (fun o x y _ => cup_ne _ _ _ (by omega))
          refine ⟨⟨r5.1, r5.2.1, r5.2.2, fun q hq => ?_⟩, fun o ho => ?_, by rw [cup_self, nup_self]⟩
          · rw [cup_ne _ _ _ (by omega), f4.1 10 (by omega), f3 10 (by omega) (by omega), f2 10 (by omega) (by omega)]
            exact hA.2.2.2 q hq
          · rw [cup_ne _ _ _ (by omega), f4.1 o (by omega), f3 o (by omega) (by omega), f2 o (by omega) (by omega)]
        try simp (disch := omega) only [hs_at, hs_put, hs_63, NH_at, NH_put, NH_cpy, ni_add, ni_mul, ni_clamp, ni_in, ni_eq, ni_lt, ni_le, ni_sub, Nat.reduceAdd, Nat.reduceMul, Nat.reduceSub, eq_self, true_implies, not_true_eq_false, false_implies, and_true, true_and, not_false_eq_true, Nat.reduceEqDiff, Nat.reduceLeDiff, Nat.reduceLT, implies_true, ite_true, ite_false]
        refine c_find hp hW ht hok hcw hA3t hL3 v3 (by rw [f3 23 (by omega) (by omega)]; exact s3') (fun i hi => by rw [f3 24 (by omega) (by omega)]; exact s24' i hi) (fun l hl c4 r4 f4 cs4 ll => ?_) (fun hl c4 r4 f4 => ?_)
        · obtain ⟨a1, a2, a3⟩ := fin c4 r4 f4
          have hans := hq _ a1 a2 a3
          rw [hl] at hans
          simp only at hans
          try simp (disch := omega) only [hs_at, hs_put, hs_63, NH_at, NH_put, NH_cpy, ni_add, ni_mul, ni_clamp, ni_in, ni_eq, ni_lt, ni_le, ni_sub, Nat.reduceAdd, Nat.reduceMul, Nat.reduceSub, eq_self, true_implies, not_true_eq_false, false_implies, and_true, true_and, not_false_eq_true, Nat.reduceEqDiff, Nat.reduceLeDiff, Nat.reduceLT, implies_true, ite_true, ite_false]
          refine c_vforget ?_
          try simp (disch := omega) only [hs_at, hs_put, hs_63, NH_at, NH_put, NH_cpy, ni_add, ni_mul, ni_clamp, ni_in, ni_eq, ni_lt, ni_le, ni_sub, Nat.reduceAdd, Nat.reduceMul, Nat.reduceSub, eq_self, true_implies, not_true_eq_false, false_implies, and_true, true_and, not_false_eq_true, Nat.reduceEqDiff, Nat.reduceLeDiff, Nat.reduceLT, implies_true, ite_true, ite_false]
          refine Iff.mp and_comm ⟨fun e => ?_, fun e => ?_⟩
          · rw [cif_neg e] at hans
            rcases hvw with hv | ⟨k, hk, rfl⟩
            · exact absurd hv e
            · rw [ni_clamp (by omega), Nat.add_sub_cancel_left] at hans
              refine c_isPart (by omega) (fun y => ?_) (fun y => ?_)
              · obtain ⟨k', hk', e'⟩ := y
                rw [ni_eq (by omega) (by omega)] at e'
                have e3 : k' = k := by omega
                subst e3
                rw [cif_pos hk'] at hans
                have hk59 := WA_get (A := fun i => nI (c4 59 i)) l 0 k' hk' (CS_WA l 0 cs4)
                rw [Nat.zero_add] at hk59
                have h59 : cup c4 20 3 0 59 = c4 59 := cup_ne _ _ _ (by omega)
                try simp (disch := omega) only [hs_at, hs_put, hs_63, NH_at, NH_put, NH_cpy, ni_add, ni_mul, ni_clamp, ni_in, ni_eq, ni_lt, ni_le, ni_sub, Nat.reduceAdd, Nat.reduceMul, Nat.reduceSub, eq_self, true_implies, not_true_eq_false, false_implies, and_true, true_and, not_false_eq_true, Nat.reduceEqDiff, Nat.reduceLeDiff, Nat.reduceLT, implies_true, ite_true, ite_false, Nat.add_sub_cancel_left, h59]
                refine ⟨by omega, ?_⟩
                rw [hk59]
                exact hans
              · rw [cif_neg (fun z => y ⟨k, z, rfl⟩)] at hans
                try simp (disch := omega) only [hs_at, hs_put, hs_63, NH_at, NH_put, NH_cpy, ni_add, ni_mul, ni_clamp, ni_in, ni_eq, ni_lt, ni_le, ni_sub, Nat.reduceAdd, Nat.reduceMul, Nat.reduceSub, eq_self, true_implies, not_true_eq_false, false_implies, and_true, true_and, not_false_eq_true, Nat.reduceEqDiff, Nat.reduceLeDiff, Nat.reduceLT, implies_true, ite_true, ite_false]
                exact hans
          · rw [cif_pos e] at hans
            exact hans
        · obtain ⟨a1, a2, a3⟩ := fin c4 r4 f4
          have hans := hq _ a1 a2 a3
          rw [hl] at hans
          simp only at hans
          try simp (disch := omega) only [hs_at, hs_put, hs_63, NH_at, NH_put, NH_cpy, ni_add, ni_mul, ni_clamp, ni_in, ni_eq, ni_lt, ni_le, ni_sub, Nat.reduceAdd, Nat.reduceMul, Nat.reduceSub, eq_self, true_implies, not_true_eq_false, false_implies, and_true, true_and, not_false_eq_true, Nat.reduceEqDiff, Nat.reduceLeDiff, Nat.reduceLT, implies_true, ite_true, ite_false]
          refine c_vforget ?_
          try simp (disch := omega) only [hs_at, hs_put, hs_63, NH_at, NH_put, NH_cpy, ni_add, ni_mul, ni_clamp, ni_in, ni_eq, ni_lt, ni_le, ni_sub, Nat.reduceAdd, Nat.reduceMul, Nat.reduceSub, eq_self, true_implies, not_true_eq_false, false_implies, and_true, true_and, not_false_eq_true, Nat.reduceEqDiff, Nat.reduceLeDiff, Nat.reduceLT, implies_true, ite_true, ite_false]
          refine Iff.mp and_comm ⟨fun e => ?_, fun e => ?_⟩
          · refine c_isPartM ?_
            try simp (disch := omega) only [hs_at, hs_put, hs_63, NH_at, NH_put, NH_cpy, ni_add, ni_mul, ni_clamp, ni_in, ni_eq, ni_lt, ni_le, ni_sub, Nat.reduceAdd, Nat.reduceMul, Nat.reduceSub, eq_self, true_implies, not_true_eq_false, false_implies, and_true, true_and, not_false_eq_true, Nat.reduceEqDiff, Nat.reduceLeDiff, Nat.reduceLT, implies_true, ite_true, ite_false]
            exact hans
          · exact hans
      · try simp (disch := omega) only [hs_at, hs_put, hs_63, NH_at, NH_put, NH_cpy, ni_add, ni_mul, ni_clamp, ni_in, ni_eq, ni_lt, ni_le, ni_sub, Nat.reduceAdd, Nat.reduceMul, Nat.reduceSub, eq_self, true_implies, not_true_eq_false, false_implies, and_true, true_and, not_false_eq_true, Nat.reduceEqDiff, Nat.reduceLeDiff, Nat.reduceLT, implies_true, ite_true, ite_false]
        refine hno (fun q => ?_) c2 hA2 (fun o ho => f2 o (by omega) (by omega)) h202
        have q1 := q.2.2.1
        have q2 := q.2.2.2
        rw [ni_clamp (by omega)] at q1
        rcases hz with hz | hz
        · obtain ⟨bs, hbs⟩ := hcb.mpr q1
          rw [hz] at hbs
          cases hbs
        · omega
    refine ⟨fun e => main (Or.inl e), fun e => ?_⟩
    refine c_isPart (n := 3) (by omega) (fun y => ?_) (fun y => ?_)
    · try simp (disch := omega) only [hs_at, hs_put, hs_63, NH_at, NH_put, NH_cpy, ni_add, ni_mul, ni_clamp, ni_in, ni_eq, ni_lt, ni_le, ni_sub, Nat.reduceAdd, Nat.reduceMul, Nat.reduceSub, eq_self, true_implies, not_true_eq_false, false_implies, and_true, true_and, not_false_eq_true, Nat.reduceEqDiff, Nat.reduceLeDiff, Nat.reduceLT, implies_true, ite_true, ite_false]
      exact main (Or.inr y)
    · try simp (disch := omega) only [hs_at, hs_put, hs_63, NH_at, NH_put, NH_cpy, ni_add, ni_mul, ni_clamp, ni_in, ni_eq, ni_lt, ni_le, ni_sub, Nat.reduceAdd, Nat.reduceMul, Nat.reduceSub, eq_self, true_implies, not_true_eq_false, false_implies, and_true, true_and, not_false_eq_true, Nat.reduceEqDiff, Nat.reduceLeDiff, Nat.reduceLT, implies_true, ite_true, ite_false]
      refine hno0 (fun q => ?_)
      rcases q.2.1 with q | q
      · exact e q
      · exact y q
  · try simp (disch := omega) only [hs_at, hs_put, hs_63, NH_at, NH_put, NH_cpy, ni_add, ni_mul, ni_clamp, ni_in, ni_eq, ni_lt, ni_le, ni_sub, Nat.reduceAdd, Nat.reduceMul, Nat.reduceSub, eq_self, true_implies, not_true_eq_false, false_implies, and_true, true_and, not_false_eq_true, Nat.reduceEqDiff, Nat.reduceLeDiff, Nat.reduceLT, implies_true, ite_true, ite_false]
    rw [e1] at z1
    exact hno0 (fun q => z1 q.1)
end CIPLAN
