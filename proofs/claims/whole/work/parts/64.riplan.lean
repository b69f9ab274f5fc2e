/-! ===== part 64: plan of the reference ===== -/
noncomputable def pnF (g : Nat → Nat) (lw : Lw) (p : Nat) : Nat → Nat → Option (List Nat)
  | 0, _ => none
  | m + 1, n => if og g p 2 + n ≤ 9 then (match plF g lw p n [] 0 with
    | some l => some l
    | none => pnF g lw p m (n + 1)) else none
def okPl (g : Nat → Nat) (vp vw : Int32) : Prop := isB vp (g 1) ∧ (vw = nI 0 ∨ ∃ k, k < 3 ∧ vw = nI (10 + k)) ∧ cwG g (rbF g (g 8) 0) (og g vp.toNatClampNeg 0) ∧ 0 < g 8
noncomputable def sp_plan (g : Nat → Nat) (lw : Lw) (vp vw : Int32) : Int32 := cif (okPl g vp vw) (match pnF g lw vp.toNatClampNeg 4 0 with
  | none => -1
  | some l => cif (vw = nI 0) (nI l.length) (cif (vw.toNatClampNeg - 10 < l.length) (nI (l.getD (vw.toNatClampNeg - 10) 0)) (-1))) (-1)
section RIPLAN
variable {E : am_E} {d : Nat} {h : am_H} {Q : Int32 → am_H → Prop} {g g0 : Nat → Nat} {c : Nat → Nat → Nat} {t : Nat}
theorem WA_get {A : Nat → Int32} : ∀ (l : List Nat) (k i : Nat), i < l.length → WA A l k → A (k + i) = nI (l.getD i 0)
  | [], _, _, h, _ => absurd h (by simp)
  | x :: r, k, 0, _, h => h.1
  | x :: r, k, i + 1, hi, h => by
    simp only [List.length_cons] at hi
    have := WA_get r (k + 1) i (by omega) h.2
    rw [show k + 1 + i = k + (i + 1) by omega] at this
    simpa using this
theorem ri_plan {lw : Lw} {vp vw : Int32} (hW : WF g t) (hL : LRl g lw 0 0) (hok : LOK lw) (hq : ∀ h' : am_H, (∀ q, q ≠ 67 → q ≠ 71 → q ≠ 72 → q ≠ 75 → h' q = h q) → Q (sp_plan g lw vp vw) (hs h' g)) : am_C tT E (d + 9) mX12_plan [.inr 63, .inl vp, .inl vw] (hs h g) Q := by
  have w1 := hW.1.2.1
  have hq0 := hq h (fun _ _ _ _ _ => rfl)
  have hno : ¬ okPl g vp vw → Q (-1) (hs h g) := fun z => by unfold sp_plan at hq0; rw [cif_neg z] at hq0; exact hq0
  refine am_C.of (by decide) (Nat.le_of_ble_eq_true rfl) ?_
  show am_R tT E _ mX12_plan _ 0 [some (.inr 63), some (.inl vp), some (.inl vw), none] [] (hs h g)
  refine am_goS gX12_plan [35] 400 ?_
  simp only [am_eqs, am_eqk, am_eqv, lX12_plan_0, lX12_plan_1, lX12_plan_2, fx_ref, ↓reduceIte, List.mem_cons, List.not_mem_nil, or_false, or_self, false_or, true_and, and_true, Nat.reduceEqDiff, reduceCtorEq, List.length_cons, List.length_nil, Nat.reduceAdd, Nat.reduceLeDiff, Nat.reduceSub, Nat.reduceLT, Nat.zero_le, Nat.zero_add, forall_const, not_true_eq_false, not_false_eq_true, false_implies, true_implies, implies_true, Nat.zero_lt_succ, am_z0, am_z1]
  refine r_isPerson (by omega) (fun z1 => ?_) (fun z1 => ?_)
  · simp (disch := omega) only [hs_at, hs_put, hs_63, NH_at, NH_put, NH_cpy, ni_add, ni_mul, ni_clamp, ni_in, ni_eq, ni_lt, ni_le, ni_sub, Nat.reduceAdd, Nat.reduceMul, Nat.reduceSub, eq_self, true_implies, not_true_eq_false, false_implies, and_true, true_and, not_false_eq_true, Nat.reduceEqDiff, Nat.reduceLeDiff, Nat.reduceLT, implies_true, ite_true, ite_false]
    obtain ⟨p, hp, rfl⟩ := z1
    have hpe := hW.p (show p < 8 by omega)
    have hm := hpe.2.2.1
    have main : (vw = nI 0 ∨ ∃ k, k < 3 ∧ vw = nI (10 + k)) → am_C tT E (d + 8) mX12_isRound [.inr 63, .inl (nI p)] (hs h g) (fun v h' => (v = nI 0 → Q (-1) h') ∧ (¬ v = nI 0 → am_R tT E (d + 9) mX12_plan Q 35 [some (.inr 63), some (.inl (nI p)), some (.inl vw), some (.inl (nI 0))] [] h')) := by
      intro hvw
      refine r_isRound hp hW (fun y1 y2 => ?_) (fun y => ?_)
      · simp (disch := omega) only [hs_at, hs_put, hs_63, NH_at, NH_put, NH_cpy, ni_add, ni_mul, ni_clamp, ni_in, ni_eq, ni_lt, ni_le, ni_sub, Nat.reduceAdd, Nat.reduceMul, Nat.reduceSub, eq_self, true_implies, not_true_eq_false, false_implies, and_true, true_and, not_false_eq_true, Nat.reduceEqDiff, Nat.reduceLeDiff, Nat.reduceLT, implies_true, ite_true, ite_false]
        have hokp : okPl g (nI p) vw := ⟨⟨p, hp, rfl⟩, hvw, by rw [ni_clamp (by omega)]; exact y1, y2⟩
        unfold sp_plan at hq
        rw [cif_pos hokp, ni_clamp (by omega)] at hq
        have loop : ∀ m n (h1 : am_H), n + m = 4 → pnF g lw p m n = pnF g lw p 4 0 → (∀ q, q ≠ 67 → q ≠ 71 → q ≠ 72 → q ≠ 75 → h1 q = h q) → am_R tT E (d + 9) mX12_plan Q 35 [some (.inr 63), some (.inl (nI p)), some (.inl vw), some (.inl (nI n))] [] (hs h1 g) := by
          intro m
          induction m with
          | zero =>
            intro n h1 hn hpn hf
            have hans := hq h1 hf
            rw [← hpn] at hans
            refine am_goS gX12_plan [35] 400 ?_
            simp only [am_eqs, am_eqk, am_eqv, lX12_plan_0, lX12_plan_1, lX12_plan_2, fx_ref, ↓reduceIte, List.mem_cons, List.not_mem_nil, or_false, or_self, false_or, true_and, and_true, Nat.reduceEqDiff, reduceCtorEq, List.length_cons, List.length_nil, Nat.reduceAdd, Nat.reduceLeDiff, Nat.reduceSub, Nat.reduceLT, Nat.zero_le, Nat.zero_add, forall_const, not_true_eq_false, not_false_eq_true, false_implies, true_implies, implies_true, Nat.zero_lt_succ, am_z0, am_z1]
            simp (disch := omega) only [hs_at, hs_put, hs_63, NH_at, NH_put, NH_cpy, ni_add, ni_mul, ni_clamp, ni_in, ni_eq, ni_lt, ni_le, ni_sub, Nat.reduceAdd, Nat.reduceMul, Nat.reduceSub, eq_self, true_implies, not_true_eq_false, false_implies, and_true, true_and, not_false_eq_true, Nat.reduceEqDiff, Nat.reduceLeDiff, Nat.reduceLT, implies_true, ite_true, ite_false]
            exact ⟨fun _ => hans, fun z => absurd z (by omega)⟩
          | succ m ih =>
            intro n h1 hn hpn hf
            rw [pnF] at hpn
            refine am_goS gX12_plan [35] 400 ?_
            simp only [am_eqs, am_eqk, am_eqv, lX12_plan_0, lX12_plan_1, lX12_plan_2, fx_ref, ↓reduceIte, List.mem_cons, List.not_mem_nil, or_false, or_self, false_or, true_and, and_true, Nat.reduceEqDiff, reduceCtorEq, List.length_cons, List.length_nil, Nat.reduceAdd, Nat.reduceLeDiff, Nat.reduceSub, Nat.reduceLT, Nat.zero_le, Nat.zero_add, forall_const, not_true_eq_false, not_false_eq_true, false_implies, true_implies, implies_true, Nat.zero_lt_succ, am_z0, am_z1]
            simp (disch := omega) only [hs_at, hs_put, hs_63, NH_at, NH_put, NH_cpy, ni_add, ni_mul, ni_clamp, ni_in, ni_eq, ni_lt, ni_le, ni_sub, Nat.reduceAdd, Nat.reduceMul, Nat.reduceSub, eq_self, true_implies, not_true_eq_false, false_implies, and_true, true_and, not_false_eq_true, Nat.reduceEqDiff, Nat.reduceLeDiff, Nat.reduceLT, implies_true, ite_true, ite_false]
            refine ⟨fun z => absurd z (by omega), fun _ => ?_⟩
            refine r_own (by omega) (by omega) ?_
            simp (disch := omega) only [hs_at, hs_put, hs_63, NH_at, NH_put, NH_cpy, ni_add, ni_mul, ni_clamp, ni_in, ni_eq, ni_lt, ni_le, ni_sub, Nat.reduceAdd, Nat.reduceMul, Nat.reduceSub, eq_self, true_implies, not_true_eq_false, false_implies, and_true, true_and, not_false_eq_true, Nat.reduceEqDiff, Nat.reduceLeDiff, Nat.reduceLT, implies_true, ite_true, ite_false]
            refine ⟨fun z => ?_, fun z => ?_⟩
            · rw [if_neg (by omega)] at hpn
              have hans := hq h1 hf
              rw [← hpn] at hans
              exact hans
            · rw [if_pos (by omega)] at hpn
              have := r_isPlanned (E := E) (d := d + 8 - 5 - n) (n := n) hp hW hL hok y1 (by omega) (by omega) n [] 0 (d + 8) h1
              refine this _ (by omega) (by simp) (by omega) (Nat.le_refl _) trivial (fun l hl h2 f2 wl ll => ?_) (fun hl h2 f2 _ => ?_)
              · rw [hl] at hpn
                have hans := hq h2 (fun q a b c e => by rw [f2 q a b c e]; exact hf q a b c e)
                rw [← hpn] at hans
                simp only at hans
                simp (disch := omega) only [hs_at, hs_put, hs_63, NH_at, NH_put, NH_cpy, ni_add, ni_mul, ni_clamp, ni_in, ni_eq, ni_lt, ni_le, ni_sub, Nat.reduceAdd, Nat.reduceMul, Nat.reduceSub, eq_self, true_implies, not_true_eq_false, false_implies, and_true, true_and, not_false_eq_true, Nat.reduceEqDiff, Nat.reduceLeDiff, Nat.reduceLT, implies_true, ite_true, ite_false]
                refine ⟨fun e => ?_, fun e => ?_⟩
                · rw [cif_pos e, ll] at hans; exact hans
                · rw [cif_neg e] at hans
                  rcases hvw with hv | ⟨k, hk, rfl⟩
                  · exact absurd hv e
                  · rw [ni_clamp (by omega), Nat.add_sub_cancel_left, ll] at hans
                    have hk75 := WA_get (A := h2 75) l 0 k
                    rw [Nat.zero_add] at hk75
                    simp (disch := omega) only [hs_at, hs_put, hs_63, NH_at, NH_put, NH_cpy, ni_add, ni_mul, ni_clamp, ni_in, ni_eq, ni_lt, ni_le, ni_sub, Nat.reduceAdd, Nat.reduceMul, Nat.reduceSub, eq_self, true_implies, not_true_eq_false, false_implies, and_true, true_and, not_false_eq_true, Nat.reduceEqDiff, Nat.reduceLeDiff, Nat.reduceLT, implies_true, ite_true, ite_false, hs_off, Nat.add_sub_cancel_left]
                    refine ⟨fun z => ?_, fun z => ⟨by omega, ?_⟩⟩
                    · rw [cif_neg (by omega)] at hans; exact hans
                    · rw [cif_pos (by omega)] at hans
                      rw [hk75 (by omega) wl]
                      exact hans
              · rw [hl] at hpn
                simp (disch := omega) only [hs_at, hs_put, hs_63, NH_at, NH_put, NH_cpy, ni_add, ni_mul, ni_clamp, ni_in, ni_eq, ni_lt, ni_le, ni_sub, Nat.reduceAdd, Nat.reduceMul, Nat.reduceSub, eq_self, true_implies, not_true_eq_false, false_implies, and_true, true_and, not_false_eq_true, Nat.reduceEqDiff, Nat.reduceLeDiff, Nat.reduceLT, implies_true, ite_true, ite_false]
                exact ih (n + 1) h2 (by omega) hpn (fun q a b c e => by rw [f2 q a b c e]; exact hf q a b c e)
        exact loop 4 0 h rfl rfl (fun _ _ _ _ _ => rfl)
      · simp (disch := omega) only [hs_at, hs_put, hs_63, NH_at, NH_put, NH_cpy, ni_add, ni_mul, ni_clamp, ni_in, ni_eq, ni_lt, ni_le, ni_sub, Nat.reduceAdd, Nat.reduceMul, Nat.reduceSub, eq_self, true_implies, not_true_eq_false, false_implies, and_true, true_and, not_false_eq_true, Nat.reduceEqDiff, Nat.reduceLeDiff, Nat.reduceLT, implies_true, ite_true, ite_false]
        exact hno (fun q => y ⟨by have := q.2.2.1; rw [ni_clamp (by omega)] at this; exact this, q.2.2.2⟩)
    refine ⟨fun e => main (Or.inl e), fun e => ?_⟩
    refine r_isIn (fun y => ?_) (fun y => ?_)
    · simp (disch := omega) only [hs_at, hs_put, hs_63, NH_at, NH_put, NH_cpy, ni_add, ni_mul, ni_clamp, ni_in, ni_eq, ni_lt, ni_le, ni_sub, Nat.reduceAdd, Nat.reduceMul, Nat.reduceSub, eq_self, true_implies, not_true_eq_false, false_implies, and_true, true_and, not_false_eq_true, Nat.reduceEqDiff, Nat.reduceLeDiff, Nat.reduceLT, implies_true, ite_true, ite_false]
      obtain ⟨e2, hl⟩ := ni_ofInt (Int32.le_trans (show nI 0 ≤ nI 10 by decide) y.1)
      rw [e2, ni_le (by omega) (by omega), ni_le (by omega) (by omega)] at y
      exact main (Or.inr ⟨vw.toInt.toNat - 10, by omega, e2.trans (congrArg nI (by omega))⟩)
    · simp (disch := omega) only [hs_at, hs_put, hs_63, NH_at, NH_put, NH_cpy, ni_add, ni_mul, ni_clamp, ni_in, ni_eq, ni_lt, ni_le, ni_sub, Nat.reduceAdd, Nat.reduceMul, Nat.reduceSub, eq_self, true_implies, not_true_eq_false, false_implies, and_true, true_and, not_false_eq_true, Nat.reduceEqDiff, Nat.reduceLeDiff, Nat.reduceLT, implies_true, ite_true, ite_false]
      refine hno (fun q => ?_)
      rcases q.2.1 with q | ⟨k, hk, rfl⟩
      · exact e q
      · apply y
        rw [ni_le (by omega) (by omega), ni_le (by omega) (by omega)]
        omega
  · simp (disch := omega) only [hs_at, hs_put, hs_63, NH_at, NH_put, NH_cpy, ni_add, ni_mul, ni_clamp, ni_in, ni_eq, ni_lt, ni_le, ni_sub, Nat.reduceAdd, Nat.reduceMul, Nat.reduceSub, eq_self, true_implies, not_true_eq_false, false_implies, and_true, true_and, not_false_eq_true, Nat.reduceEqDiff, Nat.reduceLeDiff, Nat.reduceLT, implies_true, ite_true, ite_false]
    exact hno (fun q => z1 q.1)
end RIPLAN
