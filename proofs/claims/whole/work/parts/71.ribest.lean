/-! ===== part 71: best of the reference ===== -/
section RIBEST
variable {E : am_E} {d : Nat} {h : am_H} {Q : Int32 → am_H → Prop} {g g0 : Nat → Nat} {c : Nat → Nat → Nat} {t : Nat}
theorem cnt_one {k : Nat} (hk : k < 8) : cntK (1 <<< k) 8 = 1 := by
  have h0 := cnt_or (s := 0) (k := k) (by rw [shr1]; simp) 8
  rw [Nat.zero_or, if_pos hk] at h0
  rw [h0]
  rfl
theorem bf_inv {α : Type} {F : Nat → α → α} {P : α → Prop} (h : ∀ b B, P B → P (F b B)) : ∀ m b B, P B → P (bfF F m b B) := by
  intro m
  induction m with
  | zero => intro b B hB; exact hB
  | succ m ih => intro b B hB; rw [bfF]; exact ih (b + 1) _ (h b B hB)
theorem sk_len {lw : Lw} {p to : Nat} : ∀ n (g : Nat → Nat) been ws lf (B : Option (Nat × List Nat)), ws.length + n = 8 → (∀ x, B = some x → x.2.length ≤ 7) → ∀ x, skF lw p to n g been ws lf B = some x → x.2.length ≤ 7 := by
  intro n
  induction n with
  | zero => intro g been ws lf B _ hB; exact hB
  | succ n ih =>
    intro g been ws lf B hl hB
    rw [skF]
    split
    · cases B with
      | none => intro x hx; cases hx; show ws.length ≤ 7; omega
      | some y =>
        intro x hx
        simp only [upB] at hx
        split at hx
        · exact hB x hx
        · cases hx; show ws.length ≤ 7; omega
    · refine bf_inv (P := fun B : Option (Nat × List Nat) => ∀ x, B = some x → x.2.length ≤ 7) (fun b B hB => ?_) _ _ _ hB
      by_cases z : tou g b (og g p 0) ∧ been >>> oth g b (og g p 0) &&& 1 = 0
      · rw [cif_pos z]
        split
        · exact hB
        · exact ih _ _ _ _ _ (by simp; omega) hB
      · rw [cif_neg z]; exact hB
theorem ri_best {lw : Lw} {vp vt vw : Int32} (hW : WF g t) (hL : LRl g lw 0 0) (hok : LOK lw) (hq : ∀ h' : am_H, (∀ o, o ≠ 63 → o ≠ 67 → o ≠ 71 → o ≠ 72 → o ≠ 73 → o ≠ 74 → h' o = h o) → (∀ k, k ≠ 25 → k ≠ 26 → h' 63 k = h 63 k) → Q (sp_best g lw vp vt vw) (hs h' g)) : am_C tT E (d + 13) mX12_best [.inr 63, .inl vp, .inl vt, .inl vw] (hs h g) Q := by
  have w1 := hW.1.2.1
  have hq0 := hq h (fun _ _ _ _ _ _ _ => rfl) (fun _ _ _ => rfl)
  have hno : ¬ okBe g vp vt → Q (-1) (hs h g) := fun z => by unfold sp_best at hq0; rw [cif_neg z] at hq0; exact hq0
  refine am_C.of (by decide) (Nat.le_of_ble_eq_true rfl) ?_
  show am_R tT E _ mX12_best _ 0 [some (.inr 63), some (.inl vp), some (.inl vt), some (.inl vw)] [] (hs h g)
  refine am_goS gX12_best [47] 400 ?_
  simp only [am_eqs, am_eqk, am_eqv, lX12_best_0, lX12_best_1, lX12_best_2, lX12_best_3, fx_ref, ↓reduceIte, List.mem_cons, List.not_mem_nil, or_false, or_self, false_or, true_and, and_true, Nat.reduceEqDiff, reduceCtorEq, List.length_cons, List.length_nil, Nat.reduceAdd, Nat.reduceLeDiff, Nat.reduceSub, Nat.reduceLT, Nat.zero_le, Nat.zero_add, forall_const, not_true_eq_false, not_false_eq_true, false_implies, true_implies, implies_true, Nat.zero_lt_succ, am_z0, am_z1]
  refine r_isPerson (by omega) (fun z1 => ?_) (fun z1 => ?_)
  · try simp (disch := omega) only [hs_at, hs_put, hs_63, NH_at, NH_put, NH_cpy, ni_add, ni_mul, ni_clamp, ni_in, ni_eq, ni_lt, ni_le, ni_sub, Nat.reduceAdd, Nat.reduceMul, Nat.reduceSub, eq_self, true_implies, not_true_eq_false, false_implies, and_true, true_and, not_false_eq_true, Nat.reduceEqDiff, Nat.reduceLeDiff, Nat.reduceLT, implies_true, ite_true, ite_false]
    obtain ⟨p, hp, rfl⟩ := z1
    have hpe := hW.p (show p < 8 by omega)
    refine r_isPlace (fun z2 => ?_) (fun z2 => ?_)
    · try simp (disch := omega) only [hs_at, hs_put, hs_63, NH_at, NH_put, NH_cpy, ni_add, ni_mul, ni_clamp, ni_in, ni_eq, ni_lt, ni_le, ni_sub, Nat.reduceAdd, Nat.reduceMul, Nat.reduceSub, eq_self, true_implies, not_true_eq_false, false_implies, and_true, true_and, not_false_eq_true, Nat.reduceEqDiff, Nat.reduceLeDiff, Nat.reduceLT, implies_true, ite_true, ite_false]
      obtain ⟨to, hto, rfl⟩ := z2
      refine r_own (by omega) (by omega) ?_
      have hpl := hpe.1
      try simp (disch := omega) only [hs_at, hs_put, hs_63, NH_at, NH_put, NH_cpy, ni_add, ni_mul, ni_clamp, ni_in, ni_eq, ni_lt, ni_le, ni_sub, Nat.reduceAdd, Nat.reduceMul, Nat.reduceSub, eq_self, true_implies, not_true_eq_false, false_implies, and_true, true_and, not_false_eq_true, Nat.reduceEqDiff, Nat.reduceLeDiff, Nat.reduceLT, implies_true, ite_true, ite_false]
      refine ⟨fun z3 => ?_, fun z3 => ?_⟩
      · refine hno (fun q => ?_)
        have := q.2.2
        rw [ni_clamp (by omega), ni_clamp (by omega)] at this
        exact this z3
      · have hokb : okBe g (nI p) (nI to) := ⟨⟨p, hp, rfl⟩, ⟨to, hto, rfl⟩, by rw [ni_clamp (by omega), ni_clamp (by omega)]; exact z3⟩
        unfold sp_best at hq
        rw [cif_pos hokb, ni_clamp (by omega), ni_clamp (by omega)] at hq
        have hlen := sk_len (lw := lw) (p := p) (to := to) 8 g (1 <<< og g p 0) [] 0 none rfl (fun x hx => by cases hx)
        have main : (vw = nI 0 ∨ vw = nI 1 ∨ ∃ k, k < 7 ∧ vw = nI (10 + k)) → am_R tT E (d + 13) mX12_best Q 47 [some (.inr 63), some (.inl (nI p)), some (.inl (nI to)), some (.inl vw)] [] (hs h g) := by
          intro hvw
          refine am_goS gX12_best [] 400 ?_
          simp only [am_eqs, am_eqk, am_eqv, lX12_best_0, lX12_best_1, lX12_best_2, lX12_best_3, fx_ref, ↓reduceIte, List.mem_cons, List.not_mem_nil, or_false, or_self, false_or, true_and, and_true, Nat.reduceEqDiff, reduceCtorEq, List.length_cons, List.length_nil, Nat.reduceAdd, Nat.reduceLeDiff, Nat.reduceSub, Nat.reduceLT, Nat.zero_le, Nat.zero_add, forall_const, not_true_eq_false, not_false_eq_true, false_implies, true_implies, implies_true, Nat.zero_lt_succ, am_z0, am_z1]
          try simp (disch := omega) only [hs_at, hs_put, hs_63, NH_at, NH_put, NH_cpy, ni_add, ni_mul, ni_clamp, ni_in, ni_eq, ni_lt, ni_le, ni_sub, Nat.reduceAdd, Nat.reduceMul, Nat.reduceSub, eq_self, true_implies, not_true_eq_false, false_implies, and_true, true_and, not_false_eq_true, Nat.reduceEqDiff, Nat.reduceLeDiff, Nat.reduceLT, implies_true, ite_true, ite_false, hs_up63]
          refine r_own (by omega) (by omega) ?_
          try simp (disch := omega) only [hs_at, hs_put, hs_63, NH_at, NH_put, NH_cpy, ni_add, ni_mul, ni_clamp, ni_in, ni_eq, ni_lt, ni_le, ni_sub, Nat.reduceAdd, Nat.reduceMul, Nat.reduceSub, eq_self, true_implies, not_true_eq_false, false_implies, and_true, true_and, not_false_eq_true, Nat.reduceEqDiff, Nat.reduceLeDiff, Nat.reduceLT, implies_true, ite_true, ite_false, ni_shl]
          generalize hh2 : am_upd (am_upd h 63 25 (-1)) 63 26 (nI 0) = h2
          have e25 : h2 63 25 = -1 := by rw [← hh2, am_upd_self, am_upd_self]; simp [upd]
          have f1 : ∀ o, o ≠ 63 → h2 o = h o := fun o ho => by rw [← hh2, am_upd_ne _ _ _ ho, am_upd_ne _ _ _ ho]
          have f2 : ∀ k, k ≠ 25 → k ≠ 26 → h2 63 k = h 63 k := fun k x y => by rw [← hh2, am_upd_self, am_upd_self]; simp only [upd, if_neg x, if_neg y]
          have hr := r_seeks (E := E) (d := d) (p := p) hok hto 8 g (1 <<< og g p 0) 0 t (d + 12) [] none h2
          refine hr _ (by omega) hp hW hL (by have := or_256 (s := 0) (by omega) hpl; rwa [Nat.zero_or] at this) (by rw [cnt_one hpl]) (by simp) (by omega) trivial e25 (fun z => absurd z z3) (fun h3 b3 f3 w3 => ?_)
          have hans := hq h3 (fun o x1 x2 x3 x4 x5 x6 => by rw [f3.1 o x1 x2 x3 x4 x5 x6]; exact f1 o x1) (fun k x y => by rw [f3.2.1 k x y]; exact f2 k x y)
          unfold bstG at hans
          generalize skF lw p to 8 g (1 <<< og g p 0) [] 0 none = R at hans b3
          cases R with
          | none =>
            have e : h3 63 25 = -1 := b3
            simp only at hans
            try simp (disch := omega) only [hs_at, hs_put, hs_63, NH_at, NH_put, NH_cpy, ni_add, ni_mul, ni_clamp, ni_in, ni_eq, ni_lt, ni_le, ni_sub, Nat.reduceAdd, Nat.reduceMul, Nat.reduceSub, eq_self, true_implies, not_true_eq_false, false_implies, and_true, true_and, not_false_eq_true, Nat.reduceEqDiff, Nat.reduceLeDiff, Nat.reduceLT, implies_true, ite_true, ite_false, hs_63, e]
            exact hans
          | some x =>
            obtain ⟨k25, k26, k74, x8, x1, x7⟩ := b3
            simp only at hans
            try simp (disch := omega) only [hs_at, hs_put, hs_63, NH_at, NH_put, NH_cpy, ni_add, ni_mul, ni_clamp, ni_in, ni_eq, ni_lt, ni_le, ni_sub, Nat.reduceAdd, Nat.reduceMul, Nat.reduceSub, eq_self, true_implies, not_true_eq_false, false_implies, and_true, true_and, not_false_eq_true, Nat.reduceEqDiff, Nat.reduceLeDiff, Nat.reduceLT, implies_true, ite_true, ite_false, hs_63, k25, k26, ni_m1]
            refine ⟨fun z => absurd z (by omega), fun _ => ?_⟩
            refine ⟨fun e => ?_, fun e => ⟨fun e1 => ?_, fun e1 => ?_⟩⟩
            · rw [if_pos e] at hans; exact hans
            · rw [if_neg e, if_pos e1] at hans; exact hans
            · rw [if_neg e, if_neg e1] at hans
              rcases hvw with hv | hv | ⟨k, hk, rfl⟩
              · exact absurd hv e
              · exact absurd hv e1
              · rw [ni_clamp (by omega), Nat.add_sub_cancel_left] at hans
                have hk74 := WA_get (A := h3 74) x.2 0 k
                rw [Nat.zero_add] at hk74
                refine r_isIn (fun y => ?_) (fun y => ?_)
                · rw [ni_le (by omega) (by omega), ni_le (by omega) (by omega)] at y
                  rw [cif_pos ⟨k, by omega, rfl⟩] at hans
                  try simp (disch := omega) only [hs_at, hs_put, hs_63, NH_at, NH_put, NH_cpy, ni_add, ni_mul, ni_clamp, ni_in, ni_eq, ni_lt, ni_le, ni_sub, Nat.reduceAdd, Nat.reduceMul, Nat.reduceSub, eq_self, true_implies, not_true_eq_false, false_implies, and_true, true_and, not_false_eq_true, Nat.reduceEqDiff, Nat.reduceLeDiff, Nat.reduceLT, implies_true, ite_true, ite_false, hs_off, Nat.add_sub_cancel_left]
                  refine ⟨by omega, ?_⟩
                  rw [hk74 (by omega) k74]
                  exact hans
                · rw [ni_le (by omega) (by omega), ni_le (by omega) (by omega)] at y
                  rw [cif_neg ?_, ni_m1] at hans
                  · try simp (disch := omega) only [hs_at, hs_put, hs_63, NH_at, NH_put, NH_cpy, ni_add, ni_mul, ni_clamp, ni_in, ni_eq, ni_lt, ni_le, ni_sub, Nat.reduceAdd, Nat.reduceMul, Nat.reduceSub, eq_self, true_implies, not_true_eq_false, false_implies, and_true, true_and, not_false_eq_true, Nat.reduceEqDiff, Nat.reduceLeDiff, Nat.reduceLT, implies_true, ite_true, ite_false]
                    exact hans
                  · rintro ⟨k', hk', e'⟩
                    rw [ni_eq (by omega) (by omega)] at e'
                    omega
        refine r_isIn (fun y => ?_) (fun y => ?_)
        · try simp (disch := omega) only [hs_at, hs_put, hs_63, NH_at, NH_put, NH_cpy, ni_add, ni_mul, ni_clamp, ni_in, ni_eq, ni_lt, ni_le, ni_sub, Nat.reduceAdd, Nat.reduceMul, Nat.reduceSub, eq_self, true_implies, not_true_eq_false, false_implies, and_true, true_and, not_false_eq_true, Nat.reduceEqDiff, Nat.reduceLeDiff, Nat.reduceLT, implies_true, ite_true, ite_false]
          obtain ⟨e2, hl⟩ := ni_ofInt y.1
          rw [e2, ni_le (by omega) (by omega), ni_le (by omega) (by omega)] at y
          have : vw.toInt.toNat = 0 ∨ vw.toInt.toNat = 1 := by omega
          rcases this with q | q
          · rw [q] at e2; exact main (Or.inl e2)
          · rw [q] at e2; exact main (Or.inr (Or.inl e2))
        · try simp (disch := omega) only [hs_at, hs_put, hs_63, NH_at, NH_put, NH_cpy, ni_add, ni_mul, ni_clamp, ni_in, ni_eq, ni_lt, ni_le, ni_sub, Nat.reduceAdd, Nat.reduceMul, Nat.reduceSub, eq_self, true_implies, not_true_eq_false, false_implies, and_true, true_and, not_false_eq_true, Nat.reduceEqDiff, Nat.reduceLeDiff, Nat.reduceLT, implies_true, ite_true, ite_false]
          refine r_isIn (fun y2 => ?_) (fun y2 => ?_)
          · try simp (disch := omega) only [hs_at, hs_put, hs_63, NH_at, NH_put, NH_cpy, ni_add, ni_mul, ni_clamp, ni_in, ni_eq, ni_lt, ni_le, ni_sub, Nat.reduceAdd, Nat.reduceMul, Nat.reduceSub, eq_self, true_implies, not_true_eq_false, false_implies, and_true, true_and, not_false_eq_true, Nat.reduceEqDiff, Nat.reduceLeDiff, Nat.reduceLT, implies_true, ite_true, ite_false]
            obtain ⟨e2, hl⟩ := ni_ofInt (Int32.le_trans (show nI 0 ≤ nI 10 by decide) y2.1)
            rw [e2, ni_le (by omega) (by omega), ni_le (by omega) (by omega)] at y2
            exact main (Or.inr (Or.inr ⟨vw.toInt.toNat - 10, by omega, e2.trans (congrArg nI (by omega))⟩))
          · try simp (disch := omega) only [hs_at, hs_put, hs_63, NH_at, NH_put, NH_cpy, ni_add, ni_mul, ni_clamp, ni_in, ni_eq, ni_lt, ni_le, ni_sub, Nat.reduceAdd, Nat.reduceMul, Nat.reduceSub, eq_self, true_implies, not_true_eq_false, false_implies, and_true, true_and, not_false_eq_true, Nat.reduceEqDiff, Nat.reduceLeDiff, Nat.reduceLT, implies_true, ite_true, ite_false]
            have hans := hq h (fun _ _ _ _ _ _ _ => rfl) (fun _ _ _ => rfl)
            unfold bstG at hans
            generalize skF lw p to 8 g (1 <<< og g p 0) [] 0 none = R at hans hlen
            cases R with
            | none => exact hans
            | some x =>
              have hx7 := hlen x rfl
              simp only at hans
              rw [if_neg (fun e => y ⟨by rw [e]; decide, by rw [e]; decide⟩), if_neg (fun e => y ⟨by rw [e]; decide, by rw [e]; decide⟩), cif_neg ?_] at hans
              · exact hans
              · rintro ⟨k, hk, rfl⟩
                apply y2
                rw [ni_le (by omega) (by omega), ni_le (by omega) (by omega)]
                omega
    · try simp (disch := omega) only [hs_at, hs_put, hs_63, NH_at, NH_put, NH_cpy, ni_add, ni_mul, ni_clamp, ni_in, ni_eq, ni_lt, ni_le, ni_sub, Nat.reduceAdd, Nat.reduceMul, Nat.reduceSub, eq_self, true_implies, not_true_eq_false, false_implies, and_true, true_and, not_false_eq_true, Nat.reduceEqDiff, Nat.reduceLeDiff, Nat.reduceLT, implies_true, ite_true, ite_false]
      exact hno (fun q => z2 q.2.1)
  · try simp (disch := omega) only [hs_at, hs_put, hs_63, NH_at, NH_put, NH_cpy, ni_add, ni_mul, ni_clamp, ni_in, ni_eq, ni_lt, ni_le, ni_sub, Nat.reduceAdd, Nat.reduceMul, Nat.reduceSub, eq_self, true_implies, not_true_eq_false, false_implies, and_true, true_and, not_false_eq_true, Nat.reduceEqDiff, Nat.reduceLeDiff, Nat.reduceLT, implies_true, ite_true, ite_false]
    exact hno (fun q => z1 q.1)
end RIBEST
