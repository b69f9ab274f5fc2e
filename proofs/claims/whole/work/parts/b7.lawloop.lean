/-! ===== part b7: the law's loop ===== -/
section LAWL
variable {E : am_E} {X : am_X} {Q : Int32 → am_H → Prop} {h : am_H} {k i N : Nat}
theorem lw_image (hR : am_Ret tT E mL_law X (60 + 1) Q) (hN : E.2.2.2 401 = N) (hN2 : N < 100000) (hi : i + 7 ≤ N) (hI : INV k h) (hb : ∀ v h, v ≤ 1 → INV k h → BOTH E mX11_image mX12_image [.inl (nI v)] k h) (hnext : ∀ h', INV (k + 1) h' → am_B tT E X (60 + 1) mL_law 1099 [some (.inr 400), some (.inr 0), some (.inr 63), some (.inl (nI i))] [] h') : am_B tT E X (60 + 1) mL_law 1037 [some (.inr 400), some (.inr 0), some (.inr 63), some (.inl (nI i))] [] h := by
  refine am_goX (gL_law E) [1099] 400 hR ?_
  simp only [am_eqs, am_eqk, am_eqv, am_eqx, lL_law_30 E, lL_law_31 E, fx_ref, fx_class, ↓reduceIte, List.mem_cons, List.not_mem_nil, or_false, or_self, false_or, true_and, and_true, Nat.reduceEqDiff, reduceCtorEq, List.length_cons, List.length_nil, Nat.reduceAdd, Nat.reduceLeDiff, Nat.reduceSub, Nat.reduceLT, Nat.zero_le, Nat.zero_add, forall_const, not_true_eq_false, not_false_eq_true, false_implies, true_implies, implies_true, Nat.zero_lt_succ, am_z0, am_z1]
  try simp (disch := omega) only [ni_add, ni_in, ni_clamp, hN]
  refine ⟨by omega, fun z => ?_, fun z => ?_⟩
  · refine am_wk (fun v h2 q => ⟨by omega, fun _ => ?_, fun y => absurd z y⟩) (hb 0 h (by omega) hI)
    exact am_wk (fun v2 h3 q => ⟨fun _ => hnext h3 q.2, fun ne => absurd q.1 ne⟩) q
  · refine am_wk (fun v h2 q => ⟨by omega, fun y => absurd y z, fun _ => ?_⟩) (hb 1 h (by omega) hI)
    exact am_wk (fun v2 h3 q => ⟨fun _ => hnext h3 q.2, fun ne => absurd q.1 ne⟩) q
theorem lw_next (hR : am_Ret tT E mL_law X (60 + 1) Q) (hnext : am_B tT E X (60 + 1) mL_law 18 [some (.inr 400), some (.inr 0), some (.inr 63), some (.inl (nI (i + 7)))] [] h) : am_B tT E X (60 + 1) mL_law 1099 [some (.inr 400), some (.inr 0), some (.inr 63), some (.inl (nI i))] [] h := by
  refine am_goX (gL_law E) [18] 400 hR ?_
  simp only [am_eqs, am_eqk, am_eqv, am_eqx, lL_law_32 E, fx_ref, fx_class, ↓reduceIte, List.mem_cons, List.not_mem_nil, or_false, or_self, false_or, true_and, and_true, Nat.reduceEqDiff, reduceCtorEq, List.length_cons, List.length_nil, Nat.reduceAdd, Nat.reduceLeDiff, Nat.reduceSub, Nat.reduceLT, Nat.zero_le, Nat.zero_add, forall_const, not_true_eq_false, not_false_eq_true, false_implies, true_implies, implies_true, Nat.zero_lt_succ, am_z0, am_z1]
  rw [ni_add]
  exact hnext
theorem lw_one (hk : k < 900000) (hR : am_Ret tT E mL_law X (60 + 1) Q) (hN : E.2.2.2 401 = N) (hN2 : N < 100000) (hi : i + 7 ≤ N) (hI : INV k h) (hnext : ∀ h', INV (k + 1) h' → am_B tT E X (60 + 1) mL_law 18 [some (.inr 400), some (.inr 0), some (.inr 63), some (.inl (nI (i + 7)))] [] h') : am_B tT E X (60 + 1) mL_law 27 [some (.inr 400), some (.inr 0), some (.inr 63), some (.inl (nI i))] [] h := by
  have hnx : ∀ h', INV (k + 1) h' → am_B tT E X (60 + 1) mL_law 1099 [some (.inr 400), some (.inr 0), some (.inr 63), some (.inl (nI i))] [] h' := fun h' hI' => lw_next hR (hnext h' hI')
  have hlift : ∀ {Mx Mm : am_M} {av : List am_V}, (∀ (c : Nat → Nat → Nat) (g : Nat → Nat), J k c g (NH c) → (∀ i, NH c 64 i = nI (g i)) → BOTH E Mx Mm av k (NH c)) → ∀ h, INV k h → BOTH E Mx Mm av k h := by
    intro Mx Mm av hf h hI
    obtain ⟨c, g, rfl, h64, hJ⟩ := hI.full
    exact hf c g hJ h64
  have hmono : INV k h → INV (k + 1) h := by
    intro hI
    obtain ⟨c, g, rfl, h64, hJ⟩ := hI.full
    have := INV.same hJ
    rw [hs_self h64] at this
    exact this
  have k0 := lw_state (h := h) hR hN hN2 hi hI (hlift (fun c g hJ h64 => b_state hJ h64)) hnx
  have k1 := lw_name (h := h) hR hN hN2 hi hI (hlift (fun c g hJ h64 => b_name hJ h64)) hnx
  have k2 := lw_person (h := h) hR hN hN2 hi hI (hlift (fun c g hJ h64 => b_person hJ h64)) hnx
  have k3 := lw_bridge (h := h) hR hN hN2 hi hI (hlift (fun c g hJ h64 => b_bridge hJ h64)) hnx
  have k4 := lw_christen (h := h) hR hN hN2 hi hI (hlift (fun c g hJ h64 => b_christen hJ h64)) hnx
  have k5 := lw_set (h := h) hR hN hN2 hi hI (hlift (fun c g hJ h64 => b_set hJ h64)) hnx
  have k6 := lw_feed (h := h) hR hN hN2 hi hI (hlift (fun c g hJ h64 => b_feed hJ h64)) hnx
  have k7 := lw_end (h := h) hR hN hN2 hi hI (hlift (fun c g hJ h64 => b_end hJ h64)) hnx
  have k8 := lw_text (h := h) hR hN hN2 hi hI (hlift (fun c g hJ h64 => b_text hJ h64)) hnx
  have k9 := lw_fault (h := h) hR hN hN2 hi hI (hlift (fun c g hJ h64 => b_fault hJ h64)) hnx
  have k10 := lw_cross (h := h) hR hN hN2 hi hI (hlift (fun c g hJ h64 => b_cross hk hJ h64)) hnx
  have k11 := lw_take (h := h) hR hN hN2 hi hI (hlift (fun c g hJ h64 => b_take hk hJ h64)) hnx
  have k12 := lw_day (h := h) hR hN hN2 hi hI (hlift (fun c g hJ h64 => b_day hJ h64)) hnx
  have k13 := lw_of (h := h) hR hN hN2 hi hI (hlift (fun c g hJ h64 => b_of hJ h64)) hnx
  have k14 := lw_kept (h := h) hR hN hN2 hi hI (hlift (fun c g hJ h64 => b_kept hJ h64)) hnx
  have k15 := lw_book (h := h) hR hN hN2 hi hI (hlift (fun c g hJ h64 => b_book hJ h64)) hnx
  have k16 := lw_called (h := h) hR hN hN2 hi hI (hlift (fun c g hJ h64 => b_called hJ h64)) hnx
  have k17 := lw_alone (h := h) hR hN hN2 hi hI (hlift (fun c g hJ h64 => b_alone hJ h64)) hnx
  have k18 := lw_cousins (h := h) hR hN hN2 hi hI (hlift (fun c g hJ h64 => b_cousins hJ h64)) hnx
  have k19 := lw_estate (h := h) hR hN hN2 hi hI (hlift (fun c g hJ h64 => b_estate hJ h64)) hnx
  have k20 := lw_behind (h := h) hR hN hN2 hi hI (hlift (fun c g hJ h64 => b_behind hk hJ h64)) hnx
  have k21 := lw_best (h := h) hR hN hN2 hi hI (hlift (fun c g hJ h64 => b_best hk hJ h64)) hnx
  have k22 := lw_round (h := h) hR hN hN2 hi hI (hlift (fun c g hJ h64 => b_round hJ h64)) hnx
  have k23 := lw_plan (h := h) hR hN hN2 hi hI (hlift (fun c g hJ h64 => b_plan hk hJ h64)) hnx
  have k24 := lw_night (h := h) hR hN hN2 hi hI (hlift (fun c g hJ h64 => b_night hk hJ h64)) hnx
  have k25 := lw_order (h := h) hR hN hN2 hi hI (hlift (fun c g hJ h64 => b_order hk hJ h64)) hnx
  have k26 := lw_undo (h := h) hR hN hN2 hi hI (hlift (fun c g hJ h64 => b_undo hJ h64)) hnx
  have k28 := lw_look (h := h) hR hN hN2 hi hI (hlift (fun c g hJ h64 => b_look hJ h64)) hnx
  have k27 := lw_image (h := h) hR hN hN2 hi hI (fun v h hv hI => hlift (fun c g hJ h64 => b_image hv hJ h64) h hI) hnx
  have k99 := hnx h (hmono hI)
  refine am_goX (gL_law E) [164, 187, 220, 253, 286, 319, 362, 425, 448, 461, 484, 517, 560, 573, 606, 639, 672, 705, 728, 751, 774, 849, 892, 915, 948, 981, 1024, 1037, 1076, 1099] 400 hR ?_
  simp only [am_eqs, am_eqk, am_eqv, am_eqx, lL_law_0 E, fx_ref, fx_class, ↓reduceIte, List.mem_cons, List.not_mem_nil, or_false, or_self, false_or, true_and, and_true, Nat.reduceEqDiff, reduceCtorEq, List.length_cons, List.length_nil, Nat.reduceAdd, Nat.reduceLeDiff, Nat.reduceSub, Nat.reduceLT, Nat.zero_le, Nat.zero_add, forall_const, not_true_eq_false, not_false_eq_true, false_implies, true_implies, implies_true, Nat.zero_lt_succ, am_z0, am_z1]
  try simp (disch := omega) only [ni_add, ni_in, ni_clamp, hN]
  exact ⟨by omega, ⟨fun _ => k0, fun _ => ⟨fun _ => k1, fun _ => ⟨fun _ => k2, fun _ => ⟨fun _ => k3, fun _ => ⟨fun _ => k4, fun _ => ⟨fun _ => k5, fun _ => ⟨fun _ => k6, fun _ => ⟨fun _ => k7, fun _ => ⟨fun _ => k8, fun _ => ⟨fun _ => k9, fun _ => ⟨fun _ => k10, fun _ => ⟨fun _ => k11, fun _ => ⟨fun _ => k12, fun _ => ⟨fun _ => k13, fun _ => ⟨fun _ => k14, fun _ => ⟨fun _ => k15, fun _ => ⟨fun _ => k16, fun _ => ⟨fun _ => k17, fun _ => ⟨fun _ => k18, fun _ => ⟨fun _ => k19, fun _ => ⟨fun _ => k20, fun _ => ⟨fun _ => k21, fun _ => ⟨fun _ => k22, fun _ => ⟨fun _ => k23, fun _ => ⟨fun _ => k24, fun _ => ⟨fun _ => k25, fun _ => ⟨fun _ => k26, fun _ => ⟨fun _ => k27, fun _ => ⟨fun _ => k28, fun _ => k99⟩⟩⟩⟩⟩⟩⟩⟩⟩⟩⟩⟩⟩⟩⟩⟩⟩⟩⟩⟩⟩⟩⟩⟩⟩⟩⟩⟩⟩⟩
theorem law_loop (hR : am_Ret tT E mL_law X (60 + 1) Q) (hQ : ∀ h, Q (nI 1) h) (hN : E.2.2.2 401 = N) (hN2 : N ≤ 3584) : ∀ (f i k : Nat) (h : am_H), N < i + f → i ≤ N + 7 → i = 7 * k → INV k h → am_B tT E X (60 + 1) mL_law 18 [some (.inr 400), some (.inr 0), some (.inr 63), some (.inl (nI i))] [] h := by
  intro f
  induction f with
  | zero =>
    intro i k h h1 h2 h3 hI
    refine am_goX (gL_law E) [27] 400 hR ?_
    simp only [am_eqs, am_eqk, am_eqv, am_eqx, lL_law_0 E, lL_law_32 E, fx_ref, fx_class, ↓reduceIte, List.mem_cons, List.not_mem_nil, or_false, or_self, false_or, true_and, and_true, Nat.reduceEqDiff, reduceCtorEq, List.length_cons, List.length_nil, Nat.reduceAdd, Nat.reduceLeDiff, Nat.reduceSub, Nat.reduceLT, Nat.zero_le, Nat.zero_add, forall_const, not_true_eq_false, not_false_eq_true, false_implies, true_implies, implies_true, Nat.zero_lt_succ, am_z0, am_z1]
    by_cases z : N < 7
    · have hz : nI N - nI 7 < nI i := by
        have hneg : nI N - nI 7 < nI 0 := by
          have : N = 0 ∨ N = 1 ∨ N = 2 ∨ N = 3 ∨ N = 4 ∨ N = 5 ∨ N = 6 := by omega
          rcases this with rfl | rfl | rfl | rfl | rfl | rfl | rfl <;> decide
        exact Int32.lt_of_lt_of_le hneg (by rw [ni_le (by omega) (by omega)]; omega)
      rw [hN]
      exact ⟨fun _ => hQ h, fun y => absurd hz y⟩
    · rw [hN, ni_sub (by omega), ni_lt (by omega) (by omega)]
      exact ⟨fun _ => hQ h, fun y => absurd (by omega) y⟩
  | succ f ih =>
    intro i k h h1 h2 h3 hI
    refine am_goX (gL_law E) [27] 400 hR ?_
    simp only [am_eqs, am_eqk, am_eqv, am_eqx, lL_law_0 E, lL_law_32 E, fx_ref, fx_class, ↓reduceIte, List.mem_cons, List.not_mem_nil, or_false, or_self, false_or, true_and, and_true, Nat.reduceEqDiff, reduceCtorEq, List.length_cons, List.length_nil, Nat.reduceAdd, Nat.reduceLeDiff, Nat.reduceSub, Nat.reduceLT, Nat.zero_le, Nat.zero_add, forall_const, not_true_eq_false, not_false_eq_true, false_implies, true_implies, implies_true, Nat.zero_lt_succ, am_z0, am_z1]
    by_cases z : N < 7
    · have hz : nI N - nI 7 < nI i := by
        have hneg : nI N - nI 7 < nI 0 := by
          have : N = 0 ∨ N = 1 ∨ N = 2 ∨ N = 3 ∨ N = 4 ∨ N = 5 ∨ N = 6 := by omega
          rcases this with rfl | rfl | rfl | rfl | rfl | rfl | rfl <;> decide
        exact Int32.lt_of_lt_of_le hneg (by rw [ni_le (by omega) (by omega)]; omega)
      rw [hN]
      exact ⟨fun _ => hQ h, fun y => absurd hz y⟩
    · rw [hN, ni_sub (by omega), ni_lt (by omega) (by omega)]
      refine ⟨fun _ => hQ h, fun y => ?_⟩
      exact lw_one (by omega) hR hN (by omega) (by omega) hI (fun h' hI' => ih (i + 7) (k + 1) h' (by omega) (by omega) (by omega) hI')
end LAWL
