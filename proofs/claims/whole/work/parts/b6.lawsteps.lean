/-! ===== part b6: the law's steps ===== -/
theorem am_wk {T : am_T} {E : am_E} {d : Nat} {M : am_M} {av : List am_V} {h : am_H} {Q Q' : Int32 → am_H → Prop} (f : ∀ v h', Q v h' → Q' v h') (hc : am_C T E d M av h Q) : am_C T E d M av h Q' := by
  obtain ⟨Q0, m, hq⟩ := hc
  exact ⟨Q0, m, fun r h' z => f _ _ (hq r h' z)⟩
theorem am_eqx {d : Nat} {C : am_Ct} {Q : Int32 → am_H → Prop} :
    (∀ (xs : Nat → Int32) (N n o : Nat) (i : Int32) (L : am_L) (r : List am_V) (h : am_H) (K : am_Kt), a_sld xs N n d C Q L (.inl i :: .inr o :: r) h K = (o = 400 ∧ vp_in i N ∧ K n L (.inl (xs i.toNatClampNeg) :: r) h)) ∧
    (∀ (N n o : Nat) (L : am_L) (r : List am_V) (h : am_H) (K : am_Kt), a_slen N n d C Q L (.inr o :: r) h K = (o = 400 ∧ K n L (.inl (nI N) :: r) h)) := ⟨fun _ _ _ _ _ _ _ _ _ => rfl, fun _ _ _ _ _ _ _ => rfl⟩
section LAWS
variable {E : am_E} {X : am_X} {Q : Int32 → am_H → Prop} {h : am_H} {k i N : Nat}
def scr (E : am_E) (j : Nat) : Int32 := nI (E.2.2.2 (500 + j))
theorem lw_state (hR : am_Ret tT E mL_law X (60 + 1) Q) (hN : E.2.2.2 401 = N) (hN2 : N < 100000) (hi : i + 7 ≤ N) (hI : INV k h) (hb : ∀ h, INV k h → BOTH E mX11_state mX12_state [.inl (scr E (i + 1))] k h) (hnext : ∀ h', INV (k + 1) h' → am_B tT E X (60 + 1) mL_law 1099 [some (.inr 400), some (.inr 0), some (.inr 63), some (.inl (nI i))] [] h') : am_B tT E X (60 + 1) mL_law 164 [some (.inr 400), some (.inr 0), some (.inr 63), some (.inl (nI i))] [] h := by
  refine am_goX (gL_law E) [1099] 400 hR ?_
  simp only [am_eqs, am_eqk, am_eqv, am_eqx, lL_law_0 E, lL_law_1 E, fx_ref, fx_class, ↓reduceIte, List.mem_cons, List.not_mem_nil, or_false, or_self, false_or, true_and, and_true, Nat.reduceEqDiff, reduceCtorEq, List.length_cons, List.length_nil, Nat.reduceAdd, Nat.reduceLeDiff, Nat.reduceSub, Nat.reduceLT, Nat.zero_le, Nat.zero_add, forall_const, not_true_eq_false, not_false_eq_true, false_implies, true_implies, implies_true, Nat.zero_lt_succ, am_z0, am_z1]
  try simp (disch := omega) only [ni_add, ni_in, ni_clamp, hN]
  refine ⟨by omega, ?_⟩
  refine am_wk (fun v h2 z => ⟨by omega, ?_⟩) (hb h hI)
  exact am_wk (fun v2 h3 q => ⟨fun _ => hnext h3 q.2, fun ne => absurd q.1 ne⟩) z
theorem lw_name (hR : am_Ret tT E mL_law X (60 + 1) Q) (hN : E.2.2.2 401 = N) (hN2 : N < 100000) (hi : i + 7 ≤ N) (hI : INV k h) (hb : ∀ h, INV k h → BOTH E mX11_name mX12_name [.inl (scr E (i + 1)), .inl (scr E (i + 2))] k h) (hnext : ∀ h', INV (k + 1) h' → am_B tT E X (60 + 1) mL_law 1099 [some (.inr 400), some (.inr 0), some (.inr 63), some (.inl (nI i))] [] h') : am_B tT E X (60 + 1) mL_law 187 [some (.inr 400), some (.inr 0), some (.inr 63), some (.inl (nI i))] [] h := by
  refine am_goX (gL_law E) [1099] 400 hR ?_
  simp only [am_eqs, am_eqk, am_eqv, am_eqx, lL_law_1 E, lL_law_2 E, fx_ref, fx_class, ↓reduceIte, List.mem_cons, List.not_mem_nil, or_false, or_self, false_or, true_and, and_true, Nat.reduceEqDiff, reduceCtorEq, List.length_cons, List.length_nil, Nat.reduceAdd, Nat.reduceLeDiff, Nat.reduceSub, Nat.reduceLT, Nat.zero_le, Nat.zero_add, forall_const, not_true_eq_false, not_false_eq_true, false_implies, true_implies, implies_true, Nat.zero_lt_succ, am_z0, am_z1]
  try simp (disch := omega) only [ni_add, ni_in, ni_clamp, hN]
  refine ⟨by omega, by omega, ?_⟩
  refine am_wk (fun v h2 z => ⟨by omega, by omega, ?_⟩) (hb h hI)
  exact am_wk (fun v2 h3 q => ⟨fun _ => hnext h3 q.2, fun ne => absurd q.1 ne⟩) z
theorem lw_person (hR : am_Ret tT E mL_law X (60 + 1) Q) (hN : E.2.2.2 401 = N) (hN2 : N < 100000) (hi : i + 7 ≤ N) (hI : INV k h) (hb : ∀ h, INV k h → BOTH E mX11_person mX12_person [.inl (scr E (i + 1)), .inl (scr E (i + 2))] k h) (hnext : ∀ h', INV (k + 1) h' → am_B tT E X (60 + 1) mL_law 1099 [some (.inr 400), some (.inr 0), some (.inr 63), some (.inl (nI i))] [] h') : am_B tT E X (60 + 1) mL_law 220 [some (.inr 400), some (.inr 0), some (.inr 63), some (.inl (nI i))] [] h := by
  refine am_goX (gL_law E) [1099] 400 hR ?_
  simp only [am_eqs, am_eqk, am_eqv, am_eqx, lL_law_2 E, lL_law_3 E, fx_ref, fx_class, ↓reduceIte, List.mem_cons, List.not_mem_nil, or_false, or_self, false_or, true_and, and_true, Nat.reduceEqDiff, reduceCtorEq, List.length_cons, List.length_nil, Nat.reduceAdd, Nat.reduceLeDiff, Nat.reduceSub, Nat.reduceLT, Nat.zero_le, Nat.zero_add, forall_const, not_true_eq_false, not_false_eq_true, false_implies, true_implies, implies_true, Nat.zero_lt_succ, am_z0, am_z1]
  try simp (disch := omega) only [ni_add, ni_in, ni_clamp, hN]
  refine ⟨by omega, by omega, ?_⟩
  refine am_wk (fun v h2 z => ⟨by omega, by omega, ?_⟩) (hb h hI)
  exact am_wk (fun v2 h3 q => ⟨fun _ => hnext h3 q.2, fun ne => absurd q.1 ne⟩) z
theorem lw_bridge (hR : am_Ret tT E mL_law X (60 + 1) Q) (hN : E.2.2.2 401 = N) (hN2 : N < 100000) (hi : i + 7 ≤ N) (hI : INV k h) (hb : ∀ h, INV k h → BOTH E mX11_bridge mX12_bridge [.inl (scr E (i + 1)), .inl (scr E (i + 2))] k h) (hnext : ∀ h', INV (k + 1) h' → am_B tT E X (60 + 1) mL_law 1099 [some (.inr 400), some (.inr 0), some (.inr 63), some (.inl (nI i))] [] h') : am_B tT E X (60 + 1) mL_law 253 [some (.inr 400), some (.inr 0), some (.inr 63), some (.inl (nI i))] [] h := by
  refine am_goX (gL_law E) [1099] 400 hR ?_
  simp only [am_eqs, am_eqk, am_eqv, am_eqx, lL_law_3 E, lL_law_4 E, fx_ref, fx_class, ↓reduceIte, List.mem_cons, List.not_mem_nil, or_false, or_self, false_or, true_and, and_true, Nat.reduceEqDiff, reduceCtorEq, List.length_cons, List.length_nil, Nat.reduceAdd, Nat.reduceLeDiff, Nat.reduceSub, Nat.reduceLT, Nat.zero_le, Nat.zero_add, forall_const, not_true_eq_false, not_false_eq_true, false_implies, true_implies, implies_true, Nat.zero_lt_succ, am_z0, am_z1]
  try simp (disch := omega) only [ni_add, ni_in, ni_clamp, hN]
  refine ⟨by omega, by omega, ?_⟩
  refine am_wk (fun v h2 z => ⟨by omega, by omega, ?_⟩) (hb h hI)
  exact am_wk (fun v2 h3 q => ⟨fun _ => hnext h3 q.2, fun ne => absurd q.1 ne⟩) z
theorem lw_christen (hR : am_Ret tT E mL_law X (60 + 1) Q) (hN : E.2.2.2 401 = N) (hN2 : N < 100000) (hi : i + 7 ≤ N) (hI : INV k h) (hb : ∀ h, INV k h → BOTH E mX11_christen mX12_christen [.inl (scr E (i + 1)), .inl (scr E (i + 2))] k h) (hnext : ∀ h', INV (k + 1) h' → am_B tT E X (60 + 1) mL_law 1099 [some (.inr 400), some (.inr 0), some (.inr 63), some (.inl (nI i))] [] h') : am_B tT E X (60 + 1) mL_law 286 [some (.inr 400), some (.inr 0), some (.inr 63), some (.inl (nI i))] [] h := by
  refine am_goX (gL_law E) [1099] 400 hR ?_
  simp only [am_eqs, am_eqk, am_eqv, am_eqx, lL_law_4 E, lL_law_5 E, fx_ref, fx_class, ↓reduceIte, List.mem_cons, List.not_mem_nil, or_false, or_self, false_or, true_and, and_true, Nat.reduceEqDiff, reduceCtorEq, List.length_cons, List.length_nil, Nat.reduceAdd, Nat.reduceLeDiff, Nat.reduceSub, Nat.reduceLT, Nat.zero_le, Nat.zero_add, forall_const, not_true_eq_false, not_false_eq_true, false_implies, true_implies, implies_true, Nat.zero_lt_succ, am_z0, am_z1]
  try simp (disch := omega) only [ni_add, ni_in, ni_clamp, hN]
  refine ⟨by omega, by omega, ?_⟩
  refine am_wk (fun v h2 z => ⟨by omega, by omega, ?_⟩) (hb h hI)
  exact am_wk (fun v2 h3 q => ⟨fun _ => hnext h3 q.2, fun ne => absurd q.1 ne⟩) z
theorem lw_set (hR : am_Ret tT E mL_law X (60 + 1) Q) (hN : E.2.2.2 401 = N) (hN2 : N < 100000) (hi : i + 7 ≤ N) (hI : INV k h) (hb : ∀ h, INV k h → BOTH E mX11_set mX12_set [.inl (scr E (i + 1)), .inl (scr E (i + 2)), .inl (scr E (i + 3))] k h) (hnext : ∀ h', INV (k + 1) h' → am_B tT E X (60 + 1) mL_law 1099 [some (.inr 400), some (.inr 0), some (.inr 63), some (.inl (nI i))] [] h') : am_B tT E X (60 + 1) mL_law 319 [some (.inr 400), some (.inr 0), some (.inr 63), some (.inl (nI i))] [] h := by
  refine am_goX (gL_law E) [1099] 400 hR ?_
  simp only [am_eqs, am_eqk, am_eqv, am_eqx, lL_law_5 E, lL_law_6 E, lL_law_7 E, fx_ref, fx_class, ↓reduceIte, List.mem_cons, List.not_mem_nil, or_false, or_self, false_or, true_and, and_true, Nat.reduceEqDiff, reduceCtorEq, List.length_cons, List.length_nil, Nat.reduceAdd, Nat.reduceLeDiff, Nat.reduceSub, Nat.reduceLT, Nat.zero_le, Nat.zero_add, forall_const, not_true_eq_false, not_false_eq_true, false_implies, true_implies, implies_true, Nat.zero_lt_succ, am_z0, am_z1]
  try simp (disch := omega) only [ni_add, ni_in, ni_clamp, hN]
  refine ⟨by omega, by omega, by omega, ?_⟩
  refine am_wk (fun v h2 z => ⟨by omega, by omega, by omega, ?_⟩) (hb h hI)
  exact am_wk (fun v2 h3 q => ⟨fun _ => hnext h3 q.2, fun ne => absurd q.1 ne⟩) z
theorem lw_feed (hR : am_Ret tT E mL_law X (60 + 1) Q) (hN : E.2.2.2 401 = N) (hN2 : N < 100000) (hi : i + 7 ≤ N) (hI : INV k h) (hb : ∀ h, INV k h → BOTH E mX11_feed mX12_feed [.inl (scr E (i + 1)), .inl (scr E (i + 2)), .inl (scr E (i + 3)), .inl (scr E (i + 4)), .inl (scr E (i + 5))] k h) (hnext : ∀ h', INV (k + 1) h' → am_B tT E X (60 + 1) mL_law 1099 [some (.inr 400), some (.inr 0), some (.inr 63), some (.inl (nI i))] [] h') : am_B tT E X (60 + 1) mL_law 362 [some (.inr 400), some (.inr 0), some (.inr 63), some (.inl (nI i))] [] h := by
  refine am_goX (gL_law E) [1099] 400 hR ?_
  simp only [am_eqs, am_eqk, am_eqv, am_eqx, lL_law_7 E, lL_law_8 E, lL_law_9 E, fx_ref, fx_class, ↓reduceIte, List.mem_cons, List.not_mem_nil, or_false, or_self, false_or, true_and, and_true, Nat.reduceEqDiff, reduceCtorEq, List.length_cons, List.length_nil, Nat.reduceAdd, Nat.reduceLeDiff, Nat.reduceSub, Nat.reduceLT, Nat.zero_le, Nat.zero_add, forall_const, not_true_eq_false, not_false_eq_true, false_implies, true_implies, implies_true, Nat.zero_lt_succ, am_z0, am_z1]
  try simp (disch := omega) only [ni_add, ni_in, ni_clamp, hN]
  refine ⟨by omega, by omega, by omega, by omega, by omega, ?_⟩
  refine am_wk (fun v h2 z => ⟨by omega, by omega, by omega, by omega, by omega, ?_⟩) (hb h hI)
  exact am_wk (fun v2 h3 q => ⟨fun _ => hnext h3 q.2, fun ne => absurd q.1 ne⟩) z
theorem lw_end (hR : am_Ret tT E mL_law X (60 + 1) Q) (hN : E.2.2.2 401 = N) (hN2 : N < 100000) (hi : i + 7 ≤ N) (hI : INV k h) (hb : ∀ h, INV k h → BOTH E mX11_end mX12_end [.inl (scr E (i + 1))] k h) (hnext : ∀ h', INV (k + 1) h' → am_B tT E X (60 + 1) mL_law 1099 [some (.inr 400), some (.inr 0), some (.inr 63), some (.inl (nI i))] [] h') : am_B tT E X (60 + 1) mL_law 425 [some (.inr 400), some (.inr 0), some (.inr 63), some (.inl (nI i))] [] h := by
  refine am_goX (gL_law E) [1099] 400 hR ?_
  simp only [am_eqs, am_eqk, am_eqv, am_eqx, lL_law_9 E, lL_law_10 E, fx_ref, fx_class, ↓reduceIte, List.mem_cons, List.not_mem_nil, or_false, or_self, false_or, true_and, and_true, Nat.reduceEqDiff, reduceCtorEq, List.length_cons, List.length_nil, Nat.reduceAdd, Nat.reduceLeDiff, Nat.reduceSub, Nat.reduceLT, Nat.zero_le, Nat.zero_add, forall_const, not_true_eq_false, not_false_eq_true, false_implies, true_implies, implies_true, Nat.zero_lt_succ, am_z0, am_z1]
  try simp (disch := omega) only [ni_add, ni_in, ni_clamp, hN]
  refine ⟨by omega, ?_⟩
  refine am_wk (fun v h2 z => ⟨by omega, ?_⟩) (hb h hI)
  exact am_wk (fun v2 h3 q => ⟨fun _ => hnext h3 q.2, fun ne => absurd q.1 ne⟩) z
theorem lw_text (hR : am_Ret tT E mL_law X (60 + 1) Q) (hN : E.2.2.2 401 = N) (hN2 : N < 100000) (hi : i + 7 ≤ N) (hI : INV k h) (hb : ∀ h, INV k h → BOTH E mX11_text mX12_text [] k h) (hnext : ∀ h', INV (k + 1) h' → am_B tT E X (60 + 1) mL_law 1099 [some (.inr 400), some (.inr 0), some (.inr 63), some (.inl (nI i))] [] h') : am_B tT E X (60 + 1) mL_law 448 [some (.inr 400), some (.inr 0), some (.inr 63), some (.inl (nI i))] [] h := by
  refine am_goX (gL_law E) [1099] 400 hR ?_
  simp only [am_eqs, am_eqk, am_eqv, am_eqx, lL_law_10 E, fx_ref, fx_class, ↓reduceIte, List.mem_cons, List.not_mem_nil, or_false, or_self, false_or, true_and, and_true, Nat.reduceEqDiff, reduceCtorEq, List.length_cons, List.length_nil, Nat.reduceAdd, Nat.reduceLeDiff, Nat.reduceSub, Nat.reduceLT, Nat.zero_le, Nat.zero_add, forall_const, not_true_eq_false, not_false_eq_true, false_implies, true_implies, implies_true, Nat.zero_lt_succ, am_z0, am_z1]
  try simp (disch := omega) only [ni_add, ni_in, ni_clamp, hN]
  refine am_wk (fun v h2 z => ?_) (hb h hI)
  exact am_wk (fun v2 h3 q => ⟨fun _ => hnext h3 q.2, fun ne => absurd q.1 ne⟩) z
theorem lw_fault (hR : am_Ret tT E mL_law X (60 + 1) Q) (hN : E.2.2.2 401 = N) (hN2 : N < 100000) (hi : i + 7 ≤ N) (hI : INV k h) (hb : ∀ h, INV k h → BOTH E mX11_fault mX12_fault [.inl (scr E (i + 1))] k h) (hnext : ∀ h', INV (k + 1) h' → am_B tT E X (60 + 1) mL_law 1099 [some (.inr 400), some (.inr 0), some (.inr 63), some (.inl (nI i))] [] h') : am_B tT E X (60 + 1) mL_law 461 [some (.inr 400), some (.inr 0), some (.inr 63), some (.inl (nI i))] [] h := by
  refine am_goX (gL_law E) [1099] 400 hR ?_
  simp only [am_eqs, am_eqk, am_eqv, am_eqx, lL_law_10 E, lL_law_11 E, fx_ref, fx_class, ↓reduceIte, List.mem_cons, List.not_mem_nil, or_false, or_self, false_or, true_and, and_true, Nat.reduceEqDiff, reduceCtorEq, List.length_cons, List.length_nil, Nat.reduceAdd, Nat.reduceLeDiff, Nat.reduceSub, Nat.reduceLT, Nat.zero_le, Nat.zero_add, forall_const, not_true_eq_false, not_false_eq_true, false_implies, true_implies, implies_true, Nat.zero_lt_succ, am_z0, am_z1]
  try simp (disch := omega) only [ni_add, ni_in, ni_clamp, hN]
  refine ⟨by omega, ?_⟩
  refine am_wk (fun v h2 z => ⟨by omega, ?_⟩) (hb h hI)
  exact am_wk (fun v2 h3 q => ⟨fun _ => hnext h3 q.2, fun ne => absurd q.1 ne⟩) z
theorem lw_cross (hR : am_Ret tT E mL_law X (60 + 1) Q) (hN : E.2.2.2 401 = N) (hN2 : N < 100000) (hi : i + 7 ≤ N) (hI : INV k h) (hb : ∀ h, INV k h → BOTH E mX11_cross mX12_cross [.inl (scr E (i + 1)), .inl (scr E (i + 2))] k h) (hnext : ∀ h', INV (k + 1) h' → am_B tT E X (60 + 1) mL_law 1099 [some (.inr 400), some (.inr 0), some (.inr 63), some (.inl (nI i))] [] h') : am_B tT E X (60 + 1) mL_law 484 [some (.inr 400), some (.inr 0), some (.inr 63), some (.inl (nI i))] [] h := by
  refine am_goX (gL_law E) [1099] 400 hR ?_
  simp only [am_eqs, am_eqk, am_eqv, am_eqx, lL_law_11 E, lL_law_12 E, fx_ref, fx_class, ↓reduceIte, List.mem_cons, List.not_mem_nil, or_false, or_self, false_or, true_and, and_true, Nat.reduceEqDiff, reduceCtorEq, List.length_cons, List.length_nil, Nat.reduceAdd, Nat.reduceLeDiff, Nat.reduceSub, Nat.reduceLT, Nat.zero_le, Nat.zero_add, forall_const, not_true_eq_false, not_false_eq_true, false_implies, true_implies, implies_true, Nat.zero_lt_succ, am_z0, am_z1]
  try simp (disch := omega) only [ni_add, ni_in, ni_clamp, hN]
  refine ⟨by omega, by omega, ?_⟩
  refine am_wk (fun v h2 z => ⟨by omega, by omega, ?_⟩) (hb h hI)
  exact am_wk (fun v2 h3 q => ⟨fun _ => hnext h3 q.2, fun ne => absurd q.1 ne⟩) z
theorem lw_take (hR : am_Ret tT E mL_law X (60 + 1) Q) (hN : E.2.2.2 401 = N) (hN2 : N < 100000) (hi : i + 7 ≤ N) (hI : INV k h) (hb : ∀ h, INV k h → BOTH E mX11_take mX12_take [.inl (scr E (i + 1)), .inl (scr E (i + 2)), .inl (scr E (i + 3))] k h) (hnext : ∀ h', INV (k + 1) h' → am_B tT E X (60 + 1) mL_law 1099 [some (.inr 400), some (.inr 0), some (.inr 63), some (.inl (nI i))] [] h') : am_B tT E X (60 + 1) mL_law 517 [some (.inr 400), some (.inr 0), some (.inr 63), some (.inl (nI i))] [] h := by
  refine am_goX (gL_law E) [1099] 400 hR ?_
  simp only [am_eqs, am_eqk, am_eqv, am_eqx, lL_law_12 E, lL_law_13 E, lL_law_14 E, fx_ref, fx_class, ↓reduceIte, List.mem_cons, List.not_mem_nil, or_false, or_self, false_or, true_and, and_true, Nat.reduceEqDiff, reduceCtorEq, List.length_cons, List.length_nil, Nat.reduceAdd, Nat.reduceLeDiff, Nat.reduceSub, Nat.reduceLT, Nat.zero_le, Nat.zero_add, forall_const, not_true_eq_false, not_false_eq_true, false_implies, true_implies, implies_true, Nat.zero_lt_succ, am_z0, am_z1]
  try simp (disch := omega) only [ni_add, ni_in, ni_clamp, hN]
  refine ⟨by omega, by omega, by omega, ?_⟩
  refine am_wk (fun v h2 z => ⟨by omega, by omega, by omega, ?_⟩) (hb h hI)
  exact am_wk (fun v2 h3 q => ⟨fun _ => hnext h3 q.2, fun ne => absurd q.1 ne⟩) z
theorem lw_day (hR : am_Ret tT E mL_law X (60 + 1) Q) (hN : E.2.2.2 401 = N) (hN2 : N < 100000) (hi : i + 7 ≤ N) (hI : INV k h) (hb : ∀ h, INV k h → BOTH E mX11_day mX12_day [] k h) (hnext : ∀ h', INV (k + 1) h' → am_B tT E X (60 + 1) mL_law 1099 [some (.inr 400), some (.inr 0), some (.inr 63), some (.inl (nI i))] [] h') : am_B tT E X (60 + 1) mL_law 560 [some (.inr 400), some (.inr 0), some (.inr 63), some (.inl (nI i))] [] h := by
  refine am_goX (gL_law E) [1099] 400 hR ?_
  simp only [am_eqs, am_eqk, am_eqv, am_eqx, lL_law_14 E, fx_ref, fx_class, ↓reduceIte, List.mem_cons, List.not_mem_nil, or_false, or_self, false_or, true_and, and_true, Nat.reduceEqDiff, reduceCtorEq, List.length_cons, List.length_nil, Nat.reduceAdd, Nat.reduceLeDiff, Nat.reduceSub, Nat.reduceLT, Nat.zero_le, Nat.zero_add, forall_const, not_true_eq_false, not_false_eq_true, false_implies, true_implies, implies_true, Nat.zero_lt_succ, am_z0, am_z1]
  try simp (disch := omega) only [ni_add, ni_in, ni_clamp, hN]
  refine am_wk (fun v h2 z => ?_) (hb h hI)
  exact am_wk (fun v2 h3 q => ⟨fun _ => hnext h3 q.2, fun ne => absurd q.1 ne⟩) z
theorem lw_of (hR : am_Ret tT E mL_law X (60 + 1) Q) (hN : E.2.2.2 401 = N) (hN2 : N < 100000) (hi : i + 7 ≤ N) (hI : INV k h) (hb : ∀ h, INV k h → BOTH E mX11_of mX12_of [.inl (scr E (i + 1)), .inl (scr E (i + 2))] k h) (hnext : ∀ h', INV (k + 1) h' → am_B tT E X (60 + 1) mL_law 1099 [some (.inr 400), some (.inr 0), some (.inr 63), some (.inl (nI i))] [] h') : am_B tT E X (60 + 1) mL_law 573 [some (.inr 400), some (.inr 0), some (.inr 63), some (.inl (nI i))] [] h := by
  refine am_goX (gL_law E) [1099] 400 hR ?_
  simp only [am_eqs, am_eqk, am_eqv, am_eqx, lL_law_14 E, lL_law_15 E, fx_ref, fx_class, ↓reduceIte, List.mem_cons, List.not_mem_nil, or_false, or_self, false_or, true_and, and_true, Nat.reduceEqDiff, reduceCtorEq, List.length_cons, List.length_nil, Nat.reduceAdd, Nat.reduceLeDiff, Nat.reduceSub, Nat.reduceLT, Nat.zero_le, Nat.zero_add, forall_const, not_true_eq_false, not_false_eq_true, false_implies, true_implies, implies_true, Nat.zero_lt_succ, am_z0, am_z1]
  try simp (disch := omega) only [ni_add, ni_in, ni_clamp, hN]
  refine ⟨by omega, by omega, ?_⟩
  refine am_wk (fun v h2 z => ⟨by omega, by omega, ?_⟩) (hb h hI)
  exact am_wk (fun v2 h3 q => ⟨fun _ => hnext h3 q.2, fun ne => absurd q.1 ne⟩) z
theorem lw_kept (hR : am_Ret tT E mL_law X (60 + 1) Q) (hN : E.2.2.2 401 = N) (hN2 : N < 100000) (hi : i + 7 ≤ N) (hI : INV k h) (hb : ∀ h, INV k h → BOTH E mX11_kept mX12_kept [.inl (scr E (i + 1)), .inl (scr E (i + 2))] k h) (hnext : ∀ h', INV (k + 1) h' → am_B tT E X (60 + 1) mL_law 1099 [some (.inr 400), some (.inr 0), some (.inr 63), some (.inl (nI i))] [] h') : am_B tT E X (60 + 1) mL_law 606 [some (.inr 400), some (.inr 0), some (.inr 63), some (.inl (nI i))] [] h := by
  refine am_goX (gL_law E) [1099] 400 hR ?_
  simp only [am_eqs, am_eqk, am_eqv, am_eqx, lL_law_15 E, lL_law_16 E, fx_ref, fx_class, ↓reduceIte, List.mem_cons, List.not_mem_nil, or_false, or_self, false_or, true_and, and_true, Nat.reduceEqDiff, reduceCtorEq, List.length_cons, List.length_nil, Nat.reduceAdd, Nat.reduceLeDiff, Nat.reduceSub, Nat.reduceLT, Nat.zero_le, Nat.zero_add, forall_const, not_true_eq_false, not_false_eq_true, false_implies, true_implies, implies_true, Nat.zero_lt_succ, am_z0, am_z1]
  try simp (disch := omega) only [ni_add, ni_in, ni_clamp, hN]
  refine ⟨by omega, by omega, ?_⟩
  refine am_wk (fun v h2 z => ⟨by omega, by omega, ?_⟩) (hb h hI)
  exact am_wk (fun v2 h3 q => ⟨fun _ => hnext h3 q.2, fun ne => absurd q.1 ne⟩) z
theorem lw_book (hR : am_Ret tT E mL_law X (60 + 1) Q) (hN : E.2.2.2 401 = N) (hN2 : N < 100000) (hi : i + 7 ≤ N) (hI : INV k h) (hb : ∀ h, INV k h → BOTH E mX11_book mX12_book [.inl (scr E (i + 1)), .inl (scr E (i + 2))] k h) (hnext : ∀ h', INV (k + 1) h' → am_B tT E X (60 + 1) mL_law 1099 [some (.inr 400), some (.inr 0), some (.inr 63), some (.inl (nI i))] [] h') : am_B tT E X (60 + 1) mL_law 639 [some (.inr 400), some (.inr 0), some (.inr 63), some (.inl (nI i))] [] h := by
  refine am_goX (gL_law E) [1099] 400 hR ?_
  simp only [am_eqs, am_eqk, am_eqv, am_eqx, lL_law_16 E, lL_law_17 E, fx_ref, fx_class, ↓reduceIte, List.mem_cons, List.not_mem_nil, or_false, or_self, false_or, true_and, and_true, Nat.reduceEqDiff, reduceCtorEq, List.length_cons, List.length_nil, Nat.reduceAdd, Nat.reduceLeDiff, Nat.reduceSub, Nat.reduceLT, Nat.zero_le, Nat.zero_add, forall_const, not_true_eq_false, not_false_eq_true, false_implies, true_implies, implies_true, Nat.zero_lt_succ, am_z0, am_z1]
  try simp (disch := omega) only [ni_add, ni_in, ni_clamp, hN]
  refine ⟨by omega, by omega, ?_⟩
  refine am_wk (fun v h2 z => ⟨by omega, by omega, ?_⟩) (hb h hI)
  exact am_wk (fun v2 h3 q => ⟨fun _ => hnext h3 q.2, fun ne => absurd q.1 ne⟩) z
theorem lw_called (hR : am_Ret tT E mL_law X (60 + 1) Q) (hN : E.2.2.2 401 = N) (hN2 : N < 100000) (hi : i + 7 ≤ N) (hI : INV k h) (hb : ∀ h, INV k h → BOTH E mX11_called mX12_called [.inl (scr E (i + 1)), .inl (scr E (i + 2))] k h) (hnext : ∀ h', INV (k + 1) h' → am_B tT E X (60 + 1) mL_law 1099 [some (.inr 400), some (.inr 0), some (.inr 63), some (.inl (nI i))] [] h') : am_B tT E X (60 + 1) mL_law 672 [some (.inr 400), some (.inr 0), some (.inr 63), some (.inl (nI i))] [] h := by
  refine am_goX (gL_law E) [1099] 400 hR ?_
  simp only [am_eqs, am_eqk, am_eqv, am_eqx, lL_law_17 E, lL_law_18 E, lL_law_19 E, fx_ref, fx_class, ↓reduceIte, List.mem_cons, List.not_mem_nil, or_false, or_self, false_or, true_and, and_true, Nat.reduceEqDiff, reduceCtorEq, List.length_cons, List.length_nil, Nat.reduceAdd, Nat.reduceLeDiff, Nat.reduceSub, Nat.reduceLT, Nat.zero_le, Nat.zero_add, forall_const, not_true_eq_false, not_false_eq_true, false_implies, true_implies, implies_true, Nat.zero_lt_succ, am_z0, am_z1]
  try simp (disch := omega) only [ni_add, ni_in, ni_clamp, hN]
  refine ⟨by omega, by omega, ?_⟩
  refine am_wk (fun v h2 z => ⟨by omega, by omega, ?_⟩) (hb h hI)
  exact am_wk (fun v2 h3 q => ⟨fun _ => hnext h3 q.2, fun ne => absurd q.1 ne⟩) z
theorem lw_alone (hR : am_Ret tT E mL_law X (60 + 1) Q) (hN : E.2.2.2 401 = N) (hN2 : N < 100000) (hi : i + 7 ≤ N) (hI : INV k h) (hb : ∀ h, INV k h → BOTH E mX11_alone mX12_alone [.inl (scr E (i + 1))] k h) (hnext : ∀ h', INV (k + 1) h' → am_B tT E X (60 + 1) mL_law 1099 [some (.inr 400), some (.inr 0), some (.inr 63), some (.inl (nI i))] [] h') : am_B tT E X (60 + 1) mL_law 705 [some (.inr 400), some (.inr 0), some (.inr 63), some (.inl (nI i))] [] h := by
  refine am_goX (gL_law E) [1099] 400 hR ?_
  simp only [am_eqs, am_eqk, am_eqv, am_eqx, lL_law_19 E, fx_ref, fx_class, ↓reduceIte, List.mem_cons, List.not_mem_nil, or_false, or_self, false_or, true_and, and_true, Nat.reduceEqDiff, reduceCtorEq, List.length_cons, List.length_nil, Nat.reduceAdd, Nat.reduceLeDiff, Nat.reduceSub, Nat.reduceLT, Nat.zero_le, Nat.zero_add, forall_const, not_true_eq_false, not_false_eq_true, false_implies, true_implies, implies_true, Nat.zero_lt_succ, am_z0, am_z1]
  try simp (disch := omega) only [ni_add, ni_in, ni_clamp, hN]
  refine ⟨by omega, ?_⟩
  refine am_wk (fun v h2 z => ⟨by omega, ?_⟩) (hb h hI)
  exact am_wk (fun v2 h3 q => ⟨fun _ => hnext h3 q.2, fun ne => absurd q.1 ne⟩) z
theorem lw_cousins (hR : am_Ret tT E mL_law X (60 + 1) Q) (hN : E.2.2.2 401 = N) (hN2 : N < 100000) (hi : i + 7 ≤ N) (hI : INV k h) (hb : ∀ h, INV k h → BOTH E mX11_cousins mX12_cousins [.inl (scr E (i + 1))] k h) (hnext : ∀ h', INV (k + 1) h' → am_B tT E X (60 + 1) mL_law 1099 [some (.inr 400), some (.inr 0), some (.inr 63), some (.inl (nI i))] [] h') : am_B tT E X (60 + 1) mL_law 728 [some (.inr 400), some (.inr 0), some (.inr 63), some (.inl (nI i))] [] h := by
  refine am_goX (gL_law E) [1099] 400 hR ?_
  simp only [am_eqs, am_eqk, am_eqv, am_eqx, lL_law_19 E, lL_law_20 E, fx_ref, fx_class, ↓reduceIte, List.mem_cons, List.not_mem_nil, or_false, or_self, false_or, true_and, and_true, Nat.reduceEqDiff, reduceCtorEq, List.length_cons, List.length_nil, Nat.reduceAdd, Nat.reduceLeDiff, Nat.reduceSub, Nat.reduceLT, Nat.zero_le, Nat.zero_add, forall_const, not_true_eq_false, not_false_eq_true, false_implies, true_implies, implies_true, Nat.zero_lt_succ, am_z0, am_z1]
  try simp (disch := omega) only [ni_add, ni_in, ni_clamp, hN]
  refine ⟨by omega, ?_⟩
  refine am_wk (fun v h2 z => ⟨by omega, ?_⟩) (hb h hI)
  exact am_wk (fun v2 h3 q => ⟨fun _ => hnext h3 q.2, fun ne => absurd q.1 ne⟩) z
theorem lw_estate (hR : am_Ret tT E mL_law X (60 + 1) Q) (hN : E.2.2.2 401 = N) (hN2 : N < 100000) (hi : i + 7 ≤ N) (hI : INV k h) (hb : ∀ h, INV k h → BOTH E mX11_estate mX12_estate [.inl (scr E (i + 1))] k h) (hnext : ∀ h', INV (k + 1) h' → am_B tT E X (60 + 1) mL_law 1099 [some (.inr 400), some (.inr 0), some (.inr 63), some (.inl (nI i))] [] h') : am_B tT E X (60 + 1) mL_law 751 [some (.inr 400), some (.inr 0), some (.inr 63), some (.inl (nI i))] [] h := by
  refine am_goX (gL_law E) [1099] 400 hR ?_
  simp only [am_eqs, am_eqk, am_eqv, am_eqx, lL_law_20 E, lL_law_21 E, fx_ref, fx_class, ↓reduceIte, List.mem_cons, List.not_mem_nil, or_false, or_self, false_or, true_and, and_true, Nat.reduceEqDiff, reduceCtorEq, List.length_cons, List.length_nil, Nat.reduceAdd, Nat.reduceLeDiff, Nat.reduceSub, Nat.reduceLT, Nat.zero_le, Nat.zero_add, forall_const, not_true_eq_false, not_false_eq_true, false_implies, true_implies, implies_true, Nat.zero_lt_succ, am_z0, am_z1]
  try simp (disch := omega) only [ni_add, ni_in, ni_clamp, hN]
  refine ⟨by omega, ?_⟩
  refine am_wk (fun v h2 z => ⟨by omega, ?_⟩) (hb h hI)
  exact am_wk (fun v2 h3 q => ⟨fun _ => hnext h3 q.2, fun ne => absurd q.1 ne⟩) z
theorem lw_behind (hR : am_Ret tT E mL_law X (60 + 1) Q) (hN : E.2.2.2 401 = N) (hN2 : N < 100000) (hi : i + 7 ≤ N) (hI : INV k h) (hb : ∀ h, INV k h → BOTH E mX11_behind mX12_behind [.inl (scr E (i + 1)), .inl (scr E (i + 2)), .inl (scr E (i + 3)), .inl (scr E (i + 4)), .inl (scr E (i + 5)), .inl (scr E (i + 6))] k h) (hnext : ∀ h', INV (k + 1) h' → am_B tT E X (60 + 1) mL_law 1099 [some (.inr 400), some (.inr 0), some (.inr 63), some (.inl (nI i))] [] h') : am_B tT E X (60 + 1) mL_law 774 [some (.inr 400), some (.inr 0), some (.inr 63), some (.inl (nI i))] [] h := by
  refine am_goX (gL_law E) [1099] 400 hR ?_
  simp only [am_eqs, am_eqk, am_eqv, am_eqx, lL_law_21 E, lL_law_22 E, lL_law_23 E, fx_ref, fx_class, ↓reduceIte, List.mem_cons, List.not_mem_nil, or_false, or_self, false_or, true_and, and_true, Nat.reduceEqDiff, reduceCtorEq, List.length_cons, List.length_nil, Nat.reduceAdd, Nat.reduceLeDiff, Nat.reduceSub, Nat.reduceLT, Nat.zero_le, Nat.zero_add, forall_const, not_true_eq_false, not_false_eq_true, false_implies, true_implies, implies_true, Nat.zero_lt_succ, am_z0, am_z1]
  try simp (disch := omega) only [ni_add, ni_in, ni_clamp, hN]
  refine ⟨by omega, by omega, by omega, by omega, by omega, by omega, ?_⟩
  refine am_wk (fun v h2 z => ⟨by omega, by omega, by omega, by omega, by omega, by omega, ?_⟩) (hb h hI)
  exact am_wk (fun v2 h3 q => ⟨fun _ => hnext h3 q.2, fun ne => absurd q.1 ne⟩) z
theorem lw_best (hR : am_Ret tT E mL_law X (60 + 1) Q) (hN : E.2.2.2 401 = N) (hN2 : N < 100000) (hi : i + 7 ≤ N) (hI : INV k h) (hb : ∀ h, INV k h → BOTH E mX11_best mX12_best [.inl (scr E (i + 1)), .inl (scr E (i + 2)), .inl (scr E (i + 3))] k h) (hnext : ∀ h', INV (k + 1) h' → am_B tT E X (60 + 1) mL_law 1099 [some (.inr 400), some (.inr 0), some (.inr 63), some (.inl (nI i))] [] h') : am_B tT E X (60 + 1) mL_law 849 [some (.inr 400), some (.inr 0), some (.inr 63), some (.inl (nI i))] [] h := by
  refine am_goX (gL_law E) [1099] 400 hR ?_
  simp only [am_eqs, am_eqk, am_eqv, am_eqx, lL_law_23 E, lL_law_24 E, lL_law_25 E, fx_ref, fx_class, ↓reduceIte, List.mem_cons, List.not_mem_nil, or_false, or_self, false_or, true_and, and_true, Nat.reduceEqDiff, reduceCtorEq, List.length_cons, List.length_nil, Nat.reduceAdd, Nat.reduceLeDiff, Nat.reduceSub, Nat.reduceLT, Nat.zero_le, Nat.zero_add, forall_const, not_true_eq_false, not_false_eq_true, false_implies, true_implies, implies_true, Nat.zero_lt_succ, am_z0, am_z1]
  try simp (disch := omega) only [ni_add, ni_in, ni_clamp, hN]
  refine ⟨by omega, by omega, by omega, ?_⟩
  refine am_wk (fun v h2 z => ⟨by omega, by omega, by omega, ?_⟩) (hb h hI)
  exact am_wk (fun v2 h3 q => ⟨fun _ => hnext h3 q.2, fun ne => absurd q.1 ne⟩) z
theorem lw_round (hR : am_Ret tT E mL_law X (60 + 1) Q) (hN : E.2.2.2 401 = N) (hN2 : N < 100000) (hi : i + 7 ≤ N) (hI : INV k h) (hb : ∀ h, INV k h → BOTH E mX11_round mX12_round [.inl (scr E (i + 1))] k h) (hnext : ∀ h', INV (k + 1) h' → am_B tT E X (60 + 1) mL_law 1099 [some (.inr 400), some (.inr 0), some (.inr 63), some (.inl (nI i))] [] h') : am_B tT E X (60 + 1) mL_law 892 [some (.inr 400), some (.inr 0), some (.inr 63), some (.inl (nI i))] [] h := by
  refine am_goX (gL_law E) [1099] 400 hR ?_
  simp only [am_eqs, am_eqk, am_eqv, am_eqx, lL_law_25 E, lL_law_26 E, fx_ref, fx_class, ↓reduceIte, List.mem_cons, List.not_mem_nil, or_false, or_self, false_or, true_and, and_true, Nat.reduceEqDiff, reduceCtorEq, List.length_cons, List.length_nil, Nat.reduceAdd, Nat.reduceLeDiff, Nat.reduceSub, Nat.reduceLT, Nat.zero_le, Nat.zero_add, forall_const, not_true_eq_false, not_false_eq_true, false_implies, true_implies, implies_true, Nat.zero_lt_succ, am_z0, am_z1]
  try simp (disch := omega) only [ni_add, ni_in, ni_clamp, hN]
  refine ⟨by omega, ?_⟩
  refine am_wk (fun v h2 z => ⟨by omega, ?_⟩) (hb h hI)
  exact am_wk (fun v2 h3 q => ⟨fun _ => hnext h3 q.2, fun ne => absurd q.1 ne⟩) z
theorem lw_plan (hR : am_Ret tT E mL_law X (60 + 1) Q) (hN : E.2.2.2 401 = N) (hN2 : N < 100000) (hi : i + 7 ≤ N) (hI : INV k h) (hb : ∀ h, INV k h → BOTH E mX11_plan mX12_plan [.inl (scr E (i + 1)), .inl (scr E (i + 2))] k h) (hnext : ∀ h', INV (k + 1) h' → am_B tT E X (60 + 1) mL_law 1099 [some (.inr 400), some (.inr 0), some (.inr 63), some (.inl (nI i))] [] h') : am_B tT E X (60 + 1) mL_law 915 [some (.inr 400), some (.inr 0), some (.inr 63), some (.inl (nI i))] [] h := by
  refine am_goX (gL_law E) [1099] 400 hR ?_
  simp only [am_eqs, am_eqk, am_eqv, am_eqx, lL_law_26 E, lL_law_27 E, fx_ref, fx_class, ↓reduceIte, List.mem_cons, List.not_mem_nil, or_false, or_self, false_or, true_and, and_true, Nat.reduceEqDiff, reduceCtorEq, List.length_cons, List.length_nil, Nat.reduceAdd, Nat.reduceLeDiff, Nat.reduceSub, Nat.reduceLT, Nat.zero_le, Nat.zero_add, forall_const, not_true_eq_false, not_false_eq_true, false_implies, true_implies, implies_true, Nat.zero_lt_succ, am_z0, am_z1]
  try simp (disch := omega) only [ni_add, ni_in, ni_clamp, hN]
  refine ⟨by omega, by omega, ?_⟩
  refine am_wk (fun v h2 z => ⟨by omega, by omega, ?_⟩) (hb h hI)
  exact am_wk (fun v2 h3 q => ⟨fun _ => hnext h3 q.2, fun ne => absurd q.1 ne⟩) z
theorem lw_night (hR : am_Ret tT E mL_law X (60 + 1) Q) (hN : E.2.2.2 401 = N) (hN2 : N < 100000) (hi : i + 7 ≤ N) (hI : INV k h) (hb : ∀ h, INV k h → BOTH E mX11_night mX12_night [.inl (scr E (i + 1)), .inl (scr E (i + 2))] k h) (hnext : ∀ h', INV (k + 1) h' → am_B tT E X (60 + 1) mL_law 1099 [some (.inr 400), some (.inr 0), some (.inr 63), some (.inl (nI i))] [] h') : am_B tT E X (60 + 1) mL_law 948 [some (.inr 400), some (.inr 0), some (.inr 63), some (.inl (nI i))] [] h := by
  refine am_goX (gL_law E) [1099] 400 hR ?_
  simp only [am_eqs, am_eqk, am_eqv, am_eqx, lL_law_27 E, lL_law_28 E, fx_ref, fx_class, ↓reduceIte, List.mem_cons, List.not_mem_nil, or_false, or_self, false_or, true_and, and_true, Nat.reduceEqDiff, reduceCtorEq, List.length_cons, List.length_nil, Nat.reduceAdd, Nat.reduceLeDiff, Nat.reduceSub, Nat.reduceLT, Nat.zero_le, Nat.zero_add, forall_const, not_true_eq_false, not_false_eq_true, false_implies, true_implies, implies_true, Nat.zero_lt_succ, am_z0, am_z1]
  try simp (disch := omega) only [ni_add, ni_in, ni_clamp, hN]
  refine ⟨by omega, by omega, ?_⟩
  refine am_wk (fun v h2 z => ⟨by omega, by omega, ?_⟩) (hb h hI)
  exact am_wk (fun v2 h3 q => ⟨fun _ => hnext h3 q.2, fun ne => absurd q.1 ne⟩) z
theorem lw_order (hR : am_Ret tT E mL_law X (60 + 1) Q) (hN : E.2.2.2 401 = N) (hN2 : N < 100000) (hi : i + 7 ≤ N) (hI : INV k h) (hb : ∀ h, INV k h → BOTH E mX11_order mX12_order [.inl (scr E (i + 1)), .inl (scr E (i + 2)), .inl (scr E (i + 3))] k h) (hnext : ∀ h', INV (k + 1) h' → am_B tT E X (60 + 1) mL_law 1099 [some (.inr 400), some (.inr 0), some (.inr 63), some (.inl (nI i))] [] h') : am_B tT E X (60 + 1) mL_law 981 [some (.inr 400), some (.inr 0), some (.inr 63), some (.inl (nI i))] [] h := by
  refine am_goX (gL_law E) [1099] 400 hR ?_
  simp only [am_eqs, am_eqk, am_eqv, am_eqx, lL_law_28 E, lL_law_29 E, fx_ref, fx_class, ↓reduceIte, List.mem_cons, List.not_mem_nil, or_false, or_self, false_or, true_and, and_true, Nat.reduceEqDiff, reduceCtorEq, List.length_cons, List.length_nil, Nat.reduceAdd, Nat.reduceLeDiff, Nat.reduceSub, Nat.reduceLT, Nat.zero_le, Nat.zero_add, forall_const, not_true_eq_false, not_false_eq_true, false_implies, true_implies, implies_true, Nat.zero_lt_succ, am_z0, am_z1]
  try simp (disch := omega) only [ni_add, ni_in, ni_clamp, hN]
  refine ⟨by omega, by omega, by omega, ?_⟩
  refine am_wk (fun v h2 z => ⟨by omega, by omega, by omega, ?_⟩) (hb h hI)
  exact am_wk (fun v2 h3 q => ⟨fun _ => hnext h3 q.2, fun ne => absurd q.1 ne⟩) z
theorem lw_undo (hR : am_Ret tT E mL_law X (60 + 1) Q) (hN : E.2.2.2 401 = N) (hN2 : N < 100000) (hi : i + 7 ≤ N) (hI : INV k h) (hb : ∀ h, INV k h → BOTH E mX11_undo mX12_undo [] k h) (hnext : ∀ h', INV (k + 1) h' → am_B tT E X (60 + 1) mL_law 1099 [some (.inr 400), some (.inr 0), some (.inr 63), some (.inl (nI i))] [] h') : am_B tT E X (60 + 1) mL_law 1024 [some (.inr 400), some (.inr 0), some (.inr 63), some (.inl (nI i))] [] h := by
  refine am_goX (gL_law E) [1099] 400 hR ?_
  simp only [am_eqs, am_eqk, am_eqv, am_eqx, lL_law_30 E, fx_ref, fx_class, ↓reduceIte, List.mem_cons, List.not_mem_nil, or_false, or_self, false_or, true_and, and_true, Nat.reduceEqDiff, reduceCtorEq, List.length_cons, List.length_nil, Nat.reduceAdd, Nat.reduceLeDiff, Nat.reduceSub, Nat.reduceLT, Nat.zero_le, Nat.zero_add, forall_const, not_true_eq_false, not_false_eq_true, false_implies, true_implies, implies_true, Nat.zero_lt_succ, am_z0, am_z1]
  try simp (disch := omega) only [ni_add, ni_in, ni_clamp, hN]
  refine am_wk (fun v h2 z => ?_) (hb h hI)
  exact am_wk (fun v2 h3 q => ⟨fun _ => hnext h3 q.2, fun ne => absurd q.1 ne⟩) z
theorem lw_look (hR : am_Ret tT E mL_law X (60 + 1) Q) (hN : E.2.2.2 401 = N) (hN2 : N < 100000) (hi : i + 7 ≤ N) (hI : INV k h) (hb : ∀ h, INV k h → BOTH E mX11_look mX12_look [.inl (scr E (i + 1))] k h) (hnext : ∀ h', INV (k + 1) h' → am_B tT E X (60 + 1) mL_law 1099 [some (.inr 400), some (.inr 0), some (.inr 63), some (.inl (nI i))] [] h') : am_B tT E X (60 + 1) mL_law 1076 [some (.inr 400), some (.inr 0), some (.inr 63), some (.inl (nI i))] [] h := by
  refine am_goX (gL_law E) [1099] 400 hR ?_
  simp only [am_eqs, am_eqk, am_eqv, am_eqx, lL_law_31 E, lL_law_32 E, fx_ref, fx_class, ↓reduceIte, List.mem_cons, List.not_mem_nil, or_false, or_self, false_or, true_and, and_true, Nat.reduceEqDiff, reduceCtorEq, List.length_cons, List.length_nil, Nat.reduceAdd, Nat.reduceLeDiff, Nat.reduceSub, Nat.reduceLT, Nat.zero_le, Nat.zero_add, forall_const, not_true_eq_false, not_false_eq_true, false_implies, true_implies, implies_true, Nat.zero_lt_succ, am_z0, am_z1]
  try simp (disch := omega) only [ni_add, ni_in, ni_clamp, hN]
  refine ⟨by omega, ?_⟩
  refine am_wk (fun v h2 z => ⟨by omega, ?_⟩) (hb h hI)
  exact am_wk (fun v2 h3 q => ⟨fun _ => hnext h3 q.2, fun ne => absurd q.1 ne⟩) z
end LAWS
