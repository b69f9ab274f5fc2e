/-! ===== part 63: the reference's plan, the search ===== -/
/-- the first of the names from k on, n of them, that brings something -/
noncomputable def fsF {α : Type} (F : Nat → Option α) : Nat → Nat → Option α
  | 0, _ => none
  | n + 1, k => match F k with
    | some x => some x
    | none => fsF F n (k + 1)
noncomputable def plF (g : Nat → Nat) (lw : Lw) (p : Nat) : Nat → List Nat → Nat → Option (List Nat)
  | 0, ch, _ => cif (rdOK g lw p ch) (some ch) none
  | r + 1, ch, fr => fsF (fun k => cif (hasN g p k) none (plF g lw p r (ch ++ [k]) (k + 1))) (g 0 - fr) fr
section RPL3
variable {E : am_E} {d : Nat} {h : am_H} {Q : Int32 → am_H → Prop} {g g0 : Nat → Nat} {c : Nat → Nat → Nat} {t : Nat}
theorem WA_pre {A : Nat → Int32} : ∀ (ch l : List Nat) (k : Nat), WA A (ch ++ l) k → WA A ch k
  | [], _, _, _ => trivial
  | _ :: r, l, k, h => ⟨h.1, WA_pre r l (k + 1) h.2⟩
theorem r_isPlanned {lw : Lw} {p n : Nat} (hp : p < g 1) (hW : WF g t) (hL : LRl g lw 0 0) (hok : LOK lw) (hcw : cwG g (rbF g (g 8) 0) (og g p 0)) (h9 : og g p 2 + n ≤ 9) (hn3 : n ≤ 3) :
    ∀ (r : Nat) (ch : List Nat) (fr dd : Nat) (h : am_H) (Q : Int32 → am_H → Prop), dd = d + 5 + r → ch.length + r = n → fr ≤ g 0 → okC g p fr ch 0 → WA (h 75) ch 0 →
      (∀ l, plF g lw p r ch fr = some l → ∀ h' : am_H, (∀ q, q ≠ 67 → q ≠ 71 → q ≠ 72 → q ≠ 75 → h' q = h q) → WA (h' 75) l 0 → l.length = n → Q (nI 1) (hs h' g)) →
      (plF g lw p r ch fr = none → ∀ h' : am_H, (∀ q, q ≠ 67 → q ≠ 71 → q ≠ 72 → q ≠ 75 → h' q = h q) → WA (h' 75) ch 0 → Q (nI 0) (hs h' g)) →
      am_C tT E dd mX12_isPlanned [.inr 63, .inl (nI p), .inl (nI ch.length), .inl (nI n), .inl (nI fr)] (hs h g) Q := by
  have w0 := hW.1.1
  have w1 := hW.1.2.1
  have hpe := hW.p (show p < 8 by omega)
  intro r
  induction r with
  | zero =>
    intro ch fr dd h Q hdd hln hfr hc hwa h1 h0
    subst hdd
    refine am_C.of (by decide) (Nat.le_of_ble_eq_true rfl) ?_
    show am_R tT E _ mX12_isPlanned _ 0 [some (.inr 63), some (.inl (nI p)), some (.inl (nI ch.length)), some (.inl (nI n)), some (.inl (nI fr)), none] [] (hs h g)
    refine r_leaf (ch := ch) (fr := fr) (by omega) hp hW hL hok hcw h9 hc hwa (by omega) hn3 (fun z h' hf => ?_) (fun z h' hf => ?_)
    · refine h1 ch (by rw [plF, cif_pos z]) h' (fun q a b c _ => hf q a b c) (by rw [hf 75 (by omega) (by omega) (by omega)]; exact hwa) (by omega)
    · refine h0 (by rw [plF, cif_neg z]) h' (fun q a b c _ => hf q a b c) (by rw [hf 75 (by omega) (by omega) (by omega)]; exact hwa)
  | succ r ih =>
    intro ch fr dd h Q hdd hln hfr hc hwa h1 h0
    obtain ⟨d2, hd2⟩ : ∃ d2, dd = d2 + 1 + 1 := ⟨d + 4 + r, by omega⟩
    subst hd2
    have ih' := fun (ch : List Nat) (fr : Nat) (h : am_H) (Q : Int32 → am_H → Prop) => ih ch fr (d2 + 1) h Q (by omega)
    rw [plF] at h1 h0
    generalize hF : (fun k => cif (hasN g p k) none (plF g lw p r (ch ++ [k]) (k + 1))) = F at h1 h0
    have hFk : ∀ k, F k = cif (hasN g p k) none (plF g lw p r (ch ++ [k]) (k + 1)) := fun k => by rw [← hF]
    refine am_C.of (by decide) (Nat.le_of_ble_eq_true rfl) ?_
    show am_R tT E _ mX12_isPlanned _ 0 [some (.inr 63), some (.inl (nI p)), some (.inl (nI ch.length)), some (.inl (nI n)), some (.inl (nI fr)), none] [] (hs h g)
    refine am_goS gX12_isPlanned [13, 56] 400 ?_
    simp only [am_eqs, am_eqk, am_eqv, lX12_isPlanned_0, lX12_isPlanned_1, lX12_isPlanned_2, fx_ref, ↓reduceIte, List.mem_cons, List.not_mem_nil, or_false, or_self, false_or, true_and, and_true, Nat.reduceEqDiff, reduceCtorEq, List.length_cons, List.length_nil, Nat.reduceAdd, Nat.reduceLeDiff, Nat.reduceSub, Nat.reduceLT, Nat.zero_le, Nat.zero_add, forall_const, not_true_eq_false, not_false_eq_true, false_implies, true_implies, implies_true, Nat.zero_lt_succ, am_z0, am_z1]
    simp (disch := omega) only [hs_at, hs_put, hs_63, NH_at, NH_put, NH_cpy, ni_add, ni_mul, ni_clamp, ni_in, ni_eq, ni_lt, ni_le, ni_sub, Nat.reduceAdd, Nat.reduceMul, Nat.reduceSub, eq_self, true_implies, not_true_eq_false, false_implies, and_true, true_and, not_false_eq_true, Nat.reduceEqDiff, Nat.reduceLeDiff, Nat.reduceLT, implies_true, ite_true, ite_false]
    refine ⟨fun z => absurd z (by omega), fun _ => ?_⟩
    have loop : ∀ m k (h' : am_H), k + m = g 0 → fr ≤ k → fsF F m k = fsF F (g 0 - fr) fr → (∀ q, q ≠ 67 → q ≠ 71 → q ≠ 72 → q ≠ 75 → h' q = h q) → WA (h' 75) ch 0 → am_R tT E (d2 + 1 + 1) mX12_isPlanned Q 56 [some (.inr 63), some (.inl (nI p)), some (.inl (nI ch.length)), some (.inl (nI n)), some (.inl (nI fr)), some (.inl (nI k))] [] (hs h' g) := by
      intro m
      induction m with
      | zero =>
        intro k h' hk hfk hfs hf hw
        have e : k = g 0 := by omega
        refine am_goS gX12_isPlanned [13, 56] 400 ?_
        simp only [am_eqs, am_eqk, am_eqv, lX12_isPlanned_0, lX12_isPlanned_1, lX12_isPlanned_2, fx_ref, ↓reduceIte, List.mem_cons, List.not_mem_nil, or_false, or_self, false_or, true_and, and_true, Nat.reduceEqDiff, reduceCtorEq, List.length_cons, List.length_nil, Nat.reduceAdd, Nat.reduceLeDiff, Nat.reduceSub, Nat.reduceLT, Nat.zero_le, Nat.zero_add, forall_const, not_true_eq_false, not_false_eq_true, false_implies, true_implies, implies_true, Nat.zero_lt_succ, am_z0, am_z1]
        simp (disch := omega) only [hs_at, hs_put, hs_63, NH_at, NH_put, NH_cpy, ni_add, ni_mul, ni_clamp, ni_in, ni_eq, ni_lt, ni_le, ni_sub, Nat.reduceAdd, Nat.reduceMul, Nat.reduceSub, eq_self, true_implies, not_true_eq_false, false_implies, and_true, true_and, not_false_eq_true, Nat.reduceEqDiff, Nat.reduceLeDiff, Nat.reduceLT, implies_true, ite_true, ite_false]
        exact ⟨fun _ => h0 (by rw [← hfs]; rfl) h' hf hw, fun z => absurd z (by omega)⟩
      | succ m ihm =>
        intro k h' hk hfk hfs hf hw
        rw [fsF, hFk] at hfs
        refine am_goS gX12_isPlanned [13, 56] 400 ?_
        simp only [am_eqs, am_eqk, am_eqv, lX12_isPlanned_0, lX12_isPlanned_1, lX12_isPlanned_2, fx_ref, ↓reduceIte, List.mem_cons, List.not_mem_nil, or_false, or_self, false_or, true_and, and_true, Nat.reduceEqDiff, reduceCtorEq, List.length_cons, List.length_nil, Nat.reduceAdd, Nat.reduceLeDiff, Nat.reduceSub, Nat.reduceLT, Nat.zero_le, Nat.zero_add, forall_const, not_true_eq_false, not_false_eq_true, false_implies, true_implies, implies_true, Nat.zero_lt_succ, am_z0, am_z1]
        simp (disch := omega) only [hs_at, hs_put, hs_63, NH_at, NH_put, NH_cpy, ni_add, ni_mul, ni_clamp, ni_in, ni_eq, ni_lt, ni_le, ni_sub, Nat.reduceAdd, Nat.reduceMul, Nat.reduceSub, eq_self, true_implies, not_true_eq_false, false_implies, and_true, true_and, not_false_eq_true, Nat.reduceEqDiff, Nat.reduceLeDiff, Nat.reduceLT, implies_true, ite_true, ite_false]
        refine ⟨fun z => absurd z (by omega), fun _ => ?_⟩
        refine r_has (by omega) (by omega) hpe.2.2.1 (hpe.r31 w0) (fun y => ?_) (fun y => ?_)
        · simp (disch := omega) only [hs_at, hs_put, hs_63, NH_at, NH_put, NH_cpy, ni_add, ni_mul, ni_clamp, ni_in, ni_eq, ni_lt, ni_le, ni_sub, Nat.reduceAdd, Nat.reduceMul, Nat.reduceSub, eq_self, true_implies, not_true_eq_false, false_implies, and_true, true_and, not_false_eq_true, Nat.reduceEqDiff, Nat.reduceLeDiff, Nat.reduceLT, implies_true, ite_true, ite_false]
          rw [cif_pos y] at hfs
          exact ihm (k + 1) h' (by omega) (by omega) hfs hf hw
        · simp (disch := omega) only [hs_at, hs_put, hs_63, NH_at, NH_put, NH_cpy, ni_add, ni_mul, ni_clamp, ni_in, ni_eq, ni_lt, ni_le, ni_sub, Nat.reduceAdd, Nat.reduceMul, Nat.reduceSub, eq_self, true_implies, not_true_eq_false, false_implies, and_true, true_and, not_false_eq_true, Nat.reduceEqDiff, Nat.reduceLeDiff, Nat.reduceLT, implies_true, ite_true, ite_false, hs_upo]
          rw [cif_neg y] at hfs
          refine ⟨by omega, ?_⟩
          have hlen : (ch ++ [k]).length = ch.length + 1 := by simp
          have := ih' (ch ++ [k]) (k + 1) (am_upd h' 75 ch.length (nI k))
          rw [hlen] at this
          refine this _ (by omega) (by omega) (okC_snoc ch 0 hc hfk (by omega) y) ?_ (fun l hl h3 f3 wl ll => ?_) (fun hl h3 f3 wl => ?_)
          · rw [am_upd_self]
            refine WA_snoc ch 0 (WA_upd ch 0 (by omega) hw) ?_
            simp [upd]
          · simp (disch := omega) only [hs_at, hs_put, hs_63, NH_at, NH_put, NH_cpy, ni_add, ni_mul, ni_clamp, ni_in, ni_eq, ni_lt, ni_le, ni_sub, Nat.reduceAdd, Nat.reduceMul, Nat.reduceSub, eq_self, true_implies, not_true_eq_false, false_implies, and_true, true_and, not_false_eq_true, Nat.reduceEqDiff, Nat.reduceLeDiff, Nat.reduceLT, implies_true, ite_true, ite_false]
            rw [hl] at hfs
            exact h1 l hfs.symm h3 (fun q a b c e => by rw [f3 q a b c e, am_upd_ne _ _ _ e]; exact hf q a b c e) wl ll
          · simp (disch := omega) only [hs_at, hs_put, hs_63, NH_at, NH_put, NH_cpy, ni_add, ni_mul, ni_clamp, ni_in, ni_eq, ni_lt, ni_le, ni_sub, Nat.reduceAdd, Nat.reduceMul, Nat.reduceSub, eq_self, true_implies, not_true_eq_false, false_implies, and_true, true_and, not_false_eq_true, Nat.reduceEqDiff, Nat.reduceLeDiff, Nat.reduceLT, implies_true, ite_true, ite_false]
            rw [hl] at hfs
            refine ihm (k + 1) h3 (by omega) (by omega) hfs (fun q a b c e => by rw [f3 q a b c e, am_upd_ne _ _ _ e]; exact hf q a b c e) ?_
            exact WA_pre ch [k] 0 wl
    exact loop (g 0 - fr) fr h (by omega) (Nat.le_refl _) rfl (fun _ _ _ _ _ => rfl) hwa
end RPL3
