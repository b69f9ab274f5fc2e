/-! ===== part 27: night of the class; name ===== -/
theorem cup_app (c : Nat → Nat → Nat) (o k v q j : Nat) : cup c o k v q j = if q = o then (if j = k then v else c o j) else c q j := by
  by_cases h : q = o
  · subst h; rw [cup_self, if_pos rfl]; rfl
  · rw [cup_ne c k v h, if_neg h]
theorem nup_app (g : Nat → Nat) (i v j : Nat) : nup g i v j = if j = i then v else g j := rfl
def RA (g : Nat → Nat) (c : Nat → Nat → Nat) : Prop := RW g c ∧ RP g c ∧ RK g c ∧ RE g c
/-- nothing of the class changed but the world of now and the trail -/
def FR (c c' : Nat → Nat → Nat) : Prop := ∀ o, o = 0 ∨ 16 < o → o ≠ 53 → c' o = c o
section OPS7
variable {E : am_E} {d : Nat} {h : am_H} {Q : Int32 → am_H → Prop} {g : Nat → Nat} {c : Nat → Nat → Nat} {t : Nat}
theorem c_someKeeps {n : Nat} (hn : n < 20) (ht : t < 1000000) (hW : WF g t) (hw : RW g c) (hk : RK g c) (h1 : (∃ b, b < g 2 ∧ 0 < g (220 + 20 * b + n)) → Q (nI 1) (NH c)) (h0 : ¬ (∃ b, b < g 2 ∧ 0 < g (220 + 20 * b + n)) → Q (nI 0) (NH c)) : am_C tT E (d + 1) mX2_someKeeps [.inr 14, .inl (nI n)] (NH c) Q := by
  obtain ⟨⟨w0, w1, w2, w3, w4, w5, w6, w7, w8⟩, -, -, -, -, -, wk, -⟩ := hW
  obtain ⟨-, -, -, -, -, e2, -⟩ := hw
  refine am_C.of (by decide) (Nat.le_of_ble_eq_true rfl) ?_
  show am_R tT E _ mX2_someKeeps _ 0 [some (.inr 14), some (.inl (nI n)), none] [] (NH c)
  refine am_goS gX2_someKeeps [2] 400 ?_
  simp only [am_eqs, am_eqk, am_eqv, lX2_someKeeps_0, fx_class, NH_at, NH_put, ↓reduceIte, List.mem_cons, List.not_mem_nil, or_false, or_self, false_or, true_and, and_true, Nat.reduceEqDiff, reduceCtorEq, List.length_cons, List.length_nil, Nat.reduceAdd, Nat.reduceLeDiff, Nat.reduceSub, Nat.reduceLT, Nat.zero_le, Nat.zero_add, forall_const, not_true_eq_false, not_false_eq_true, false_implies, true_implies, implies_true, Nat.zero_lt_succ, am_z0, am_z1]
  have loop : ∀ k b, b + k = g 2 → (∀ b', b' < b → ¬ 0 < g (220 + 20 * b' + n)) → am_R tT E (d + 1) mX2_someKeeps Q 2 [some (.inr 14), some (.inl (nI n)), some (.inl (nI b))] [] (NH c) := by
    intro k
    induction k with
    | zero =>
      intro b hb hno
      refine am_goS gX2_someKeeps [2] 400 ?_
      simp only [am_eqs, am_eqk, am_eqv, lX2_someKeeps_0, fx_class, NH_at, NH_put, ↓reduceIte, List.mem_cons, List.not_mem_nil, or_false, or_self, false_or, true_and, and_true, Nat.reduceEqDiff, reduceCtorEq, List.length_cons, List.length_nil, Nat.reduceAdd, Nat.reduceLeDiff, Nat.reduceSub, Nat.reduceLT, Nat.zero_le, Nat.zero_add, forall_const, not_true_eq_false, not_false_eq_true, false_implies, true_implies, implies_true, Nat.zero_lt_succ, am_z0, am_z1]
      simp (disch := omega) only [hs_at, hs_put, hs_63, NH_at, NH_put, NH_cpy, ni_add, ni_mul, ni_clamp, ni_in, ni_eq, ni_lt, ni_le, ni_sub, Nat.reduceAdd, Nat.reduceMul, Nat.reduceSub, eq_self, true_implies, not_true_eq_false, false_implies, and_true, true_and, not_false_eq_true, Nat.reduceEqDiff, Nat.reduceLeDiff, Nat.reduceLT, implies_true, ite_true, ite_false, e2]
      refine ⟨fun _ => h0 (fun ⟨b', k1, k2⟩ => hno b' (by omega) k2), fun c => absurd c (by omega)⟩
    | succ k ih =>
      intro b hb hno
      have hk1 := wk b n (by omega) (by omega)
      refine am_goS gX2_someKeeps [2] 400 ?_
      simp only [am_eqs, am_eqk, am_eqv, lX2_someKeeps_0, fx_class, NH_at, NH_put, ↓reduceIte, List.mem_cons, List.not_mem_nil, or_false, or_self, false_or, true_and, and_true, Nat.reduceEqDiff, reduceCtorEq, List.length_cons, List.length_nil, Nat.reduceAdd, Nat.reduceLeDiff, Nat.reduceSub, Nat.reduceLT, Nat.zero_le, Nat.zero_add, forall_const, not_true_eq_false, not_false_eq_true, false_implies, true_implies, implies_true, Nat.zero_lt_succ, am_z0, am_z1]
      simp (disch := omega) only [hs_at, hs_put, hs_63, NH_at, NH_put, NH_cpy, ni_add, ni_mul, ni_clamp, ni_in, ni_eq, ni_lt, ni_le, ni_sub, Nat.reduceAdd, Nat.reduceMul, Nat.reduceSub, eq_self, true_implies, not_true_eq_false, false_implies, and_true, true_and, not_false_eq_true, Nat.reduceEqDiff, Nat.reduceLeDiff, Nat.reduceLT, implies_true, ite_true, ite_false, e2]
      refine ⟨fun c => absurd c (by omega), fun _ => c_keptOf (by omega) (by omega) ?_⟩
      rw [hk b n (by omega) (by omega)]
      simp (disch := omega) only [hs_at, hs_put, hs_63, NH_at, NH_put, NH_cpy, ni_add, ni_mul, ni_clamp, ni_in, ni_eq, ni_lt, ni_le, ni_sub, Nat.reduceAdd, Nat.reduceMul, Nat.reduceSub, eq_self, true_implies, not_true_eq_false, false_implies, and_true, true_and, not_false_eq_true, Nat.reduceEqDiff, Nat.reduceLeDiff, Nat.reduceLT, implies_true, ite_true, ite_false]
      refine ⟨fun c => ih (b + 1) (by omega) (fun b' hb' => ?_), fun c => h1 ⟨b, by omega, by omega⟩⟩
      by_cases hbb : b' = b
      · rw [hbb]; omega
      · exact hno b' (by omega)
  exact loop (g 2) 0 (by omega) (fun b' hb' => absurd hb' (by omega))
theorem ci_night {vp vq : Int32} (ht : t < 1000000) (hW : WF g t) (hA : RA g c) (hq : Q (sp_night g vp vq) (NH c)) : am_C tT E (d + 2) mX11_night [.inr 0, .inl vp, .inl vq] (NH c) Q := by
  obtain ⟨hw, hR, hk, he⟩ := hA
  have hW2 := hW
  have hw2 := hw
  obtain ⟨⟨w0, w1, w2, w3, w4, w5, w6, w7, w8⟩, -⟩ := hW
  obtain ⟨⟨e5, e6, e7, e3, e0, e4, e8⟩, -⟩ := hw
  have e1 := hR.1
  refine am_C.of (by decide) (Nat.le_of_ble_eq_true rfl) ?_
  show am_R tT E _ mX11_night _ 0 [some (.inr 0), some (.inl vp), some (.inl vq), none, none, none] [] (NH c)
  refine am_goS gX11_night [88] 400 ?_
  simp only [am_eqs, am_eqk, am_eqv, lX11_night_0, lX11_night_1, lX11_night_2, fx_class, NH_at, NH_put, ↓reduceIte, List.mem_cons, List.not_mem_nil, or_false, or_self, false_or, true_and, and_true, Nat.reduceEqDiff, reduceCtorEq, List.length_cons, List.length_nil, Nat.reduceAdd, Nat.reduceLeDiff, Nat.reduceSub, Nat.reduceLT, Nat.zero_le, Nat.zero_add, forall_const, not_true_eq_false, not_false_eq_true, false_implies, true_implies, implies_true, Nat.zero_lt_succ, am_z0, am_z1]
  refine c_isPerson (by omega) (fun z1 => ?_) (fun z1 => ?_)
  · simp (disch := omega) only [hs_at, hs_put, hs_63, NH_at, NH_put, NH_cpy, ni_add, ni_mul, ni_clamp, ni_in, ni_eq, ni_lt, ni_le, ni_sub, Nat.reduceAdd, Nat.reduceMul, Nat.reduceSub, eq_self, true_implies, not_true_eq_false, false_implies, and_true, true_and, not_false_eq_true, Nat.reduceEqDiff, Nat.reduceLeDiff, Nat.reduceLT, implies_true, ite_true, ite_false]
    refine c_isPerson (by omega) (fun z2 => ?_) (fun z2 => ?_)
    · rw [e1] at z1 z2
      simp (disch := omega) only [hs_at, hs_put, hs_63, NH_at, NH_put, NH_cpy, ni_add, ni_mul, ni_clamp, ni_in, ni_eq, ni_lt, ni_le, ni_sub, Nat.reduceAdd, Nat.reduceMul, Nat.reduceSub, eq_self, true_implies, not_true_eq_false, false_implies, and_true, true_and, not_false_eq_true, Nat.reduceEqDiff, Nat.reduceLeDiff, Nat.reduceLT, implies_true, ite_true, ite_false]
      refine ⟨fun e => ?_, fun e => ?_⟩
      · rw [sp_night, cif_neg (fun q => q.2 e)] at hq
        exact hq
      · rw [sp_night, cif_pos ⟨⟨z1, z2⟩, e⟩] at hq
        obtain ⟨p, hp, rfl⟩ := z1
        obtain ⟨q, hqq, rfl⟩ := z2
        rw [ni_clamp (by omega), ni_clamp (by omega)] at hq
        have hpp := hW2.p (show p < 8 by omega)
        have hpq := hW2.p (show q < 8 by omega)
        have hhq := had_20 w0 hpq
        have hand := Nat.and_le_left (n := had g q) (m := had g p ^^^ 4294967295)
        obtain ⟨-, -, -, q6, q2, -⟩ := hR.2 p (by omega)
        have q6' := (hR.2 q (by omega)).2.2.2.1
        have hm := hpp.2.2.1
        simp (disch := omega) only [hs_at, hs_put, hs_63, NH_at, NH_put, NH_cpy, ni_add, ni_mul, ni_clamp, ni_in, ni_eq, ni_lt, ni_le, ni_sub, Nat.reduceAdd, Nat.reduceMul, Nat.reduceSub, eq_self, true_implies, not_true_eq_false, false_implies, and_true, true_and, not_false_eq_true, Nat.reduceEqDiff, Nat.reduceLeDiff, Nat.reduceLT, implies_true, ite_true, ite_false, q6, q6', ni_m1, ni_xor, ni_and]
        refine ⟨by omega, by omega, ?_⟩
        change am_C tT E (d + 1) mJ6_bitCount_0f7a4 [Sum.inl (nI (lak g p q))] _ _
        have hl : lak g p q < 1048576 := by unfold lak; omega
        refine c_bitCount hl ?_
        simp (disch := omega) only [hs_at, hs_put, hs_63, NH_at, NH_put, NH_cpy, ni_add, ni_mul, ni_clamp, ni_in, ni_eq, ni_lt, ni_le, ni_sub, Nat.reduceAdd, Nat.reduceMul, Nat.reduceSub, eq_self, true_implies, not_true_eq_false, false_implies, and_true, true_and, not_false_eq_true, Nat.reduceEqDiff, Nat.reduceLeDiff, Nat.reduceLT, implies_true, ite_true, ite_false, q2]
        refine ⟨by omega, ?_⟩
        have hn := cnt_le (lak g p q) 20
        simp (disch := omega) only [hs_at, hs_put, hs_63, NH_at, NH_put, NH_cpy, ni_add, ni_mul, ni_clamp, ni_in, ni_eq, ni_lt, ni_le, ni_sub, Nat.reduceAdd, Nat.reduceMul, Nat.reduceSub, eq_self, true_implies, not_true_eq_false, false_implies, and_true, true_and, not_false_eq_true, Nat.reduceEqDiff, Nat.reduceLeDiff, Nat.reduceLT, implies_true, ite_true, ite_false]
        have loop : ∀ k n, n + k = g 0 → og g p 2 + cntK (lak g p q) 20 ≤ 9 → nigOK g (lak g p q) n → am_R tT E (d + 2) mX11_night Q 88 [some (.inr 0), some (.inl (nI p)), some (.inl (nI q)), some (.inl (nI (lak g p q))), some (.inl (nI (cntK (lak g p q) 20))), some (.inl (nI n))] [] (NH c) := by
          intro k
          induction k with
          | zero =>
            intro n hnk h9 hok
            have e : n = g 0 := by omega
            subst e
            refine am_goS gX11_night [88] 400 ?_
            simp only [am_eqs, am_eqk, am_eqv, lX11_night_0, lX11_night_1, lX11_night_2, fx_class, NH_at, NH_put, ↓reduceIte, List.mem_cons, List.not_mem_nil, or_false, or_self, false_or, true_and, and_true, Nat.reduceEqDiff, reduceCtorEq, List.length_cons, List.length_nil, Nat.reduceAdd, Nat.reduceLeDiff, Nat.reduceSub, Nat.reduceLT, Nat.zero_le, Nat.zero_add, forall_const, not_true_eq_false, not_false_eq_true, false_implies, true_implies, implies_true, Nat.zero_lt_succ, am_z0, am_z1]
            simp (disch := omega) only [hs_at, hs_put, hs_63, NH_at, NH_put, NH_cpy, ni_add, ni_mul, ni_clamp, ni_in, ni_eq, ni_lt, ni_le, ni_sub, Nat.reduceAdd, Nat.reduceMul, Nat.reduceSub, eq_self, true_implies, not_true_eq_false, false_implies, and_true, true_and, not_false_eq_true, Nat.reduceEqDiff, Nat.reduceLeDiff, Nat.reduceLT, implies_true, ite_true, ite_false, e0]
            refine ⟨fun _ => ?_, fun c => absurd c (by omega)⟩
            rw [cif_pos ⟨hok, h9⟩] at hq
            exact hq
          | succ k ih =>
            intro n hnk h9 hok
            have hb := bit01 (lak g p q) n
            refine am_goS gX11_night [88] 400 ?_
            simp only [am_eqs, am_eqk, am_eqv, lX11_night_0, lX11_night_1, lX11_night_2, fx_class, NH_at, NH_put, ↓reduceIte, List.mem_cons, List.not_mem_nil, or_false, or_self, false_or, true_and, and_true, Nat.reduceEqDiff, reduceCtorEq, List.length_cons, List.length_nil, Nat.reduceAdd, Nat.reduceLeDiff, Nat.reduceSub, Nat.reduceLT, Nat.zero_le, Nat.zero_add, forall_const, not_true_eq_false, not_false_eq_true, false_implies, true_implies, implies_true, Nat.zero_lt_succ, am_z0, am_z1]
            simp (disch := omega) only [hs_at, hs_put, hs_63, NH_at, NH_put, NH_cpy, ni_add, ni_mul, ni_clamp, ni_in, ni_eq, ni_lt, ni_le, ni_sub, Nat.reduceAdd, Nat.reduceMul, Nat.reduceSub, eq_self, true_implies, not_true_eq_false, false_implies, and_true, true_and, not_false_eq_true, Nat.reduceEqDiff, Nat.reduceLeDiff, Nat.reduceLT, implies_true, ite_true, ite_false, e0, ni_shr, ni_and]
            refine ⟨fun c => absurd c (by omega), fun _ => ⟨fun e0 => ?_, fun e0 => ?_⟩⟩
            · refine ih (n + 1) (by omega) h9 (fun m hm hs1 => ?_)
              by_cases hmn : m = n
              · subst hmn; omega
              · exact hok m (by omega) hs1
            · refine c_someKeeps (by omega) ht hW2 hw2 hk (fun y => ?_) (fun y => ?_)
              · simp (disch := omega) only [hs_at, hs_put, hs_63, NH_at, NH_put, NH_cpy, ni_add, ni_mul, ni_clamp, ni_in, ni_eq, ni_lt, ni_le, ni_sub, Nat.reduceAdd, Nat.reduceMul, Nat.reduceSub, eq_self, true_implies, not_true_eq_false, false_implies, and_true, true_and, not_false_eq_true, Nat.reduceEqDiff, Nat.reduceLeDiff, Nat.reduceLT, implies_true, ite_true, ite_false]
                refine ih (n + 1) (by omega) h9 (fun m hm hs1 => ?_)
                by_cases hmn : m = n
                · subst hmn; exact y
                · exact hok m (by omega) hs1
              · simp (disch := omega) only [hs_at, hs_put, hs_63, NH_at, NH_put, NH_cpy, ni_add, ni_mul, ni_clamp, ni_in, ni_eq, ni_lt, ni_le, ni_sub, Nat.reduceAdd, Nat.reduceMul, Nat.reduceSub, eq_self, true_implies, not_true_eq_false, false_implies, and_true, true_and, not_false_eq_true, Nat.reduceEqDiff, Nat.reduceLeDiff, Nat.reduceLT, implies_true, ite_true, ite_false]
                rw [cif_neg (fun q => y (q.1 n (by omega) (by omega)))] at hq
                exact hq
        refine ⟨fun c => loop (g 0) 0 (by omega) c (fun n hn => absurd hn (by omega)), fun c => ?_⟩
        rw [cif_neg (fun q => c q.2)] at hq
        exact hq
    · rw [e1] at z2
      simp (disch := omega) only [hs_at, hs_put, hs_63, NH_at, NH_put, NH_cpy, ni_add, ni_mul, ni_clamp, ni_in, ni_eq, ni_lt, ni_le, ni_sub, Nat.reduceAdd, Nat.reduceMul, Nat.reduceSub, eq_self, true_implies, not_true_eq_false, false_implies, and_true, true_and, not_false_eq_true, Nat.reduceEqDiff, Nat.reduceLeDiff, Nat.reduceLT, implies_true, ite_true, ite_false]
      rw [sp_night, cif_neg (fun q => z2 q.1.2)] at hq
      exact hq
  · rw [e1] at z1
    simp (disch := omega) only [hs_at, hs_put, hs_63, NH_at, NH_put, NH_cpy, ni_add, ni_mul, ni_clamp, ni_in, ni_eq, ni_lt, ni_le, ni_sub, Nat.reduceAdd, Nat.reduceMul, Nat.reduceSub, eq_self, true_implies, not_true_eq_false, false_implies, and_true, true_and, not_false_eq_true, Nat.reduceEqDiff, Nat.reduceLeDiff, Nat.reduceLT, implies_true, ite_true, ite_false]
    rw [sp_night, cif_neg (fun q => z1 q.1.1)] at hq
    exact hq
theorem c_tforget (hq : Q 0 (NH (cup c 53 0 0))) : am_C tT E d mX8_forget [.inr 53] (NH c) Q := by
  refine am_C.of (by decide) (Nat.le_of_ble_eq_true rfl) ?_
  show am_R tT E _ mX8_forget _ 0 [some (.inr 53)] [] (NH c)
  refine am_goS gX8_forget [] 400 ?_
  simp only [am_eqs, am_eqk, am_eqv, lX8_forget_0, fx_class, NH_at, NH_put, ↓reduceIte, List.mem_cons, List.not_mem_nil, or_false, or_self, false_or, true_and, and_true, Nat.reduceEqDiff, reduceCtorEq, List.length_cons, List.length_nil, Nat.reduceAdd, Nat.reduceLeDiff, Nat.reduceSub, Nat.reduceLT, Nat.zero_le, Nat.zero_add, forall_const, not_true_eq_false, not_false_eq_true, false_implies, true_implies, implies_true, Nat.zero_lt_succ, am_z0, am_z1]
  exact hq
def nmG (g : Nat → Nat) (k l : Nat) : Nat → Nat := nup (nup (nup g (10 + g 0) k) (30 + g 0) l) 0 (g 0 + 1)
def okName (g : Nat → Nat) (a b : Int32) : Prop := (nI 0 ≤ a ∧ a ≤ nI 3) ∧ (nI 1 ≤ b ∧ b ≤ nI 12) ∧ g 0 < 20
theorem ri_name {a b : Int32} (hW : WF g t) (h1 : okName g a b → ∀ k l, k ≤ 3 → l ≤ 12 → a = nI k → b = nI l → Q (nI (g 0)) (hs (am_upd h 63 4 (nI 0)) (nmG g k l))) (h0 : ¬ okName g a b → Q (-1) (hs h g)) : am_C tT E (d + 1) mX12_name [.inr 63, .inl a, .inl b] (hs h g) Q := by
  obtain ⟨⟨w0, w1, w2, w3, w4, w5, w6, w7, w8⟩, -⟩ := hW
  refine am_C.of (by decide) (Nat.le_of_ble_eq_true rfl) ?_
  show am_R tT E _ mX12_name _ 0 [some (.inr 63), some (.inl a), some (.inl b)] [] (hs h g)
  refine am_goS gX12_name [] 400 ?_
  simp only [am_eqs, am_eqk, am_eqv, lX12_name_0, lX12_name_1, lX12_name_2, fx_ref, ↓reduceIte, List.mem_cons, List.not_mem_nil, or_false, or_self, false_or, true_and, and_true, Nat.reduceEqDiff, reduceCtorEq, List.length_cons, List.length_nil, Nat.reduceAdd, Nat.reduceLeDiff, Nat.reduceSub, Nat.reduceLT, Nat.zero_le, Nat.zero_add, forall_const, not_true_eq_false, not_false_eq_true, false_implies, true_implies, implies_true, Nat.zero_lt_succ, am_z0, am_z1]
  refine r_isIn (fun z1 => ?_) (fun z1 => ?_)
  · simp (disch := omega) only [hs_at, hs_put, hs_63, NH_at, NH_put, NH_cpy, ni_add, ni_mul, ni_clamp, ni_in, ni_eq, ni_lt, ni_le, ni_sub, Nat.reduceAdd, Nat.reduceMul, Nat.reduceSub, eq_self, true_implies, not_true_eq_false, false_implies, and_true, true_and, not_false_eq_true, Nat.reduceEqDiff, Nat.reduceLeDiff, Nat.reduceLT, implies_true, ite_true, ite_false]
    refine r_isIn (fun z2 => ?_) (fun z2 => ?_)
    · simp (disch := omega) only [hs_at, hs_put, hs_63, NH_at, NH_put, NH_cpy, ni_add, ni_mul, ni_clamp, ni_in, ni_eq, ni_lt, ni_le, ni_sub, Nat.reduceAdd, Nat.reduceMul, Nat.reduceSub, eq_self, true_implies, not_true_eq_false, false_implies, and_true, true_and, not_false_eq_true, Nat.reduceEqDiff, Nat.reduceLeDiff, Nat.reduceLT, implies_true, ite_true, ite_false]
      refine ⟨fun e => h0 (fun q => by have := q.2.2; omega), fun e => ?_⟩
      have hh1 := h1 ⟨z1, z2, by omega⟩
      obtain ⟨k, hk, rfl⟩ := (isB_c (N := 3) (by omega)).mp z1
      obtain ⟨l, hl, rfl⟩ := (isR (a := 1) (n := 12) (by omega) (by omega)).mp z2
      have hh1 := hh1 k (1 + l) (by omega) (by omega) rfl rfl
      simp (disch := omega) only [hs_at, hs_put, hs_63, NH_at, NH_put, NH_cpy, ni_add, ni_mul, ni_clamp, ni_in, ni_eq, ni_lt, ni_le, ni_sub, Nat.reduceAdd, Nat.reduceMul, Nat.reduceSub, eq_self, true_implies, not_true_eq_false, false_implies, and_true, true_and, not_false_eq_true, Nat.reduceEqDiff, Nat.reduceLeDiff, Nat.reduceLT, implies_true, ite_true, ite_false, nup_self, nup_ne, cup_self, cup_ne]
      refine ⟨by omega, by omega, r_forgets ?_⟩
      simp (disch := omega) only [hs_at, hs_put, hs_63, NH_at, NH_put, NH_cpy, ni_add, ni_mul, ni_clamp, ni_in, ni_eq, ni_lt, ni_le, ni_sub, Nat.reduceAdd, Nat.reduceMul, Nat.reduceSub, eq_self, true_implies, not_true_eq_false, false_implies, and_true, true_and, not_false_eq_true, Nat.reduceEqDiff, Nat.reduceLeDiff, Nat.reduceLT, implies_true, ite_true, ite_false, nup_self, nup_ne, cup_self, cup_ne]
      exact hh1
    · simp (disch := omega) only [hs_at, hs_put, hs_63, NH_at, NH_put, NH_cpy, ni_add, ni_mul, ni_clamp, ni_in, ni_eq, ni_lt, ni_le, ni_sub, Nat.reduceAdd, Nat.reduceMul, Nat.reduceSub, eq_self, true_implies, not_true_eq_false, false_implies, and_true, true_and, not_false_eq_true, Nat.reduceEqDiff, Nat.reduceLeDiff, Nat.reduceLT, implies_true, ite_true, ite_false]
      exact h0 (fun q => z2 q.2.1)
  · simp (disch := omega) only [hs_at, hs_put, hs_63, NH_at, NH_put, NH_cpy, ni_add, ni_mul, ni_clamp, ni_in, ni_eq, ni_lt, ni_le, ni_sub, Nat.reduceAdd, Nat.reduceMul, Nat.reduceSub, eq_self, true_implies, not_true_eq_false, false_implies, and_true, true_and, not_false_eq_true, Nat.reduceEqDiff, Nat.reduceLeDiff, Nat.reduceLT, implies_true, ite_true, ite_false]
    exact h0 (fun q => z1 q.1)
theorem ra_name {k l : Nat} (hg : g 0 < 20) (hA : RA g c) : RA (nmG g k l) (cup (cup (cup (cup c 53 0 0) 2 (g 0) k) 3 (g 0) l) 1 4 (g 0 + 1)) := by
  obtain ⟨⟨a1, a2, a3, a4, a5, a6, a7⟩, ⟨b1, b2⟩, hk, he⟩ := hA
  unfold nmG
  refine ⟨⟨?_, ?_, ?_, ?_, ?_, ?_, ?_⟩, ⟨?_, ?_⟩, ?_, ?_⟩
  · grind [cup_app, nup_app]
  · grind [cup_app, nup_app]
  · grind [cup_app, nup_app]
  · grind [cup_app, nup_app]
  · grind [cup_app, nup_app]
  · grind [cup_app, nup_app]
  · grind [cup_app, nup_app]
  · grind [cup_app, nup_app]
  · have ho : ∀ p f, og (nup (nup (nup g (10 + g 0) k) (30 + g 0) l) 0 (g 0 + 1)) p f = og g p f := by
      intro p f
      grind [nup_app, og]
    have hh : ∀ p, had (nup (nup (nup g (10 + g 0) k) (30 + g 0) l) 0 (g 0 + 1)) p = had g p := by
      intro p
      have : ∀ k', hadK (nup (nup (nup g (10 + g 0) k) (30 + g 0) l) 0 (g 0 + 1)) p k' = hadK g p k' := by
        intro k'
        induction k' with
        | zero => rfl
        | succ k' ih => simp only [hadK, ih, ho]
      unfold had
      rw [ho, this]
    intro p hp
    simp only [ho, hh]
    grind [cup_app]
  · intro b n hb hn
    grind [cup_app, nup_app, RK]
  · intro p hp
    have := he p hp
    grind [cup_app, nup_app, og]
end OPS7
