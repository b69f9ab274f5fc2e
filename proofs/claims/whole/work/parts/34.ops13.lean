/-! ===== part 34: set of the class ===== -/
section OPS13
variable {E : am_E} {d : Nat} {h : am_H} {Q : Int32 → am_H → Prop} {g : Nat → Nat} {c : Nat → Nat → Nat} {t : Nat}
theorem ra_field {q f k o : Nat} (hq : q < 8) (hf : f = 0 ∧ o = 7 ∨ f = 1 ∧ o = 8 ∨ f = 4 ∧ o = 10) (hm9 : ∀ q, q < 8 → og g q 2 ≤ 9) (hA : RA g c) : RA (nup g (90 + 16 * q + f) k) (cup c o q k) := by
  obtain ⟨⟨a1, a2, a3, a4, a5, a6, a7⟩, ⟨b1, b2⟩, hk, he⟩ := hA
  have hx : ∀ j, (j < 90 ∨ 218 ≤ j) → nup g (90 + 16 * q + f) k j = g j := fun j hj => nup_ne g _ (by omega)
  have hcell : ∀ o' j, o' ≠ o → cup c o q k o' j = c o' j := fun o' j h1 => by rw [cup_app, if_neg h1]
  have ho : ∀ p f', f' < 16 → og (nup g (90 + 16 * q + f) k) p f' = if p = q ∧ f' = f then k else og g p f' := by
    intro p f' hf'
    unfold og
    rw [nup_app]
    by_cases h1 : p = q ∧ f' = f
    · rw [if_pos (by omega), if_pos h1]
    · rw [if_neg (by omega), if_neg h1]
  have hh : ∀ p, p < 8 → had (nup g (90 + 16 * q + f) k) p = had g p := fun p hp => had_congr (by rw [ho p 2 (by omega), if_neg (by omega)]) (fun i hi => by have := hm9 p hp; rw [ho p _ (by omega), if_neg (by omega)])
  refine ⟨⟨?_, ?_, ?_, ?_, ?_, ?_, ?_⟩, ⟨?_, ?_⟩, ?_, ?_⟩
  · simp (disch := omega) only [hx, hcell]
    exact a1
  · intro i hi; rw [hx _ (by omega), hcell _ _ (by omega)]; exact a2 i hi
  · intro i hi; rw [hx _ (by omega), hcell _ _ (by omega)]; exact a3 i hi
  · intro i hi; rw [hx _ (by omega), hcell _ _ (by omega)]; exact a4 i hi
  · intro i hi; rw [hx _ (by omega), hcell _ _ (by omega)]; exact a5 i hi
  · rw [hx _ (by omega), hcell _ _ (by omega)]; exact a6
  · intro i hi; rw [hx _ (by omega), hcell _ _ (by omega)]; exact a7 i hi
  · rw [hx _ (by omega), hcell _ _ (by omega)]; exact b1
  · intro p hp
    have h9 := hm9 p hp
    obtain ⟨r0, r1, r3, r6, r2, r5⟩ := b2 p hp
    rw [hh p hp, ho p 0 (by omega), ho p 1 (by omega), ho p 2 (by omega), ho p 3 (by omega), if_neg (show ¬ (p = q ∧ 2 = f) by omega), if_neg (show ¬ (p = q ∧ 3 = f) by omega)]
    refine ⟨by grind [cup_app], by grind [cup_app], by grind [cup_app], by grind [cup_app], by grind [cup_app], fun i hi => ?_⟩
    rw [ho p _ (by omega), if_neg (by omega), hcell _ _ (by omega)]
    exact r5 i hi
  · intro b m hb hm
    rw [hx _ (by omega), hcell _ _ (by omega)]
    exact hk b m hb hm
  · intro p hp
    have := he p hp
    rw [ho p 4 (by omega)]
    grind [cup_app]
theorem wf_field {q f k : Nat} (hq : q < 8) (hf : f = 0 ∧ k < 8 ∨ f = 1 ∧ k ≤ 9999 ∨ f = 4 ∧ k < 2 ^ g 0) (hW : WF g t) : WF (nup g (90 + 16 * q + f) k) t := by
  have ho : ∀ p f', f' < 16 → og (nup g (90 + 16 * q + f) k) p f' = if p = q ∧ f' = f then k else og g p f' := by
    intro p f' hf'
    unfold og
    rw [nup_app]
    by_cases h1 : p = q ∧ f' = f
    · rw [if_pos (by omega), if_pos h1]
    · rw [if_neg (by omega), if_neg h1]
  refine wf_people hW (fun j hj => nup_ne g _ (by omega)) (fun p f' hp hf' hf2 => by rw [ho p f' (by omega), if_neg (by omega)]) (fun p hp => ?_)
  obtain ⟨b1, b2, b3, b4, b5, b6, b7⟩ := hW.p hp
  rw [ho p 0 (by omega), ho p 1 (by omega), ho p 3 (by omega), ho p 4 (by omega)]
  refine ⟨?_, ?_, ?_, ?_⟩ <;> (split <;> omega)
theorem wf_set {w p v : Int32} {g' : Nat → Nat} (hs : stS g w p v g') (hW : WF g t) : WF g' t := by
  have w1 := hW.1.2.1
  rcases hs with ⟨-, k, hk, -, rfl⟩ | ⟨-, k, hk, -, rfl⟩ | ⟨-, q, k, hq, -, hk, -, rfl⟩ | ⟨-, q, k, hq, -, hk, -, rfl⟩
  · exact wf_small (by omega) hW
  · exact wf_small (by omega) hW
  · exact wf_field (by omega) (by omega) hW
  · exact wf_field (by omega) (by omega) hW
theorem ci_set {w p v : Int32} (hW : WF g t) (hA : RA g c) (h1 : ∀ g' c', stS g w p v g' → RA g' c' → FR c c' → c' 53 0 = 0 → Q (nI 1) (NH c')) (h0 : (∀ g', ¬ stS g w p v g') → Q (nI 0) (NH c)) : am_C tT E (d + 3) mX11_set [.inr 0, .inl w, .inl p, .inl v] (NH c) Q := by
  have hm9 : ∀ p, p < 8 → og g p 2 ≤ 9 := fun p hp => (hW.p hp).2.2.1
  have e1 : c 6 0 = g 1 := hA.2.1.1
  obtain ⟨⟨w0, w1, w2, w3, w4, w5, w6, w7, w8⟩, -⟩ := hW
  have hne : ∀ a b : Nat, a < 4 → b < 4 → a ≠ b → ¬ nI a = nI b := fun a b ha hb hab => by rw [ni_eq (by omega) (by omega)]; exact hab
  have hfr : ∀ o k x, (0 < o ∧ o ≤ 16) → FR c (cup (cup c o k x) 53 0 0) := by
    intro o k x ho o' h2 h3
    rw [cup_ne _ _ _ h3, cup_ne _ _ _ (by omega)]
  have h53 : ∀ c' : Nat → Nat → Nat, cup c' 53 0 0 53 0 = 0 := fun c' => by rw [cup_app]; simp
  refine am_C.of (by decide) (Nat.le_of_ble_eq_true rfl) ?_
  show am_R tT E _ mX11_set _ 0 [some (.inr 0), some (.inl w), some (.inl p), some (.inl v), none] [] (NH c)
  refine am_goS gX11_set [25] 400 ?_
  simp only [am_eqs, am_eqk, am_eqv, lX11_set_0, fx_class, NH_at, NH_put, ↓reduceIte, List.mem_cons, List.not_mem_nil, or_false, or_self, false_or, true_and, and_true, Nat.reduceEqDiff, reduceCtorEq, List.length_cons, List.length_nil, Nat.reduceAdd, Nat.reduceLeDiff, Nat.reduceSub, Nat.reduceLT, Nat.zero_le, Nat.zero_add, forall_const, not_true_eq_false, not_false_eq_true, false_implies, true_implies, implies_true, Nat.zero_lt_succ, am_z0, am_z1]
  have k25 : ∀ (x : Nat) (c' : Nat → Nat → Nat), (x = 1 ∧ ∃ g', stS g w p v g' ∧ RA g' c' ∧ FR c (cup c' 53 0 0)) ∨ (x = 0 ∧ c' = c ∧ ∀ g', ¬ stS g w p v g') → am_R tT E (d + 3) mX11_set Q 25 [some (.inr 0), some (.inl w), some (.inl p), some (.inl v), none] [.inl (nI x)] (NH c') := by
    intro x c' hx
    refine am_goS gX11_set [] 400 ?_
    simp only [am_eqs, am_eqk, am_eqv, lX11_set_0, fx_class, NH_at, NH_put, ↓reduceIte, List.mem_cons, List.not_mem_nil, or_false, or_self, false_or, true_and, and_true, Nat.reduceEqDiff, reduceCtorEq, List.length_cons, List.length_nil, Nat.reduceAdd, Nat.reduceLeDiff, Nat.reduceSub, Nat.reduceLT, Nat.zero_le, Nat.zero_add, forall_const, not_true_eq_false, not_false_eq_true, false_implies, true_implies, implies_true, Nat.zero_lt_succ, am_z0, am_z1]
    rcases hx with ⟨rfl, g', hs, hA', hF⟩ | ⟨rfl, rfl, hno⟩
    · simp (disch := omega) only [hs_at, hs_put, hs_63, NH_at, NH_put, NH_cpy, ni_add, ni_mul, ni_clamp, ni_in, ni_eq, ni_lt, ni_le, ni_sub, Nat.reduceAdd, Nat.reduceMul, Nat.reduceSub, eq_self, true_implies, not_true_eq_false, false_implies, and_true, true_and, not_false_eq_true, Nat.reduceEqDiff, Nat.reduceLeDiff, Nat.reduceLT, implies_true, ite_true, ite_false]
      exact c_tforget ⟨Or.inr rfl, h1 g' _ hs (ra_c53 hA') hF (h53 _)⟩
    · simp (disch := omega) only [hs_at, hs_put, hs_63, NH_at, NH_put, NH_cpy, ni_add, ni_mul, ni_clamp, ni_in, ni_eq, ni_lt, ni_le, ni_sub, Nat.reduceAdd, Nat.reduceMul, Nat.reduceSub, eq_self, true_implies, not_true_eq_false, false_implies, and_true, true_and, not_false_eq_true, Nat.reduceEqDiff, Nat.reduceLeDiff, Nat.reduceLT, implies_true, ite_true, ite_false]
      exact ⟨Or.inl rfl, h0 hno⟩
  have kall : (w = nI 0 ∨ w = nI 1) → am_C tT E (d + 2) mX11_setForAll [.inr 0, .inl w, .inl v] (NH c) (fun r h' => am_R tT E (d + 3) mX11_set Q 25 [some (.inr 0), some (.inl w), some (.inl p), some (.inl v), none] [.inl r] h') := by
    intro hw
    refine am_C.of (by decide) (Nat.le_of_ble_eq_true rfl) ?_
    show am_R tT E _ mX11_setForAll _ 0 [some (.inr 0), some (.inl w), some (.inl v)] [] (NH c)
    refine am_goS gX11_setForAll [] 400 ?_
    simp only [am_eqs, am_eqk, am_eqv, lX11_setForAll_0, lX11_setForAll_1, fx_class, NH_at, NH_put, ↓reduceIte, List.mem_cons, List.not_mem_nil, or_false, or_self, false_or, true_and, and_true, Nat.reduceEqDiff, reduceCtorEq, List.length_cons, List.length_nil, Nat.reduceAdd, Nat.reduceLeDiff, Nat.reduceSub, Nat.reduceLT, Nat.zero_le, Nat.zero_add, forall_const, not_true_eq_false, not_false_eq_true, false_implies, true_implies, implies_true, Nat.zero_lt_succ, am_z0, am_z1]
    refine ⟨fun e => ?_, fun e => ?_⟩
    · refine c_within (fun z => ?_) (fun z => ?_)
      · obtain ⟨k, hk, rfl⟩ := (isB_c (N := 1000) (by omega)).mp z
        simp (disch := omega) only [hs_at, hs_put, hs_63, NH_at, NH_put, NH_cpy, ni_add, ni_mul, ni_clamp, ni_in, ni_eq, ni_lt, ni_le, ni_sub, Nat.reduceAdd, Nat.reduceMul, Nat.reduceSub, eq_self, true_implies, not_true_eq_false, false_implies, and_true, true_and, not_false_eq_true, Nat.reduceEqDiff, Nat.reduceLeDiff, Nat.reduceLT, implies_true, ite_true, ite_false]
        refine k25 1 _ (Or.inl ⟨rfl, _, Or.inl ⟨e, k, by omega, rfl, rfl⟩, ?_, hfr 1 _ _ (by omega)⟩)
        refine ra_small (by omega) hm9 hA (fun o ho _ => cup_ne c _ _ ho) ?_ (by omega)
        obtain ⟨⟨⟨f5, f6, f7, f3, f0, f4, f8⟩, b2, b3, b4, b5, f2, b7⟩, -⟩ := hA
        refine ⟨?_, ?_, ?_, ?_, ?_, ?_, ?_⟩ <;> grind [cup_app, nup_app]
      · subst e
        simp (disch := omega) only [hs_at, hs_put, hs_63, NH_at, NH_put, NH_cpy, ni_add, ni_mul, ni_clamp, ni_in, ni_eq, ni_lt, ni_le, ni_sub, Nat.reduceAdd, Nat.reduceMul, Nat.reduceSub, eq_self, true_implies, not_true_eq_false, false_implies, and_true, true_and, not_false_eq_true, Nat.reduceEqDiff, Nat.reduceLeDiff, Nat.reduceLT, implies_true, ite_true, ite_false]
        refine k25 0 c (Or.inr ⟨rfl, rfl, fun g' y => ?_⟩)
        rcases y with ⟨-, k, hk, e2, -⟩ | ⟨e3, -⟩ | ⟨e3, -⟩ | ⟨e3, -⟩
        · exact z ((isB_c (N := 1000) (by omega)).mpr ⟨k, by omega, e2⟩)
        · exact hne _ _ (by omega) (by omega) (by omega) e3
        · exact hne _ _ (by omega) (by omega) (by omega) e3
        · exact hne _ _ (by omega) (by omega) (by omega) e3
    · have ew : w = nI 1 := hw.resolve_left e
      refine ⟨fun e2 => ?_, fun e2 => absurd ew e2⟩
      refine c_within (fun z => ?_) (fun z => ?_)
      · obtain ⟨k, hk, rfl⟩ := (isB_c (N := 99) (by omega)).mp z
        simp (disch := omega) only [hs_at, hs_put, hs_63, NH_at, NH_put, NH_cpy, ni_add, ni_mul, ni_clamp, ni_in, ni_eq, ni_lt, ni_le, ni_sub, Nat.reduceAdd, Nat.reduceMul, Nat.reduceSub, eq_self, true_implies, not_true_eq_false, false_implies, and_true, true_and, not_false_eq_true, Nat.reduceEqDiff, Nat.reduceLeDiff, Nat.reduceLT, implies_true, ite_true, ite_false]
        refine k25 1 _ (Or.inl ⟨rfl, _, Or.inr (Or.inl ⟨ew, k, by omega, rfl, rfl⟩), ?_, hfr 1 _ _ (by omega)⟩)
        refine ra_small (by omega) hm9 hA (fun o ho _ => cup_ne c _ _ ho) ?_ (by omega)
        obtain ⟨⟨⟨f5, f6, f7, f3, f0, f4, f8⟩, b2, b3, b4, b5, f2, b7⟩, -⟩ := hA
        refine ⟨?_, ?_, ?_, ?_, ?_, ?_, ?_⟩ <;> grind [cup_app, nup_app]
      · subst ew
        simp (disch := omega) only [hs_at, hs_put, hs_63, NH_at, NH_put, NH_cpy, ni_add, ni_mul, ni_clamp, ni_in, ni_eq, ni_lt, ni_le, ni_sub, Nat.reduceAdd, Nat.reduceMul, Nat.reduceSub, eq_self, true_implies, not_true_eq_false, false_implies, and_true, true_and, not_false_eq_true, Nat.reduceEqDiff, Nat.reduceLeDiff, Nat.reduceLT, implies_true, ite_true, ite_false]
        refine k25 0 c (Or.inr ⟨rfl, rfl, fun g' y => ?_⟩)
        rcases y with ⟨e3, -⟩ | ⟨-, k, hk, e2, -⟩ | ⟨e3, -⟩ | ⟨e3, -⟩
        · exact hne _ _ (by omega) (by omega) (by omega) e3
        · exact z ((isB_c (N := 99) (by omega)).mpr ⟨k, by omega, e2⟩)
        · exact hne _ _ (by omega) (by omega) (by omega) e3
        · exact hne _ _ (by omega) (by omega) (by omega) e3
  refine ⟨fun e => kall (Or.inl e), fun e => ⟨fun e2 => kall (Or.inr e2), fun e2 => ?_⟩⟩
  refine am_C.of (by decide) (Nat.le_of_ble_eq_true rfl) ?_
  show am_R tT E _ mX11_setOfPerson _ 0 [some (.inr 0), some (.inl w), some (.inl p), some (.inl v)] [] (NH c)
  refine am_goS gX11_setOfPerson [44, 71] 400 ?_
  simp only [am_eqs, am_eqk, am_eqv, lX11_setOfPerson_0, lX11_setOfPerson_1, fx_class, NH_at, NH_put, ↓reduceIte, List.mem_cons, List.not_mem_nil, or_false, or_self, false_or, true_and, and_true, Nat.reduceEqDiff, reduceCtorEq, List.length_cons, List.length_nil, Nat.reduceAdd, Nat.reduceLeDiff, Nat.reduceSub, Nat.reduceLT, Nat.zero_le, Nat.zero_add, forall_const, not_true_eq_false, not_false_eq_true, false_implies, true_implies, implies_true, Nat.zero_lt_succ, am_z0, am_z1]
  have hall : ∀ g', stS g w p v g' → (∃ q, q < g 1 ∧ p = nI q) ∧ (w = nI 2 ∧ (∃ k, k ≤ 9999 ∧ v = nI k) ∨ w = nI 3 ∧ ∃ k, k < 8 ∧ v = nI k) := by
    intro g' y
    rcases y with ⟨e3, -⟩ | ⟨e3, -⟩ | ⟨e3, q, k, hq, e4, hk, e5, -⟩ | ⟨e3, q, k, hq, e4, hk, e5, -⟩
    · exact absurd e3 e
    · exact absurd e3 e2
    · exact ⟨⟨q, hq, e4⟩, Or.inl ⟨e3, k, hk, e5⟩⟩
    · exact ⟨⟨q, hq, e4⟩, Or.inr ⟨e3, k, hk, e5⟩⟩
  refine c_isPerson (by omega) (fun z => ?_) (fun z => ?_)
  · rw [e1] at z
    obtain ⟨q, hq, rfl⟩ := z
    simp (disch := omega) only [hs_at, hs_put, hs_63, NH_at, NH_put, NH_cpy, ni_add, ni_mul, ni_clamp, ni_in, ni_eq, ni_lt, ni_le, ni_sub, Nat.reduceAdd, Nat.reduceMul, Nat.reduceSub, eq_self, true_implies, not_true_eq_false, false_implies, and_true, true_and, not_false_eq_true, Nat.reduceEqDiff, Nat.reduceLeDiff, Nat.reduceLT, implies_true, ite_true, ite_false]
    have k71 : (∀ g', ¬ stS g w (nI q) v g') → am_R tT E (d + 2) mX11_setOfPerson (fun r h' => am_R tT E (d + 3) mX11_set Q 25 [some (.inr 0), some (.inl w), some (.inl (nI q)), some (.inl v), none] [.inl r] h') 71 [some (.inr 0), some (.inl w), some (.inl (nI q)), some (.inl v)] [] (NH c) := by
      intro hno
      refine am_goS gX11_setOfPerson [] 400 ?_
      simp only [am_eqs, am_eqk, am_eqv, lX11_setOfPerson_0, lX11_setOfPerson_1, fx_class, NH_at, NH_put, ↓reduceIte, List.mem_cons, List.not_mem_nil, or_false, or_self, false_or, true_and, and_true, Nat.reduceEqDiff, reduceCtorEq, List.length_cons, List.length_nil, Nat.reduceAdd, Nat.reduceLeDiff, Nat.reduceSub, Nat.reduceLT, Nat.zero_le, Nat.zero_add, forall_const, not_true_eq_false, not_false_eq_true, false_implies, true_implies, implies_true, Nat.zero_lt_succ, am_z0, am_z1]
      exact k25 0 c (Or.inr ⟨rfl, rfl, hno⟩)
    have k44 : (∀ g', stS g w (nI q) v g' → w = nI 3) → am_R tT E (d + 2) mX11_setOfPerson (fun r h' => am_R tT E (d + 3) mX11_set Q 25 [some (.inr 0), some (.inl w), some (.inl (nI q)), some (.inl v), none] [.inl r] h') 44 [some (.inr 0), some (.inl w), some (.inl (nI q)), some (.inl v)] [] (NH c) := by
      intro hh
      refine am_goS gX11_setOfPerson [71] 400 ?_
      simp only [am_eqs, am_eqk, am_eqv, lX11_setOfPerson_0, lX11_setOfPerson_1, fx_class, NH_at, NH_put, ↓reduceIte, List.mem_cons, List.not_mem_nil, or_false, or_self, false_or, true_and, and_true, Nat.reduceEqDiff, reduceCtorEq, List.length_cons, List.length_nil, Nat.reduceAdd, Nat.reduceLeDiff, Nat.reduceSub, Nat.reduceLT, Nat.zero_le, Nat.zero_add, forall_const, not_true_eq_false, not_false_eq_true, false_implies, true_implies, implies_true, Nat.zero_lt_succ, am_z0, am_z1]
      refine ⟨fun e3 => ?_, fun e3 => k71 (fun g' y => e3 (hh g' y))⟩
      refine c_isPlace (fun z => ?_) (fun z => ?_)
      · obtain ⟨k, hk, rfl⟩ := z
        simp (disch := omega) only [hs_at, hs_put, hs_63, NH_at, NH_put, NH_cpy, ni_add, ni_mul, ni_clamp, ni_in, ni_eq, ni_lt, ni_le, ni_sub, Nat.reduceAdd, Nat.reduceMul, Nat.reduceSub, eq_self, true_implies, not_true_eq_false, false_implies, and_true, true_and, not_false_eq_true, Nat.reduceEqDiff, Nat.reduceLeDiff, Nat.reduceLT, implies_true, ite_true, ite_false]
        exact ⟨by omega, k25 1 _ (Or.inl ⟨rfl, _, Or.inr (Or.inr (Or.inr ⟨e3, q, k, hq, rfl, hk, rfl, rfl⟩)), ra_field (by omega) (by omega) hm9 hA, hfr 7 _ _ (by omega)⟩)⟩
      · simp (disch := omega) only [hs_at, hs_put, hs_63, NH_at, NH_put, NH_cpy, ni_add, ni_mul, ni_clamp, ni_in, ni_eq, ni_lt, ni_le, ni_sub, Nat.reduceAdd, Nat.reduceMul, Nat.reduceSub, eq_self, true_implies, not_true_eq_false, false_implies, and_true, true_and, not_false_eq_true, Nat.reduceEqDiff, Nat.reduceLeDiff, Nat.reduceLT, implies_true, ite_true, ite_false]
        refine k71 (fun g' y => ?_)
        rcases (hall g' y).2 with ⟨e4, -⟩ | ⟨-, k, hk, e5⟩
        · rw [e3] at e4; exact hne _ _ (by omega) (by omega) (by omega) e4
        · exact z ⟨k, hk, e5⟩
    refine ⟨fun e3 => ?_, fun e3 => k44 (fun g' y => by rcases (hall g' y).2 with q | q; exact absurd q.1 e3; exact q.1)⟩
    refine c_within (fun z => ?_) (fun z => ?_)
    · obtain ⟨k, hk, rfl⟩ := (isB_c (N := 9999) (by omega)).mp z
      simp (disch := omega) only [hs_at, hs_put, hs_63, NH_at, NH_put, NH_cpy, ni_add, ni_mul, ni_clamp, ni_in, ni_eq, ni_lt, ni_le, ni_sub, Nat.reduceAdd, Nat.reduceMul, Nat.reduceSub, eq_self, true_implies, not_true_eq_false, false_implies, and_true, true_and, not_false_eq_true, Nat.reduceEqDiff, Nat.reduceLeDiff, Nat.reduceLT, implies_true, ite_true, ite_false]
      exact ⟨by omega, k25 1 _ (Or.inl ⟨rfl, _, Or.inr (Or.inr (Or.inl ⟨e3, q, k, hq, rfl, by omega, rfl, rfl⟩)), ra_field (by omega) (by omega) hm9 hA, hfr 8 _ _ (by omega)⟩)⟩
    · simp (disch := omega) only [hs_at, hs_put, hs_63, NH_at, NH_put, NH_cpy, ni_add, ni_mul, ni_clamp, ni_in, ni_eq, ni_lt, ni_le, ni_sub, Nat.reduceAdd, Nat.reduceMul, Nat.reduceSub, eq_self, true_implies, not_true_eq_false, false_implies, and_true, true_and, not_false_eq_true, Nat.reduceEqDiff, Nat.reduceLeDiff, Nat.reduceLT, implies_true, ite_true, ite_false]
      refine k44 (fun g' y => ?_)
      rcases (hall g' y).2 with ⟨e4, k, hk, e5⟩ | ⟨e4, -⟩
      · exact absurd ((isB_c (N := 9999) (by omega)).mpr ⟨k, by omega, e5⟩) z
      · exact e4
  · rw [e1] at z
    simp (disch := omega) only [hs_at, hs_put, hs_63, NH_at, NH_put, NH_cpy, ni_add, ni_mul, ni_clamp, ni_in, ni_eq, ni_lt, ni_le, ni_sub, Nat.reduceAdd, Nat.reduceMul, Nat.reduceSub, eq_self, true_implies, not_true_eq_false, false_implies, and_true, true_and, not_false_eq_true, Nat.reduceEqDiff, Nat.reduceLeDiff, Nat.reduceLT, implies_true, ite_true, ite_false]
    exact k25 0 c (Or.inr ⟨rfl, rfl, fun g' y => z (hall g' y).1⟩)
end OPS13
