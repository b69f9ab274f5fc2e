/-! ===== part 99: text of the class ===== -/
def twL : List (Nat × List Nat) → List Nat
  | [] => []
  | l :: r => l.2 ++ (10000 + l.1) :: twL r
theorem twL_snoc {l : Nat × List Nat} : ∀ ls, twL (ls ++ [l]) = twL ls ++ (l.2 ++ [10000 + l.1])
  | [] => by simp [twL]
  | x :: r => by rw [List.cons_append, twL, twL, twL_snoc r]; simp
theorem twL_map : ∀ (lw : Lw), twL (mapL lw) = tkW lw
  | [] => rfl
  | l :: r => by
    have := twL_map r
    simp only [mapL, List.map_cons, twL, tkW] at *
    rw [this]
def F4 (c c' : Nat → Nat → Nat) : Prop := (∀ o, o ≠ 46 → o ≠ 47 → o ≠ 48 → o ≠ 51 → o ≠ 52 → c' o = c o) ∧ ∀ k, k ≠ 1 → k ≠ 2 → k ≠ 7 → k ≠ 8 → c' 46 k = c 46 k
theorem F4.trans {c c1 c2 : Nat → Nat → Nat} (a : F4 c c1) (b : F4 c1 c2) : F4 c c2 := ⟨fun o x y z u v => (b.1 o x y z u v).trans (a.1 o x y z u v), fun k x y z w => (b.2 k x y z w).trans (a.2 k x y z w)⟩
theorem F4.fc {c c1 : Nat → Nat → Nat} (a : FC c c1) : F4 c c1 := ⟨fun o x y z _ _ => a.1 o x y z, a.2.1⟩
section CITEXT
variable {E : am_E} {d : Nat} {h : am_H} {Q : Int32 → am_H → Prop} {c : Nat → Nat → Nat} {T : Nat → Nat} {n cnt : Nat}
theorem c_clear (hq : Q 0 (NH (cup (cup c 47 0 0) 47 1 0))) : am_C tT E d mX3_clear [.inr 47] (NH c) Q := by
  refine am_C.of (by decide) (Nat.le_of_ble_eq_true rfl) ?_
  show am_R tT E _ mX3_clear _ 0 [some (.inr 47)] [] (NH c)
  refine am_goS gX3_clear [] 400 ?_
  simp only [am_eqs, am_eqk, am_eqv, lX3_clear_0, fx_class, NH_at, NH_put, ↓reduceIte, List.mem_cons, List.not_mem_nil, or_false, or_self, false_or, true_and, and_true, Nat.reduceEqDiff, reduceCtorEq, List.length_cons, List.length_nil, Nat.reduceAdd, Nat.reduceLeDiff, Nat.reduceSub, Nat.reduceLT, Nat.zero_le, Nat.zero_add, forall_const, not_true_eq_false, not_false_eq_true, false_implies, true_implies, implies_true, Nat.zero_lt_succ, am_z0, am_z1]
  exact hq
theorem ln_16 {A : Nat → Nat} {i k : Nat} (hv : A i = 10000 ∨ A i = 10001) (h : k = 16) : lnF A i k = .inl (3, i) := by
  unfold lnF
  rw [if_pos hv, if_pos h]
theorem ln_e {A : Nat → Nat} {i k : Nat} {e : Nat × Nat} (hv : A i = 10000 ∨ A i = 10001) (h : ¬ k = 16) (hx : (if A (i + 1) = 10002 then anF A (clF A 8) (i + 2) else .inr (i + 1, [])) = (.inl e : PR)) : lnF A i k = .inl e := by
  unfold lnF
  rw [if_pos hv, if_neg h, hx]
theorem ln_s {A : Nat → Nat} {i k : Nat} {x : Nat × List Nat} (hv : A i = 10000 ∨ A i = 10001) (h : ¬ k = 16) (hx : (if A (i + 1) = 10002 then anF A (clF A 8) (i + 2) else .inr (i + 1, [])) = (.inr x : PR)) : lnF A i k = if A x.1 = 20059 then .inr (x.1 + 1, A i - 10000, x.2) else .inl (1, x.1) := by
  unfold lnF
  rw [if_pos hv, if_neg h, hx]
theorem c_lines {RR : (Nat × Nat) ⊕ List (Nat × List Nat)} (hA : TK T n cnt = tEND) (hc : cnt ≤ 400)
    (h1 : ∀ ls, RR = .inr ls → ∀ c', c' 47 0 = ls.length → c' 47 1 = (twL ls).length → (twL ls).length ≤ 400 → CS (c' 48) (twL ls) 0 → c' 46 1 = 0 → c' 46 2 = 4294967295 → F4 c c' → Q (nI 1) (NH c'))
    (h0 : ∀ e j, RR = .inl (e, j) → ∀ c', c' 46 1 = e → c' 46 2 = POS T n j → F4 c c' → Q (nI 0) (NH c')) :
    ∀ m i k (ls : List (Nat × List Nat)) (c1 : Nat → Nat → Nat) (v2 : Option am_V), cnt < i + m → i ≤ cnt → k ≤ 16 → PSc T n cnt i (twL ls) c1 → (twL ls).length ≤ i → c1 47 0 = k → ls.length = k → F4 c c1 → RR = preL ls (txL (TK T n) m i k) → am_R tT E (d + 23) mX4_read Q 38 [some (.inr 46), some (.inl (nI k)), v2] [] (NH c1) := by
  intro m
  induction m with
  | zero => intro i k ls c1 v2 hm hi; omega
  | succ m ih =>
    intro i k ls c1 v2 hm hi hk hps hlen h470 hlk hf heq
    have htk := hps.tk
    have hb := TK_kind (T := T) (n := n) (i := i)
    have hlt := TKb_lt hb
    rw [txL] at heq
    have bad : ∀ e : Nat, TK T n i ≠ tEND → lnF (TK T n) i k = .inl (e, i) → am_C tT E (d + 22) mX4_refuse [.inr 46, .inl (nI e)] (NH c1) (fun v h' => (v = 0 ∨ v = 1) ∧ Q v h') := by
      intro e hne hl
      rw [if_neg hne, hl] at heq
      refine c_refuse hps hi (by omega) (fun c2 er f2 => ⟨Or.inl rfl, ?_⟩)
      exact h0 e i (by rw [heq]; rfl) c2 er.1 er.2.1 (hf.trans (F4.fc f2))
    refine am_goS gX4_read [77] 400 ?_
    simp only [am_eqs, am_eqk, am_eqv, lX4_read_0, lX4_read_1, lX4_read_2, lX4_read_3, fx_class, NH_at, NH_put, ↓reduceIte, List.mem_cons, List.not_mem_nil, or_false, or_self, false_or, true_and, and_true, Nat.reduceEqDiff, reduceCtorEq, List.length_cons, List.length_nil, Nat.reduceAdd, Nat.reduceLeDiff, Nat.reduceSub, Nat.reduceLT, Nat.zero_le, Nat.zero_add, forall_const, not_true_eq_false, not_false_eq_true, false_implies, true_implies, implies_true, Nat.zero_lt_succ, am_z0, am_z1]
    try simp (disch := omega) only [hs_at, hs_put, hs_63, NH_at, NH_put, NH_cpy, ni_add, ni_mul, ni_clamp, ni_in, ni_eq, ni_lt, ni_le, ni_sub, Nat.reduceAdd, Nat.reduceMul, Nat.reduceSub, eq_self, true_implies, not_true_eq_false, false_implies, and_true, true_and, not_false_eq_true, Nat.reduceEqDiff, Nat.reduceLeDiff, Nat.reduceLT, implies_true, ite_true, ite_false, htk, ni_m1]
    refine ⟨fun z => absurd z (by omega), fun _ => ⟨fun z => ?_, fun z => ?_⟩⟩
    · rw [if_pos (show TK T n i = tEND from z)] at heq
      obtain ⟨-, -, -, e1, hcs, g1, g2⟩ := hps
      refine h1 ls (by rw [heq]; simp [preL]) c1 (by omega) e1 (by omega) hcs g1 g2 hf
    · have hne : TK T n i ≠ tEND := z
      have main : (TK T n i = 10000 ∨ TK T n i = 10001) → am_R tT E (d + 23) mX4_read Q 77 [some (.inr 46), some (.inl (nI k)), some (.inl (nI (TK T n i)))] [] (NH c1) := by
        intro hv
        have hic := lt_cnt (A := TK T n) (P := fun x => x = 10000 ∨ x = 10001) hA (by unfold tEND; omega) hi hv
        refine am_goS gX4_read [117] 400 ?_
        simp only [am_eqs, am_eqk, am_eqv, lX4_read_0, lX4_read_1, lX4_read_2, lX4_read_3, fx_class, NH_at, NH_put, ↓reduceIte, List.mem_cons, List.not_mem_nil, or_false, or_self, false_or, true_and, and_true, Nat.reduceEqDiff, reduceCtorEq, List.length_cons, List.length_nil, Nat.reduceAdd, Nat.reduceLeDiff, Nat.reduceSub, Nat.reduceLT, Nat.zero_le, Nat.zero_add, forall_const, not_true_eq_false, not_false_eq_true, false_implies, true_implies, implies_true, Nat.zero_lt_succ, am_z0, am_z1]
        try simp (disch := omega) only [hs_at, hs_put, hs_63, NH_at, NH_put, NH_cpy, ni_add, ni_mul, ni_clamp, ni_in, ni_eq, ni_lt, ni_le, ni_sub, Nat.reduceAdd, Nat.reduceMul, Nat.reduceSub, eq_self, true_implies, not_true_eq_false, false_implies, and_true, true_and, not_false_eq_true, Nat.reduceEqDiff, Nat.reduceLeDiff, Nat.reduceLT, implies_true, ite_true, ite_false]
        refine ⟨fun z16 => ?_, fun z16 => ?_⟩
        · exact bad 3 hne (ln_16 hv z16)
        · skip
          have tail : ∀ (x : Nat × List Nat) (c3 : Nat → Nat → Nat), (if TK T n (i + 1) = 10002 then anF (TK T n) (clF (TK T n) 8) (i + 2) else .inr (i + 1, [])) = (.inr x : PR) → i < x.1 → x.1 ≤ cnt → (twL ls).length + x.2.length + 1 ≤ x.1 → PSc T n cnt x.1 (twL ls ++ x.2) c3 → FC c1 c3 → am_R tT E (d + 23) mX4_read Q 117 [some (.inr 46), some (.inl (nI k)), some (.inl (nI (TK T n i)))] [] (NH c3) := by
            intro x c3 hx hix hxc hl3 p3 f3
            have eln := ln_s hv z16 hx
            obtain ⟨w, hwd⟩ : ∃ w, w = TK T n i - 10000 := ⟨_, rfl⟩
            rw [← hwd] at eln
            have htk3 := p3.tk
            have hlt3 := TKb_lt (TK_kind (T := T) (n := n) (i := x.1))
            refine am_goS gX4_read [38] 400 ?_
            simp only [am_eqs, am_eqk, am_eqv, lX4_read_0, lX4_read_1, lX4_read_2, lX4_read_3, fx_class, NH_at, NH_put, ↓reduceIte, List.mem_cons, List.not_mem_nil, or_false, or_self, false_or, true_and, and_true, Nat.reduceEqDiff, reduceCtorEq, List.length_cons, List.length_nil, Nat.reduceAdd, Nat.reduceLeDiff, Nat.reduceSub, Nat.reduceLT, Nat.zero_le, Nat.zero_add, forall_const, not_true_eq_false, not_false_eq_true, false_implies, true_implies, implies_true, Nat.zero_lt_succ, am_z0, am_z1]
            try simp (disch := omega) only [hs_at, hs_put, hs_63, NH_at, NH_put, NH_cpy, ni_add, ni_mul, ni_clamp, ni_in, ni_eq, ni_lt, ni_le, ni_sub, Nat.reduceAdd, Nat.reduceMul, Nat.reduceSub, eq_self, true_implies, not_true_eq_false, false_implies, and_true, true_and, not_false_eq_true, Nat.reduceEqDiff, Nat.reduceLeDiff, Nat.reduceLT, implies_true, ite_true, ite_false, htk3]
            refine ⟨fun y => ?_, fun y => ?_⟩
            · rw [if_pos y] at eln
              have hxc2 := lt_cnt (A := TK T n) (P := (· = 20059)) hA (by unfold tEND; omega) hxc y
              refine c_next p3 hxc2 (fun q => by rw [y] at q; unfold tEND at q; omega) (fun c4 p4 f4 => ?_)
              refine c_emitP p4 (by simp only [List.length_append]; omega) (fun c5 p5 f5 => ?_)
              have fall := (f3.trans f4).trans f5
              have k47 : c5 47 0 = k := by rw [fall.2.2 0 (by omega)]; exact h470
              try simp (disch := omega) only [hs_at, hs_put, hs_63, NH_at, NH_put, NH_cpy, ni_add, ni_mul, ni_clamp, ni_in, ni_eq, ni_lt, ni_le, ni_sub, Nat.reduceAdd, Nat.reduceMul, Nat.reduceSub, eq_self, true_implies, not_true_eq_false, false_implies, and_true, true_and, not_false_eq_true, Nat.reduceEqDiff, Nat.reduceLeDiff, Nat.reduceLT, implies_true, ite_true, ite_false, k47]
              rw [if_neg hne, eln] at heq
              simp only at heq
              have e2 : twL ls ++ x.2 ++ [TK T n i] = twL (ls ++ [(w, x.2)]) := by
                have e3 : TK T n i = 10000 + w := by omega
                rw [twL_snoc, List.append_assoc, e3]
              refine ih (x.1 + 1) (k + 1) (ls ++ [(w, x.2)]) _ _ (by omega) (by omega) (by omega) ?_ ?_ ?_ (by simp; omega) ((hf.trans (F4.fc fall)).trans ⟨fun o x1 x2 x3 _ _ => cup_ne _ _ _ x2, fun j _ _ _ _ => by rw [cup_ne _ _ _ (by omega)]⟩) ?_
              · rw [← e2]
                obtain ⟨hA5, e7, e8, e1, hcs, g1, g2⟩ := p5
                refine ⟨hA5.cg (cup_ne _ _ _ (by omega)) (cup_ne _ _ _ (by omega)), ?_, ?_, ?_, ?_, ?_, ?_⟩
                · rw [cup_ne _ _ _ (by omega)]; exact e7
                · rw [cup_ne _ _ _ (by omega)]; exact e8
                · rw [cup_self, nup_ne _ _ (by omega)]; exact e1
                · rw [cup_ne _ _ _ (by omega)]; exact hcs
                · rw [cup_ne _ _ _ (by omega)]; exact g1
                · rw [cup_ne _ _ _ (by omega)]; exact g2
              · rw [← e2]
                simp only [List.length_append, List.length_cons, List.length_nil]
                omega
              · rw [cup_self, nup_self]
              · rw [heq]
                cases txL (TK T n) m (x.1 + 1) (k + 1) with
                | inl e => rfl
                | inr ls' => simp [preL]
            · rw [if_neg y] at eln
              rw [if_neg hne, eln] at heq
              refine c_refuse p3 hxc (by simp only [List.length_append]; omega) (fun c4 er f4 => ⟨Or.inl rfl, ?_⟩)
              exact h0 1 x.1 (by rw [heq]; rfl) c4 er.1 er.2.1 (hf.trans (F4.fc (f3.trans f4)))
          refine c_next hps hic hne (fun c2 p2 f2 => ?_)
          have htk2 := p2.tk
          have hlt2 := TKb_lt (TK_kind (T := T) (n := n) (i := i + 1))
          try simp (disch := omega) only [hs_at, hs_put, hs_63, NH_at, NH_put, NH_cpy, ni_add, ni_mul, ni_clamp, ni_in, ni_eq, ni_lt, ni_le, ni_sub, Nat.reduceAdd, Nat.reduceMul, Nat.reduceSub, eq_self, true_implies, not_true_eq_false, false_implies, and_true, true_and, not_false_eq_true, Nat.reduceEqDiff, Nat.reduceLeDiff, Nat.reduceLT, implies_true, ite_true, ite_false, htk2]
          refine ⟨fun y => ?_, fun y => ?_⟩
          · have hic2 := lt_cnt (A := TK T n) (P := (· = 10002)) hA (by unfold tEND; omega) (show i + 1 ≤ cnt by omega) y
            have han := ctc_cond0 (E := E) (d := d) (T := T) (n := n) (cnt := cnt) hA hc
            have hga := an_gd (A := TK T n) (cnt := cnt) hA (cl_gd hA 8)
            refine c_next p2 hic2 (fun q => by rw [y] at q; unfold tEND at q; omega) (fun c3 p3 f3 => ?_)
            refine han (i + 1 + 1) (twL ls) c3 _ p3 (by omega) (by omega) (fun k1 l1 hk1 c4 p4 f4 => ⟨fun z => absurd z (by decide), fun _ => ?_⟩) (fun e j hk1 c4 er f4 => ⟨fun _ => ?_, fun z => absurd rfl z⟩)
            · obtain ⟨g1, g2, g3⟩ := hga (i + 1 + 1) (by omega) _ _ hk1
              exact tail (k1, l1) c4 (by rw [if_pos y]; exact hk1) (show i < k1 by omega) g2 (by show (twL ls).length + l1.length + 1 ≤ k1; omega) p4 (f2.trans (f3.trans f4))
            · have eln := ln_e (e := (e, j)) hv z16 (by rw [if_pos y]; exact hk1)
              rw [if_neg hne, eln] at heq
              exact h0 e j (by rw [heq]; rfl) c4 er.1 er.2.1 (hf.trans (F4.fc (f2.trans (f3.trans f4))))
          · exact tail (i + 1, []) c2 (by rw [if_neg y]) (show i < i + 1 by omega) (show i + 1 ≤ cnt by omega) (by show (twL ls).length + 0 + 1 ≤ i + 1; omega) (by rw [List.append_nil]; exact p2) f2
      refine ⟨fun y => main (Or.inl y), fun y => ⟨fun y2 => main (Or.inr y2), fun y2 => ?_⟩⟩
      exact bad 1 hne (by unfold lnF; rw [if_neg (fun q => q.elim y y2)])
end CITEXT
