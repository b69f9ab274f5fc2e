/-! ===== part 80: text constants: length, charAt, indexOf ===== -/
theorem am_one {T : am_T} {E : am_E} {M : am_M} {d pc : Nat} {Q : Int32 → am_H → Prop} {L : am_L} {S : List am_V} {h : am_H} {a : am_Act} (ha : am_Ok T E M pc a) (hr : a d (am_Cd T E d) Q L S h (am_R T E d M Q)) : am_R T E d M Q pc L S h := ha (am_mX T E d M Q) d Q L S h _ am_ret_m (fun _ _ _ _ z => z) hr
theorem wd_siof : Cond.fieldLink "java/lang/String" 1053 "jdk/internal/util/Preconditions" "SIOOBE_FORMATTER" "Ljava/util/function/BiFunction;" ∈ tbw := am_in_3 87 rfl rfl
theorem am_eqt {d : Nat} {C : am_Ct} {Q : Int32 → am_H → Prop} :
    (∀ (n : Nat) (L : am_L) (S : List am_V) (h : am_H) (K : am_Kt), a_gst n d C Q L S h K = K n L (.inl 1 :: S) h) ∧
    (∀ (n o : Nat) (L : am_L) (r : List am_V) (h : am_H) (K : am_Kt), a_gsv tT n d C Q L (.inr o :: r) h K = (200 ≤ o ∧ o - 200 < 16 ∧ K n L (.inr (100 + o) :: r) h)) ∧
    (∀ (n o : Nat) (L : am_L) (r : List am_V) (h : am_H) (K : am_Kt), a_gsc tT n d C Q L (.inr o :: r) h K = (200 ≤ o ∧ o - 200 < 16 ∧ K n L (.inl 0 :: r) h)) ∧
    (∀ (n o : Nat) (i : Int32) (L : am_L) (r : List am_V) (h : am_H) (K : am_Kt), a_bald tT n d C Q L (.inl i :: .inr o :: r) h K = (300 ≤ o ∧ o - 300 < 16 ∧ vp_in i (tlen.getD (o - 300) 0) ∧ K n L (.inl ((tbyt.getD (o - 300) []).getD i.toNatClampNeg 0) :: r) h)) ∧
    (∀ (n o : Nat) (L : am_L) (r : List am_V) (h : am_H) (K : am_Kt), a_blen tT n d C Q L (.inr o :: r) h K = (300 ≤ o ∧ o - 300 < 16 ∧ K n L (.inl (nI (tlen.getD (o - 300) 0)) :: r) h)) ∧
    (∀ (M' : am_M) (n o : Nat) (L : am_L) (r : List am_V) (h : am_H) (K : am_Kt), a_cvS tT M' 0 n d C Q L (.inr o :: r) h K = (200 ≤ o ∧ o - 200 < 16 ∧ r.length ≤ 8 ∧ C M' [.inr o] h (fun v h' => K n L (.inl v :: r) h'))) ∧
    (∀ (M' : am_M) (n o : Nat) (x : am_V) (L : am_L) (r : List am_V) (h : am_H) (K : am_Kt), a_cvS tT M' 1 n d C Q L (x :: .inr o :: r) h K = (200 ≤ o ∧ o - 200 < 16 ∧ r.length ≤ 8 ∧ C M' [.inr o, x] h (fun v h' => K n L (.inl v :: r) h'))) ∧
    (∀ (M' : am_M) (n o : Nat) (x y : am_V) (L : am_L) (r : List am_V) (h : am_H) (K : am_Kt), a_cvS tT M' 2 n d C Q L (y :: x :: .inr o :: r) h K = (200 ≤ o ∧ o - 200 < 16 ∧ r.length ≤ 8 ∧ C M' [.inr o, x, y] h (fun v h' => K n L (.inl v :: r) h'))) ∧
    (∀ (ty : FieldType) (v : Int32) (L : am_L) (h : am_H) (K : am_Kt), a_nret ty d C Q L [.inl v] h K = (narrow ty (.int v) = .int v ∧ Q v h)) := ⟨fun _ _ _ _ _ => rfl, fun _ _ _ _ _ _ => rfl, fun _ _ _ _ _ _ => rfl, fun _ _ _ _ _ _ _ => rfl, fun _ _ _ _ _ _ => rfl, fun _ _ _ _ _ _ _ => rfl, fun _ _ _ _ _ _ _ _ => rfl, fun _ _ _ _ _ _ _ _ _ => rfl, fun _ _ _ _ _ => rfl⟩
section STRS
variable {E : am_E} {d : Nat} {h : am_H} {Q : Int32 → am_H → Prop}
theorem dJ3_0 : decode cJ3_checkIndex_8e157 0 = .ok (.iload_n 0, 1) := by decide +kernel
theorem dJ3_1 : decode cJ3_checkIndex_8e157 1 = .ok (.ifCond .lt 8, 3) := by decide +kernel
theorem dJ3_4 : decode cJ3_checkIndex_8e157 4 = .ok (.iload_n 0, 1) := by decide +kernel
theorem dJ3_5 : decode cJ3_checkIndex_8e157 5 = .ok (.iload_n 1, 1) := by decide +kernel
theorem dJ3_6 : decode cJ3_checkIndex_8e157 6 = .ok (.if_icmp .lt 10, 3) := by decide +kernel
theorem dJ3_16 : decode cJ3_checkIndex_8e157 16 = .ok (.iload_n 0, 1) := by decide +kernel
theorem dJ3_17 : decode cJ3_checkIndex_8e157 17 = .ok (.ireturn, 1) := by decide +kernel
theorem c_chkR {i n : Nat} (hi : i < n) (hn : n < 2147483648) (hq : Q (nI i) h) : am_R tT E d mJ3_checkIndex_8e157 Q 0 [some (.inl (nI i)), some (.inl (nI n)), none] [] h := by
  refine am_one (ok_iload_n dJ3_0 rfl rfl) ?_
  change am_R _ _ _ _ _ _ _ _ _
  refine am_one (ok_if_lt dJ3_1 rfl rfl) ⟨fun z => absurd z (nI_pos (show i < 2147483648 by omega)), fun _ => ?_⟩
  refine am_one (ok_iload_n dJ3_4 rfl rfl) ?_
  change am_R _ _ _ _ _ _ _ _ _
  refine am_one (ok_iload_n dJ3_5 rfl rfl) ?_
  change am_R _ _ _ _ _ _ _ _ _
  refine am_one (ok_cmp_lt (t := 16) dJ3_6 rfl rfl) ⟨fun _ => ?_, fun z => absurd (show nI i < nI n by rw [ni_lt (by omega) (by omega)]; exact hi) z⟩
  refine am_one (ok_iload_n dJ3_16 rfl rfl) ?_
  change am_R _ _ _ _ _ _ _ _ _
  exact am_one (ok_iret rfl dJ3_17) hq
/-- the third argument is a reference or null, and is not looked at -/
theorem c_chkM {i n : Nat} {v : Value} (hv : v.isRef = true) (hi : i < n) (hn : n < 2147483648) (hq : Q (nI i) h) : Met E.1 mJ3_checkIndex_8e157.1 [.code mJ3_checkIndex_8e157.1 mJ3_checkIndex_8e157.2.1 mJ3_checkIndex_8e157.2.2.1 mJ3_checkIndex_8e157.2.2.2] (am_rm d) (va_Pc [.int (nI i), .int (nI n), v] (fun U => am_P tT E h U.heap ∧ am_K tT E U)) (am_Qc tT E mJ3_checkIndex_8e157.2.2.2 Q) 0 0 (am_A tT E) := by
  refine Met.ofW (cc := mJ3_checkIndex_8e157.2.1) (maxL := mJ3_checkIndex_8e157.2.2.1) (ret := mJ3_checkIndex_8e157.2.2.2) (by decide) rfl ?_
  intro p e s m args below meth c s₁ B hml hv'
  obtain ⟨rfl, hP, hK⟩ := hv'
  have hlen : (lg_sl [.int (nI i), .int (nI n), v]).length ≤ mJ3_checkIndex_8e157.2.2.1 := by
    cases v <;> first | (cases hv; done) | exact Nat.le_of_ble_eq_true rfl
  have hl := lv_entry [.int (nI i), .int (nI n), v] (n := mJ3_checkIndex_8e157.2.2.1) hlen
  rw [lg_entry_eq]
  refine c_chkR hi hn hq p e s m _ below meth c s.heap [] _ ⟨B.exec, B.bytes, hml, B.returns, B.notSynchronized, findClass_of_methodNamed B.named, hK⟩ ⟨Nat.le_refl _, Nat.le_refl _, Nat.le_refl _, Nat.le_refl _⟩ hP va_S.rf (am_has_mono hl (fun q hq => ?_))
  rcases List.mem_cons.mp hq with z | hq
  · rw [z]; exact List.mem_cons_self
  · rcases List.mem_cons.mp hq with z | hq
    · rw [z]; exact List.mem_cons_of_mem _ List.mem_cons_self
    · cases hq
theorem dJ0c_2 : decode cJ0_checkIndex_df160 2 = .ok (.getstatic 1053, 3) := by decide +kernel
theorem dJ0c_5 : decode cJ0_checkIndex_df160 5 = .ok (.invokestatic 1059, 3) := by decide +kernel
theorem r_gsc {i n : Nat} {L : am_L} (hi : i < n) (hn : n < 2147483648) (hk : am_R tT E (d + 1) mJ0_checkIndex_df160 Q 8 L [.inl (nI i)] h) : am_R tT E (d + 1) mJ0_checkIndex_df160 Q 2 L [.inl (nI n), .inl (nI i)] h := by
  intro p e s m args below meth c H locs ls hh hF hP hS hl
  have hKs := hh.2.2.2.2.2.2
  obtain ⟨v, hv, hZ⟩ := hKs.2.2.2.2.2.2.2.2.2
  have hMet := c_chkM (E := E) (d := d) (h := h) (Q := fun r h' => r = nI i ∧ h' = h) hv hi hn ⟨rfl, rfl⟩
  refine va_gets hh.1 hh.2.1 hZ hS hh.2.2.2.2.2.1 (hKs.word wd_siof args) (fun _ z => z) dJ0c_2 ?_
  have hrun := va_runS (H := H) (locs := locs) (cells := 0) (slots := 0) (e := e) (below := below) (meth := meth) (As := [.int (nI i), .int (nI n), v]) (rest := []) (g := F0 m 5 ls [v, .int (nI n), .int (nI i)]) ⟨hh.1, hh.2.1, hh.2.2.1, hh.2.2.2.2.2.1, hKs.words args⟩ hMet ⟨am_callB (M := mJ0_checkIndex_df160) hF args hKs mw_J3_checkIndex_8e157 wd_653, hKs.word wd_654 args⟩ ⟨fun a _ g mk q => ⟨q.1, q.2.1, q.2.2.call g mk a⟩, fun U hU hW => ⟨rfl, by rw [hU]; exact hP, hKs.warm hW (fun a h1 h2 => by rw [hU]; exact hS.2.1 a h1 h2)⟩⟩ rfl rfl hl.1 rfl (by show 2 * 0 + 0 ≤ 8; omega) dJ0c_5 ⟨hF.2.2.1, hF.2.2.2⟩
  exact va_calli (a := #[]) hrun hS (fun z _ hz => hz) (fun z hz => hz) (fun r h' t H1 locs1 ht hvm hp1 hB hz hk1 hS1 => by
    obtain ⟨rfl, rfl⟩ := hp1
    exact hk p e s m args below meth c H1 locs1 ls hh hF (by rw [← ht]; exact hB) hS1 hl)
theorem c_chkS {i n : Nat} (hi : i < n) (hn : n < 2147483648) (hq : Q 0 h) : am_C tT E (d + 1) mJ0_checkIndex_df160 [.inl (nI i), .inl (nI n)] h Q := by
  refine am_C.of (by decide) (Nat.le_of_ble_eq_true rfl) ?_
  show am_R tT E _ mJ0_checkIndex_df160 _ 0 [some (.inl (nI i)), some (.inl (nI n))] [] h
  refine am_goS gJ0_checkIndex_df160 [2] 400 ?_
  simp only [am_eqs, am_eqk, am_eqv, lJ0_checkIndex_df160_0, fx_class, NH_at, NH_put, ↓reduceIte, List.mem_cons, List.not_mem_nil, or_false, or_self, false_or, true_and, and_true, Nat.reduceEqDiff, reduceCtorEq, List.length_cons, List.length_nil, Nat.reduceAdd, Nat.reduceLeDiff, Nat.reduceSub, Nat.reduceLT, Nat.zero_le, Nat.zero_add, forall_const, not_true_eq_false, not_false_eq_true, false_implies, true_implies, implies_true, Nat.zero_lt_succ, am_z0, am_z1]
  refine r_gsc hi hn ?_
  refine am_goS gJ0_checkIndex_df160 [] 400 ?_
  simp only [am_eqs, am_eqk, am_eqv, lJ0_checkIndex_df160_0, fx_class, NH_at, NH_put, ↓reduceIte, List.mem_cons, List.not_mem_nil, or_false, or_self, false_or, true_and, and_true, Nat.reduceEqDiff, reduceCtorEq, List.length_cons, List.length_nil, Nat.reduceAdd, Nat.reduceLeDiff, Nat.reduceSub, Nat.reduceLT, Nat.zero_le, Nat.zero_add, forall_const, not_true_eq_false, not_false_eq_true, false_implies, true_implies, implies_true, Nat.zero_lt_succ, am_z0, am_z1]
  exact hq
def slen (j : Nat) : Nat := tlen.getD j 0
def chS (j i : Nat) : Int32 := am_i2c ((tbyt.getD j []).getD i 0 &&& nI 255)
theorem chS_char : ∀ j, j < 16 → ∀ i, i < 73 → (chS j i).toUInt32.toUInt16.toUInt32.toInt32 = chS j i := by decide +kernel
theorem slen_73 : ∀ j, j < 16 → slen j ≤ 73 := by decide +kernel
theorem chS_nar {j i : Nat} (hj : j < 16) (hi : i < slen j) : narrow .char (.int (chS j i)) = .int (chS j i) := congrArg Value.int (chS_char j hj i (Nat.lt_of_lt_of_le hi (slen_73 j hj)))
theorem c_coder {j : Nat} (hj : j < 16) (hq : Q (nI 0) h) : am_C tT E d mJ0_coder_7d493 [.inr (200 + j)] h Q := by
  refine am_C.of (by decide) (Nat.le_of_ble_eq_true rfl) ?_
  show am_R tT E _ mJ0_coder_7d493 _ 0 [some (.inr (200 + j))] [] h
  refine am_goS gJ0_coder_7d493 [] 400 ?_
  simp only [am_eqs, am_eqk, am_eqv, lJ0_coder_7d493_0, fx_class, NH_at, NH_put, ↓reduceIte, List.mem_cons, List.not_mem_nil, or_false, or_self, false_or, true_and, and_true, Nat.reduceEqDiff, reduceCtorEq, List.length_cons, List.length_nil, Nat.reduceAdd, Nat.reduceLeDiff, Nat.reduceSub, Nat.reduceLT, Nat.zero_le, Nat.zero_add, forall_const, not_true_eq_false, not_false_eq_true, false_implies, true_implies, implies_true, Nat.zero_lt_succ, am_z0, am_z1, am_eqt]
  exact ⟨fun z => absurd z (by decide), fun _ => ⟨by omega, by omega, rfl, hq⟩⟩
theorem c_latin {j : Nat} (hj : j < 16) (hq : Q (nI 1) h) : am_C tT E d mJ0_isLatin1_aae02 [.inr (200 + j)] h Q := by
  refine am_C.of (by decide) (Nat.le_of_ble_eq_true rfl) ?_
  show am_R tT E _ mJ0_isLatin1_aae02 _ 0 [some (.inr (200 + j))] [] h
  refine am_goS gJ0_isLatin1_aae02 [] 400 ?_
  simp only [am_eqs, am_eqk, am_eqv, lJ0_isLatin1_aae02_0, fx_class, NH_at, NH_put, ↓reduceIte, List.mem_cons, List.not_mem_nil, or_false, or_self, false_or, true_and, and_true, Nat.reduceEqDiff, reduceCtorEq, List.length_cons, List.length_nil, Nat.reduceAdd, Nat.reduceLeDiff, Nat.reduceSub, Nat.reduceLT, Nat.zero_le, Nat.zero_add, forall_const, not_true_eq_false, not_false_eq_true, false_implies, true_implies, implies_true, Nat.zero_lt_succ, am_z0, am_z1, am_eqt]
  exact ⟨fun z => absurd z (by decide), fun _ => ⟨by omega, by omega, fun _ => hq, fun z => absurd (show (0 : Int32) = nI 0 by decide) z⟩⟩
theorem c_slen {j : Nat} (hj : j < 16) (hq : Q (nI (slen j)) h) : am_C tT E (d + 1) mJ0_length_8abf5 [.inr (200 + j)] h Q := by
  have h73 := slen_73 j hj
  have e300 : 100 + (200 + j) - 300 = j := by omega
  refine am_C.of (by decide) (Nat.le_of_ble_eq_true rfl) ?_
  show am_R tT E _ mJ0_length_8abf5 _ 0 [some (.inr (200 + j))] [] h
  refine am_goS gJ0_length_8abf5 [4] 400 ?_
  simp only [am_eqs, am_eqk, am_eqv, lJ0_length_8abf5_0, fx_class, NH_at, NH_put, ↓reduceIte, List.mem_cons, List.not_mem_nil, or_false, or_self, false_or, true_and, and_true, Nat.reduceEqDiff, reduceCtorEq, List.length_cons, List.length_nil, Nat.reduceAdd, Nat.reduceLeDiff, Nat.reduceSub, Nat.reduceLT, Nat.zero_le, Nat.zero_add, forall_const, not_true_eq_false, not_false_eq_true, false_implies, true_implies, implies_true, Nat.zero_lt_succ, am_z0, am_z1, am_eqt]
  refine ⟨by omega, by omega, ?_⟩
  refine am_one (ok_blen dJ0_length_8abf5_4 rfl) ⟨by omega, by show 100 + (200 + j) - 300 < 16; omega, ?_⟩
  rw [e300]
  change am_R tT E (d + 1) mJ0_length_8abf5 Q 5 [some (.inr (200 + j))] [.inl (nI (slen j))] h
  refine am_goS gJ0_length_8abf5 [] 400 ?_
  simp only [am_eqs, am_eqk, am_eqv, lJ0_length_8abf5_0, fx_class, NH_at, NH_put, ↓reduceIte, List.mem_cons, List.not_mem_nil, or_false, or_self, false_or, true_and, and_true, Nat.reduceEqDiff, reduceCtorEq, List.length_cons, List.length_nil, Nat.reduceAdd, Nat.reduceLeDiff, Nat.reduceSub, Nat.reduceLT, Nat.zero_le, Nat.zero_add, forall_const, not_true_eq_false, not_false_eq_true, false_implies, true_implies, implies_true, Nat.zero_lt_succ, am_z0, am_z1, am_eqt]
  refine ⟨by omega, by show 200 + j - 200 < 16; omega, c_coder hj ?_⟩
  rw [ni_shr (by omega) (by omega)]
  exact hq
theorem c_lchar {j i : Nat} (hj : j < 16) (hi : i < slen j) (hq : Q (chS j i) h) : am_C tT E (d + 2) mJ1_charAt_3b067 [.inr (300 + j), .inl (nI i)] h Q := by
  have h73 := slen_73 j hj
  refine am_C.of (by decide) (Nat.le_of_ble_eq_true rfl) ?_
  show am_R tT E _ mJ1_charAt_3b067 _ 0 [some (.inr (300 + j)), some (.inl (nI i))] [] h
  refine am_goS gJ1_charAt_3b067 [] 400 ?_
  simp only [am_eqs, am_eqk, am_eqv, lJ1_charAt_3b067_0, fx_class, NH_at, NH_put, ↓reduceIte, List.mem_cons, List.not_mem_nil, or_false, or_self, false_or, true_and, and_true, Nat.reduceEqDiff, reduceCtorEq, List.length_cons, List.length_nil, Nat.reduceAdd, Nat.reduceLeDiff, Nat.reduceSub, Nat.reduceLT, Nat.zero_le, Nat.zero_add, forall_const, not_true_eq_false, not_false_eq_true, false_implies, true_implies, implies_true, Nat.zero_lt_succ, am_z0, am_z1, am_eqt]
  rw [Nat.add_sub_cancel_left, ni_clamp (by omega)]
  refine ⟨by omega, hj, c_chkS hi (show slen j < 2147483648 by omega) ⟨by omega, hj, ?_, chS_nar hj hi, hq⟩⟩
  rw [ni_in (by omega)]
  exact hi
theorem c_charAt {j i : Nat} (hj : j < 16) (hi : i < slen j) (hq : Q (chS j i) h) : am_C tT E (d + 3) mJ0_charAt_5068e [.inr (200 + j), .inl (nI i)] h Q := by
  refine am_C.of (by decide) (Nat.le_of_ble_eq_true rfl) ?_
  show am_R tT E _ mJ0_charAt_5068e _ 0 [some (.inr (200 + j)), some (.inl (nI i))] [] h
  refine am_goS gJ0_charAt_5068e [] 400 ?_
  simp only [am_eqs, am_eqk, am_eqv, lJ0_charAt_5068e_0, fx_class, NH_at, NH_put, ↓reduceIte, List.mem_cons, List.not_mem_nil, or_false, or_self, false_or, true_and, and_true, Nat.reduceEqDiff, reduceCtorEq, List.length_cons, List.length_nil, Nat.reduceAdd, Nat.reduceLeDiff, Nat.reduceSub, Nat.reduceLT, Nat.zero_le, Nat.zero_add, forall_const, not_true_eq_false, not_false_eq_true, false_implies, true_implies, implies_true, Nat.zero_lt_succ, am_z0, am_z1, am_eqt]
  have e300 : 100 + (200 + j) = 300 + j := by omega
  rw [e300]
  refine ⟨by omega, by show 200 + j - 200 < 16; omega, c_latin hj ?_⟩
  refine ⟨fun z => absurd z (by decide), fun _ => ⟨by omega, by omega, c_lchar hj hi ⟨chS_nar hj hi, hq⟩⟩⟩
theorem r_mmax {M : am_M} {pc idx : Nat} {L : am_L} {r : List am_V} {x y : Int32} (w1 : Cond.methodLink M.1.cls idx yJ9_max_7cf53 ∈ tbw) (hd : decode M.2.1 pc = .ok (.invokestatic idx, 3)) (hr : r.length ≤ 8) (hk : am_R tT E (d + 1) M Q (pc + 3) L (.inl (if x < y then y else x) :: r) h) : am_R tT E (d + 1) M Q pc L (.inl y :: .inl x :: r) h := by
  intro p e s m args below meth c H locs ls hh hF hP hS hl
  have hKs := hh.2.2.2.2.2.2
  have w1' : Cond.methodLink M.1.cls idx Lib.Math.max.name ∈ tT.2.2.1 := by rw [← xname]; exact w1
  have w2' : Cond.static Lib.Math.max.name ∈ tT.2.2.1 := by rw [← xname]; exact wd_662
  have w3' : Cond.initialized "java/lang/Math" ∈ tT.2.2.1 := wd_1000
  have w4' : Cond.code Lib.Math.max.name Lib.Math.max.code 2 (some .int) ∈ tT.2.2.1 := by rw [← xname, ← xcode]; exact wd_1122
  have h1 : d + 1 ≤ (am_mX tT E (d + 1) M Q).1.frames := hF.1
  have h40 : 40 * (d + 1) ≤ (am_mX tT E (d + 1) M Q).1.locals := hF.2.1
  refine va_mmax hh.1 hh.2.1 (hh.2.2.1.trans hl.1.symm) hh.2.2.2.2.2.1 (hKs.word w1' args) (hKs.word w2' args) (hKs.word w3' args) (hKs.word w4' args) (by omega) ?_ hF.2.2.1 hF.2.2.2 hd (hk p e s m args below meth c H locs ls hh hF hP hS hl)
  rw [am_sum]
  omega
/-- where a sign stands in a text -/
theorem c_iofc {j c : Nat} (hj : j < 16) (hc : c < 256) (h1 : ∀ k, k < slen j → (tbyt.getD j []).getD k 0 = am_i2b (nI c) → Q (nI k) h) (h0 : (∀ k, k < slen j → (tbyt.getD j []).getD k 0 ≠ am_i2b (nI c)) → Q (-1) h) : am_C tT E d mJ1_indexOfChar_4cfef [.inr (300 + j), .inl (nI c), .inl (nI 0), .inl (nI (slen j))] h Q := by
  have h73 := slen_73 j hj
  refine am_C.of (by decide) (Nat.le_of_ble_eq_true rfl) ?_
  show am_R tT E _ mJ1_indexOfChar_4cfef _ 0 [some (.inr (300 + j)), some (.inl (nI c)), some (.inl (nI 0)), some (.inl (nI (slen j))), none, none] [] h
  refine am_goS gJ1_indexOfChar_4cfef [7] 400 ?_
  simp only [am_eqs, am_eqk, am_eqv, lJ1_indexOfChar_4cfef_0, fx_class, NH_at, NH_put, ↓reduceIte, List.mem_cons, List.not_mem_nil, or_false, or_self, false_or, true_and, and_true, Nat.reduceEqDiff, reduceCtorEq, List.length_cons, List.length_nil, Nat.reduceAdd, Nat.reduceLeDiff, Nat.reduceSub, Nat.reduceLT, Nat.zero_le, Nat.zero_add, forall_const, not_true_eq_false, not_false_eq_true, false_implies, true_implies, implies_true, Nat.zero_lt_succ, am_z0, am_z1, am_eqt]
  have loop : ∀ m k, k + m = slen j → (∀ i, i < k → (tbyt.getD j []).getD i 0 ≠ am_i2b (nI c)) → am_R tT E d mJ1_indexOfChar_4cfef Q 7 [some (.inr (300 + j)), some (.inl (nI c)), some (.inl (nI 0)), some (.inl (nI (slen j))), some (.inl (am_i2b (nI c))), some (.inl (nI k))] [] h := by
    intro m
    induction m with
    | zero =>
      intro k hk hne
      have e : k = slen j := by omega
      refine am_goS gJ1_indexOfChar_4cfef [7] 400 ?_
      simp only [am_eqs, am_eqk, am_eqv, lJ1_indexOfChar_4cfef_0, fx_class, NH_at, NH_put, ↓reduceIte, List.mem_cons, List.not_mem_nil, or_false, or_self, false_or, true_and, and_true, Nat.reduceEqDiff, reduceCtorEq, List.length_cons, List.length_nil, Nat.reduceAdd, Nat.reduceLeDiff, Nat.reduceSub, Nat.reduceLT, Nat.zero_le, Nat.zero_add, forall_const, not_true_eq_false, not_false_eq_true, false_implies, true_implies, implies_true, Nat.zero_lt_succ, am_z0, am_z1, am_eqt]
      try simp (disch := omega) only [hs_at, hs_put, hs_63, NH_at, NH_put, NH_cpy, ni_add, ni_mul, ni_clamp, ni_in, ni_eq, ni_lt, ni_le, ni_sub, Nat.reduceAdd, Nat.reduceMul, Nat.reduceSub, eq_self, true_implies, not_true_eq_false, false_implies, and_true, true_and, not_false_eq_true, Nat.reduceEqDiff, Nat.reduceLeDiff, Nat.reduceLT, implies_true, ite_true, ite_false]
      exact ⟨fun _ => h0 (fun i hi => hne i (by omega)), fun z => absurd z (by omega)⟩
    | succ m ih =>
      intro k hk hne
      have hki : vp_in (nI k) (tlen.getD j 0) := by rw [ni_in (by omega)]; show k < slen j; omega
      refine am_goS gJ1_indexOfChar_4cfef [7] 400 ?_
      simp only [am_eqs, am_eqk, am_eqv, lJ1_indexOfChar_4cfef_0, fx_class, NH_at, NH_put, ↓reduceIte, List.mem_cons, List.not_mem_nil, or_false, or_self, false_or, true_and, and_true, Nat.reduceEqDiff, reduceCtorEq, List.length_cons, List.length_nil, Nat.reduceAdd, Nat.reduceLeDiff, Nat.reduceSub, Nat.reduceLT, Nat.zero_le, Nat.zero_add, forall_const, not_true_eq_false, not_false_eq_true, false_implies, true_implies, implies_true, Nat.zero_lt_succ, am_z0, am_z1, am_eqt]
      rw [Nat.add_sub_cancel_left]
      try simp (disch := omega) only [hs_at, hs_put, hs_63, NH_at, NH_put, NH_cpy, ni_add, ni_mul, ni_clamp, ni_in, ni_eq, ni_lt, ni_le, ni_sub, Nat.reduceAdd, Nat.reduceMul, Nat.reduceSub, eq_self, true_implies, not_true_eq_false, false_implies, and_true, true_and, not_false_eq_true, Nat.reduceEqDiff, Nat.reduceLeDiff, Nat.reduceLT, implies_true, ite_true, ite_false]
      refine ⟨fun z => absurd z (by omega), fun _ => ⟨by omega, hj, by show k < slen j; omega, fun y => h1 k (by omega) y, fun y => ih (k + 1) (by omega) (fun i hi => ?_)⟩⟩
      by_cases e : i = k
      · rw [e]; exact y
      · exact hne i (by omega)
  exact loop (slen j) 0 (by omega) (fun i hi => absurd hi (by omega))
end STRS
