/-! ===== part 09: running a method's table up to the pcs of a list ===== -/
def am_st (o : Option am_Act) (d : Nat) (C : am_Ct) (Q : Int32 → am_H → Prop) (L : am_L) (S : List am_V) (h : am_H) (K : am_Kt) : Prop := match o with
  | some a => a d C Q L S h K
  | none => False
def am_rs (tbl : Nat → Option am_Act) (stop : List Nat) (d : Nat) (C : am_Ct) (Q : Int32 → am_H → Prop) (K : am_Kt) : Nat → am_Kt
  | 0 => K
  | n + 1 => fun pc L S h => if pc ∈ stop then K pc L S h else am_st (tbl pc) d C Q L S h (am_rs tbl stop d C Q K n)
def am_r1 (tbl : Nat → Option am_Act) (stop : List Nat) (d : Nat) (C : am_Ct) (Q : Int32 → am_H → Prop) (K : am_Kt) (n : Nat) : am_Kt := fun pc L S h => am_st (tbl pc) d C Q L S h (am_rs tbl stop d C Q K n)
theorem am_goX {T : am_T} {M : am_M} {tbl : Nat → Option am_Act} {E : am_E} (hG : am_GoodE T E M tbl) (stop : List Nat) (n : Nat) {X : am_X} {d : Nat} {Q : Int32 → am_H → Prop} (hR : am_Ret T E M X d Q) {pc : Nat} {L : am_L} {S : List am_V} {h : am_H}
    (hr : am_r1 tbl stop d (am_Cd T E d) Q (am_B T E X d M) n pc L S h) : am_B T E X d M pc L S h := by
  have key : ∀ n pc L S h, am_rs tbl stop d (am_Cd T E d) Q (am_B T E X d M) n pc L S h → am_B T E X d M pc L S h := by
    intro n
    induction n with
    | zero => exact fun _ _ _ _ hr => hr
    | succ n ih =>
      intro pc L S h hr
      unfold am_rs at hr
      by_cases hs : pc ∈ stop
      · rw [if_pos hs] at hr
        exact hr
      · rw [if_neg hs] at hr
        cases ht : tbl pc with
        | none => rw [ht] at hr; exact hr.elim
        | some a =>
          rw [ht] at hr
          exact hG pc a ht X d Q L S h _ hR (fun pc' L' S' h' hk => ih pc' L' S' h' hk) hr
  unfold am_r1 at hr
  cases ht : tbl pc with
  | none => rw [ht] at hr; exact hr.elim
  | some a =>
    rw [ht] at hr
    exact hG pc a ht X d Q L S h _ hR (fun pc' L' S' h' hk => key n pc' L' S' h' hk) hr
theorem am_goS {T : am_T} {M : am_M} {tbl : Nat → Option am_Act} (hG : am_Good T M tbl) (stop : List Nat) (n : Nat) {E : am_E} {d : Nat} {Q : Int32 → am_H → Prop} {pc : Nat} {L : am_L} {S : List am_V} {h : am_H}
    (hr : am_r1 tbl stop d (am_Cd T E d) Q (am_R T E d M Q) n pc L S h) : am_R T E d M Q pc L S h := am_goX (hG E) stop n am_ret_m hr
def am_isI : Option am_V → Prop
  | some (.inl _) => True
  | _ => False
def am_iv : Option am_V → Int32
  | some (.inl v) => v
  | _ => 0
def am_isR : Option am_V → Prop
  | some (.inr _) => True
  | _ => False
def am_rv : Option am_V → Nat
  | some (.inr v) => v
  | _ => 0
def am_fk : Option (Option Nat) → Prop
  | none => False
  | some _ => True
def am_fv (x : Int32) : Option (Option Nat) → am_V
  | some (some t) => .inr t
  | _ => .inl x
def am_fi : Option (Option Nat) → Prop
  | some none => True
  | _ => False
def am_lk : Option Nat → Prop
  | none => False
  | some _ => True
def am_ln : Option Nat → Nat
  | none => 0
  | some n => n
theorem am_eq1 {a b : Prop} (h : a ↔ b) : a = b := propext h
theorem am_eqs (d : Nat) (C : am_Ct) (Q : Int32 → am_H → Prop) :
    (∀ (tbl : Nat → Option am_Act) (stop : List Nat) (K : am_Kt) (n pc : Nat) (L : am_L) (S : List am_V) (h : am_H), am_r1 tbl stop d C Q K n pc L S h = am_st (tbl pc) d C Q L S h (am_rs tbl stop d C Q K n)) ∧
    (∀ (tbl : Nat → Option am_Act) (stop : List Nat) (K : am_Kt) (n pc : Nat) (L : am_L) (S : List am_V) (h : am_H), am_rs tbl stop d C Q K (n + 1) pc L S h = if pc ∈ stop then K pc L S h else am_st (tbl pc) d C Q L S h (am_rs tbl stop d C Q K n)) ∧
    (∀ (a : am_Act) (L : am_L) (S : List am_V) (h : am_H) (K : am_Kt), am_st (some a) d C Q L S h K = a d C Q L S h K) ∧
    (∀ (v : Int32) (n : Nat) (L : am_L) (S : List am_V) (h : am_H) (K : am_Kt), a_const v n d C Q L S h K = K n L (.inl v :: S) h) ∧
    (∀ (j n : Nat) (L : am_L) (S : List am_V) (h : am_H) (K : am_Kt), a_ldS j n d C Q L S h K = K n L (.inr (200 + j) :: S) h) ∧
    (∀ (i n : Nat) (L : am_L) (S : List am_V) (h : am_H) (K : am_Kt), a_iload i n d C Q L S h K = (am_isI (am_get L i) ∧ K n L (.inl (am_iv (am_get L i)) :: S) h)) ∧
    (∀ (i n : Nat) (L : am_L) (S : List am_V) (h : am_H) (K : am_Kt), a_aload i n d C Q L S h K = (am_isR (am_get L i) ∧ K n L (.inr (am_rv (am_get L i)) :: S) h)) ∧
    (∀ (i n : Nat) (L : am_L) (v : Int32) (r : List am_V) (h : am_H) (K : am_Kt), a_istore i n d C Q L (.inl v :: r) h K = K n (am_set L i (.inl v)) r h) ∧
    (∀ (i n : Nat) (L : am_L) (v : Nat) (r : List am_V) (h : am_H) (K : am_Kt), a_astore i n d C Q L (.inr v :: r) h K = K n (am_set L i (.inr v)) r h) ∧
    (∀ (i : Nat) (z : Int32) (n : Nat) (L : am_L) (S : List am_V) (h : am_H) (K : am_Kt), a_iinc i z n d C Q L S h K = (am_isI (am_get L i) ∧ K n (am_set L i (.inl (am_iv (am_get L i) + z))) S h)) ∧
    (∀ (f : Int32 → Int32 → Int32) (n : Nat) (L : am_L) (x y : Int32) (r : List am_V) (h : am_H) (K : am_Kt), a_bin f n d C Q L (.inl y :: .inl x :: r) h K = K n L (.inl (f x y) :: r) h) ∧
    (∀ (f : Int32 → Int32 → Int32) (n : Nat) (L : am_L) (x y : Int32) (r : List am_V) (h : am_H) (K : am_Kt), a_divr f n d C Q L (.inl y :: .inl x :: r) h K = (¬ y = 0 ∧ K n L (.inl (f x y) :: r) h)) ∧
    (∀ (f : Int32 → Int32) (n : Nat) (L : am_L) (x : Int32) (r : List am_V) (h : am_H) (K : am_Kt), a_un f n d C Q L (.inl x :: r) h K = K n L (.inl (f x) :: r) h) ∧
    (∀ (n : Nat) (L : am_L) (x : am_V) (r : List am_V) (h : am_H) (K : am_Kt), a_dup n d C Q L (x :: r) h K = K n L (x :: x :: r) h) ∧
    (∀ (n : Nat) (L : am_L) (x y : am_V) (r : List am_V) (h : am_H) (K : am_Kt), a_dup2 n d C Q L (x :: y :: r) h K = K n L (x :: y :: x :: y :: r) h) ∧
    (∀ (n : Nat) (L : am_L) (x : am_V) (r : List am_V) (h : am_H) (K : am_Kt), a_pop n d C Q L (x :: r) h K = K n L r h) ∧
    (∀ (c : Int32 → Prop) (t n : Nat) (L : am_L) (x : Int32) (r : List am_V) (h : am_H) (K : am_Kt), a_if c t n d C Q L (.inl x :: r) h K = ((c x → K t L r h) ∧ (¬ c x → K n L r h))) ∧
    (∀ (c : Int32 → Int32 → Prop) (t n : Nat) (L : am_L) (x y : Int32) (r : List am_V) (h : am_H) (K : am_Kt), a_cmp c t n d C Q L (.inl y :: .inl x :: r) h K = ((c x y → K t L r h) ∧ (¬ c x y → K n L r h))) ∧
    (∀ (t : Nat) (L : am_L) (S : List am_V) (h : am_H) (K : am_Kt), a_goto t d C Q L S h K = K t L S h) ∧
    (∀ (L : am_L) (v : Int32) (h : am_H) (K : am_Kt), a_iret d C Q L [.inl v] h K = Q v h) ∧
    (∀ (L : am_L) (v : Int32) (h : am_H) (K : am_Kt), a_zret d C Q L [.inl v] h K = ((v = 0 ∨ v = 1) ∧ Q v h)) ∧
    (∀ (L : am_L) (h : am_H) (K : am_Kt), a_ret d C Q L [] h K = Q 0 h) ∧
    (∀ (T : am_T) (n : Nat) (L : am_L) (i : Int32) (o : Nat) (r : List am_V) (h : am_H) (K : am_Kt), a_iald T n d C Q L (.inl i :: .inr o :: r) h K = (am_lk (am_len T o) ∧ vp_in i (am_ln (am_len T o)) ∧ K n L (.inl (h o i.toNatClampNeg) :: r) h)) ∧
    (∀ (T : am_T) (n : Nat) (L : am_L) (x i : Int32) (o : Nat) (r : List am_V) (h : am_H) (K : am_Kt), a_iast T n d C Q L (.inl x :: .inl i :: .inr o :: r) h K = (am_lk (am_len T o) ∧ vp_in i (am_ln (am_len T o)) ∧ K n L r (am_upd h o i.toNatClampNeg x))) ∧
    (∀ (T : am_T) (n : Nat) (L : am_L) (o : Nat) (r : List am_V) (h : am_H) (K : am_Kt), a_alen T n d C Q L (.inr o :: r) h K = (am_lk (am_len T o) ∧ K n L (.inl (Int32.ofNat (am_ln (am_len T o))) :: r) h)) ∧
    (∀ (T : am_T) (ci k n : Nat) (L : am_L) (o : Nat) (r : List am_V) (h : am_H) (K : am_Kt), a_get T ci k n d C Q L (.inr o :: r) h K = (am_fk (am_fd T o ci k) ∧ K n L (am_fv (h o k) (am_fd T o ci k) :: r) h)) ∧
    (∀ (T : am_T) (ci k n : Nat) (L : am_L) (v : Int32) (o : Nat) (r : List am_V) (h : am_H) (K : am_Kt), a_put T ci k n d C Q L (.inl v :: .inr o :: r) h K = (am_fi (am_fd T o ci k) ∧ K n L r (am_upd h o k v))) ∧
    (∀ (T : am_T) (ci k n : Nat) (L : am_L) (v : Int32) (o : Nat) (r : List am_V) (h : am_H) (K : am_Kt), a_putz T ci k n d C Q L (.inl v :: .inr o :: r) h K = (am_fi (am_fd T o ci k) ∧ (v = 0 ∨ v = 1) ∧ K n L r (am_upd h o k v))) ∧
    (∀ (cs : List (Int32 × Nat)) (df : Nat) (L : am_L) (x : Int32) (r : List am_V) (h : am_H) (K : am_Kt), a_sw cs df d C Q L (.inl x :: r) h K = am_sw x (fun t => K t L r h) df cs) := by
  refine ⟨?_, ?_, ?_, ?_, ?_, ?_, ?_, ?_, ?_, ?_, ?_, ?_, ?_, ?_, ?_, ?_, ?_, ?_, ?_, ?_, ?_, ?_, ?_, ?_, ?_, ?_, ?_, ?_, ?_⟩
  case refine_6 =>
    intro i n L S h K
    unfold a_iload
    rcases am_get L i with _ | v | v <;> simp [am_isI, am_iv]
  case refine_7 =>
    intro i n L S h K
    unfold a_aload
    rcases am_get L i with _ | v | v <;> simp [am_isR, am_rv]
  case refine_10 =>
    intro i z n L S h K
    unfold a_iinc
    rcases am_get L i with _ | v | v <;> simp [am_isI, am_iv]
  case refine_23 =>
    intro T n L i o r h K
    simp only [a_iald]
    rcases am_len T o with _ | v <;> simp [am_lk, am_ln]
  case refine_24 =>
    intro T n L x i o r h K
    simp only [a_iast]
    rcases am_len T o with _ | v <;> simp [am_lk, am_ln]
  case refine_25 =>
    intro T n L o r h K
    simp only [a_alen]
    rcases am_len T o with _ | v <;> simp [am_lk, am_ln]
  case refine_26 =>
    intro T ci k n L o r h K
    simp only [a_get]
    rcases am_fd T o ci k with _ | _ | v <;> simp [am_fk, am_fv]
  case refine_27 =>
    intro T ci k n L v o r h K
    simp only [a_put]
    rcases am_fd T o ci k with _ | _ | v <;> simp [am_fi]
  case refine_28 =>
    intro T ci k n L v o r h K
    simp only [a_putz]
    rcases am_fd T o ci k with _ | _ | v <;> simp [am_fi]
  all_goals (intros; rfl)
theorem am_eqk (d : Nat) (C : am_Ct) (Q : Int32 → am_H → Prop) :
    (∀ (T : am_T) (M' : am_M) (ci npc : Nat) (L : am_L) (o : Nat) (r : List am_V) (h : am_H) (K : am_Kt), a_cvI T M' ci 0 npc d C Q L (.inr o :: r) h K = (am_ci T o = some ci ∧ r.length ≤ 8 ∧ C M' [.inr o] h (fun v h' => K npc L (.inl v :: r) h'))) ∧
    (∀ (T : am_T) (M' : am_M) (ci npc : Nat) (L : am_L) (o : Nat) (r : List am_V) (h : am_H) (K : am_Kt), a_cvV T M' ci 0 npc d C Q L (.inr o :: r) h K = (am_ci T o = some ci ∧ r.length ≤ 8 ∧ C M' [.inr o] h (fun _ h' => K npc L r h'))) ∧
    (∀ (T : am_T) (M' : am_M) (npc : Nat) (L : am_L) (o : Nat) (r : List am_V) (h : am_H) (K : am_Kt), a_cvS T M' 0 npc d C Q L (.inr o :: r) h K = (200 ≤ o ∧ o - 200 < T.2.2.2.1.1 ∧ r.length ≤ 8 ∧ C M' [.inr o] h (fun v h' => K npc L (.inl v :: r) h'))) ∧
    (∀ (T : am_T) (M' : am_M) (ci npc : Nat) (L : am_L) (x1 : am_V) (o : Nat) (r : List am_V) (h : am_H) (K : am_Kt), a_cvI T M' ci 1 npc d C Q L (x1 :: .inr o :: r) h K = (am_ci T o = some ci ∧ r.length ≤ 8 ∧ C M' [.inr o, x1] h (fun v h' => K npc L (.inl v :: r) h'))) ∧
    (∀ (T : am_T) (M' : am_M) (ci npc : Nat) (L : am_L) (x1 : am_V) (o : Nat) (r : List am_V) (h : am_H) (K : am_Kt), a_cvV T M' ci 1 npc d C Q L (x1 :: .inr o :: r) h K = (am_ci T o = some ci ∧ r.length ≤ 8 ∧ C M' [.inr o, x1] h (fun _ h' => K npc L r h'))) ∧
    (∀ (M' : am_M) (npc : Nat) (L : am_L) (x1 : am_V) (r : List am_V) (h : am_H) (K : am_Kt), a_csI M' 1 npc d C Q L (x1 :: r) h K = (r.length ≤ 8 ∧ C M' [x1] h (fun v h' => K npc L (.inl v :: r) h'))) ∧
    (∀ (M' : am_M) (npc : Nat) (L : am_L) (x1 : am_V) (r : List am_V) (h : am_H) (K : am_Kt), a_csV M' 1 npc d C Q L (x1 :: r) h K = (r.length ≤ 8 ∧ C M' [x1] h (fun _ h' => K npc L r h'))) ∧
    (∀ (T : am_T) (M' : am_M) (npc : Nat) (L : am_L) (x1 : am_V) (o : Nat) (r : List am_V) (h : am_H) (K : am_Kt), a_cvS T M' 1 npc d C Q L (x1 :: .inr o :: r) h K = (200 ≤ o ∧ o - 200 < T.2.2.2.1.1 ∧ r.length ≤ 8 ∧ C M' [.inr o, x1] h (fun v h' => K npc L (.inl v :: r) h'))) ∧
    (∀ (T : am_T) (M' : am_M) (ci npc : Nat) (L : am_L) (x1 x2 : am_V) (o : Nat) (r : List am_V) (h : am_H) (K : am_Kt), a_cvI T M' ci 2 npc d C Q L (x2 :: x1 :: .inr o :: r) h K = (am_ci T o = some ci ∧ r.length ≤ 8 ∧ C M' [.inr o, x1, x2] h (fun v h' => K npc L (.inl v :: r) h'))) ∧
    (∀ (T : am_T) (M' : am_M) (ci npc : Nat) (L : am_L) (x1 x2 : am_V) (o : Nat) (r : List am_V) (h : am_H) (K : am_Kt), a_cvV T M' ci 2 npc d C Q L (x2 :: x1 :: .inr o :: r) h K = (am_ci T o = some ci ∧ r.length ≤ 8 ∧ C M' [.inr o, x1, x2] h (fun _ h' => K npc L r h'))) ∧
    (∀ (M' : am_M) (npc : Nat) (L : am_L) (x1 x2 : am_V) (r : List am_V) (h : am_H) (K : am_Kt), a_csI M' 2 npc d C Q L (x2 :: x1 :: r) h K = (r.length ≤ 8 ∧ C M' [x1, x2] h (fun v h' => K npc L (.inl v :: r) h'))) ∧
    (∀ (M' : am_M) (npc : Nat) (L : am_L) (x1 x2 : am_V) (r : List am_V) (h : am_H) (K : am_Kt), a_csV M' 2 npc d C Q L (x2 :: x1 :: r) h K = (r.length ≤ 8 ∧ C M' [x1, x2] h (fun _ h' => K npc L r h'))) ∧
    (∀ (T : am_T) (M' : am_M) (ci npc : Nat) (L : am_L) (x1 x2 x3 : am_V) (o : Nat) (r : List am_V) (h : am_H) (K : am_Kt), a_cvI T M' ci 3 npc d C Q L (x3 :: x2 :: x1 :: .inr o :: r) h K = (am_ci T o = some ci ∧ r.length ≤ 8 ∧ C M' [.inr o, x1, x2, x3] h (fun v h' => K npc L (.inl v :: r) h'))) ∧
    (∀ (T : am_T) (M' : am_M) (ci npc : Nat) (L : am_L) (x1 x2 x3 : am_V) (o : Nat) (r : List am_V) (h : am_H) (K : am_Kt), a_cvV T M' ci 3 npc d C Q L (x3 :: x2 :: x1 :: .inr o :: r) h K = (am_ci T o = some ci ∧ r.length ≤ 8 ∧ C M' [.inr o, x1, x2, x3] h (fun _ h' => K npc L r h'))) ∧
    (∀ (M' : am_M) (npc : Nat) (L : am_L) (x1 x2 x3 : am_V) (r : List am_V) (h : am_H) (K : am_Kt), a_csI M' 3 npc d C Q L (x3 :: x2 :: x1 :: r) h K = (r.length ≤ 8 ∧ C M' [x1, x2, x3] h (fun v h' => K npc L (.inl v :: r) h'))) ∧
    (∀ (M' : am_M) (npc : Nat) (L : am_L) (x1 x2 x3 : am_V) (r : List am_V) (h : am_H) (K : am_Kt), a_csV M' 3 npc d C Q L (x3 :: x2 :: x1 :: r) h K = (r.length ≤ 8 ∧ C M' [x1, x2, x3] h (fun _ h' => K npc L r h'))) ∧
    (∀ (T : am_T) (M' : am_M) (ci npc : Nat) (L : am_L) (x1 x2 x3 x4 : am_V) (o : Nat) (r : List am_V) (h : am_H) (K : am_Kt), a_cvI T M' ci 4 npc d C Q L (x4 :: x3 :: x2 :: x1 :: .inr o :: r) h K = (am_ci T o = some ci ∧ r.length ≤ 8 ∧ C M' [.inr o, x1, x2, x3, x4] h (fun v h' => K npc L (.inl v :: r) h'))) ∧
    (∀ (T : am_T) (M' : am_M) (ci npc : Nat) (L : am_L) (x1 x2 x3 x4 : am_V) (o : Nat) (r : List am_V) (h : am_H) (K : am_Kt), a_cvV T M' ci 4 npc d C Q L (x4 :: x3 :: x2 :: x1 :: .inr o :: r) h K = (am_ci T o = some ci ∧ r.length ≤ 8 ∧ C M' [.inr o, x1, x2, x3, x4] h (fun _ h' => K npc L r h'))) ∧
    (∀ (M' : am_M) (npc : Nat) (L : am_L) (x1 x2 x3 x4 : am_V) (r : List am_V) (h : am_H) (K : am_Kt), a_csI M' 4 npc d C Q L (x4 :: x3 :: x2 :: x1 :: r) h K = (r.length ≤ 8 ∧ C M' [x1, x2, x3, x4] h (fun v h' => K npc L (.inl v :: r) h'))) ∧
    (∀ (M' : am_M) (npc : Nat) (L : am_L) (x1 x2 x3 x4 : am_V) (r : List am_V) (h : am_H) (K : am_Kt), a_csV M' 4 npc d C Q L (x4 :: x3 :: x2 :: x1 :: r) h K = (r.length ≤ 8 ∧ C M' [x1, x2, x3, x4] h (fun _ h' => K npc L r h'))) ∧
    (∀ (T : am_T) (M' : am_M) (ci npc : Nat) (L : am_L) (x1 x2 x3 x4 x5 : am_V) (o : Nat) (r : List am_V) (h : am_H) (K : am_Kt), a_cvI T M' ci 5 npc d C Q L (x5 :: x4 :: x3 :: x2 :: x1 :: .inr o :: r) h K = (am_ci T o = some ci ∧ r.length ≤ 8 ∧ C M' [.inr o, x1, x2, x3, x4, x5] h (fun v h' => K npc L (.inl v :: r) h'))) ∧
    (∀ (T : am_T) (M' : am_M) (ci npc : Nat) (L : am_L) (x1 x2 x3 x4 x5 : am_V) (o : Nat) (r : List am_V) (h : am_H) (K : am_Kt), a_cvV T M' ci 5 npc d C Q L (x5 :: x4 :: x3 :: x2 :: x1 :: .inr o :: r) h K = (am_ci T o = some ci ∧ r.length ≤ 8 ∧ C M' [.inr o, x1, x2, x3, x4, x5] h (fun _ h' => K npc L r h'))) ∧
    (∀ (M' : am_M) (npc : Nat) (L : am_L) (x1 x2 x3 x4 x5 : am_V) (r : List am_V) (h : am_H) (K : am_Kt), a_csI M' 5 npc d C Q L (x5 :: x4 :: x3 :: x2 :: x1 :: r) h K = (r.length ≤ 8 ∧ C M' [x1, x2, x3, x4, x5] h (fun v h' => K npc L (.inl v :: r) h'))) ∧
    (∀ (M' : am_M) (npc : Nat) (L : am_L) (x1 x2 x3 x4 x5 : am_V) (r : List am_V) (h : am_H) (K : am_Kt), a_csV M' 5 npc d C Q L (x5 :: x4 :: x3 :: x2 :: x1 :: r) h K = (r.length ≤ 8 ∧ C M' [x1, x2, x3, x4, x5] h (fun _ h' => K npc L r h'))) ∧
    (∀ (T : am_T) (M' : am_M) (ci npc : Nat) (L : am_L) (x1 x2 x3 x4 x5 x6 : am_V) (o : Nat) (r : List am_V) (h : am_H) (K : am_Kt), a_cvI T M' ci 6 npc d C Q L (x6 :: x5 :: x4 :: x3 :: x2 :: x1 :: .inr o :: r) h K = (am_ci T o = some ci ∧ r.length ≤ 8 ∧ C M' [.inr o, x1, x2, x3, x4, x5, x6] h (fun v h' => K npc L (.inl v :: r) h'))) ∧
    (∀ (T : am_T) (M' : am_M) (ci npc : Nat) (L : am_L) (x1 x2 x3 x4 x5 x6 : am_V) (o : Nat) (r : List am_V) (h : am_H) (K : am_Kt), a_cvV T M' ci 6 npc d C Q L (x6 :: x5 :: x4 :: x3 :: x2 :: x1 :: .inr o :: r) h K = (am_ci T o = some ci ∧ r.length ≤ 8 ∧ C M' [.inr o, x1, x2, x3, x4, x5, x6] h (fun _ h' => K npc L r h'))) ∧
    (∀ (M' : am_M) (npc : Nat) (L : am_L) (x1 x2 x3 x4 x5 x6 : am_V) (r : List am_V) (h : am_H) (K : am_Kt), a_csI M' 6 npc d C Q L (x6 :: x5 :: x4 :: x3 :: x2 :: x1 :: r) h K = (r.length ≤ 8 ∧ C M' [x1, x2, x3, x4, x5, x6] h (fun v h' => K npc L (.inl v :: r) h'))) ∧
    (∀ (M' : am_M) (npc : Nat) (L : am_L) (x1 x2 x3 x4 x5 x6 : am_V) (r : List am_V) (h : am_H) (K : am_Kt), a_csV M' 6 npc d C Q L (x6 :: x5 :: x4 :: x3 :: x2 :: x1 :: r) h K = (r.length ≤ 8 ∧ C M' [x1, x2, x3, x4, x5, x6] h (fun _ h' => K npc L r h'))) ∧
    (∀ (T : am_T) (npc : Nat) (L : am_L) (n dp : Int32) (q : Nat) (sp : Int32) (o : Nat) (r : List am_V) (h : am_H) (K : am_Kt), a_copy T npc d C Q L (.inl n :: .inl dp :: .inr q :: .inl sp :: .inr o :: r) h K = (am_lk (am_len T o) ∧ am_lk (am_len T q) ∧ 0 < d ∧ r.length ≤ 8 ∧ ¬ sp < 0 ∧ ¬ dp < 0 ∧ ¬ n < 0 ∧ sp.toNatClampNeg + n.toNatClampNeg ≤ am_ln (am_len T o) ∧ dp.toNatClampNeg + n.toNatClampNeg ≤ am_ln (am_len T q) ∧ K npc L r (am_cpy h o sp.toNatClampNeg q dp.toNatClampNeg n.toNatClampNeg))) := by
  refine ⟨?_, ?_, ?_, ?_, ?_, ?_, ?_, ?_, ?_, ?_, ?_, ?_, ?_, ?_, ?_, ?_, ?_, ?_, ?_, ?_, ?_, ?_, ?_, ?_, ?_, ?_, ?_, ?_, ?_⟩
  case refine_29 =>
    intro T npc L n dp q sp o r h K
    simp only [a_copy]
    rcases am_len T o with _ | v <;> rcases am_len T q with _ | w <;> simp [am_lk, am_ln]
  all_goals (intros; rfl)
theorem am_eqv :
    (∀ (x : Option am_V) (t : am_L), am_get (x :: t) 0 = x) ∧ (∀ (x : Option am_V) (t : am_L) (n : Nat), am_get (x :: t) (n + 1) = am_get t n) ∧
    (∀ (x : Option am_V) (t : am_L) (v : am_V), am_set (x :: t) 0 v = some v :: t) ∧ (∀ (x : Option am_V) (t : am_L) (n : Nat) (v : am_V), am_set (x :: t) (n + 1) v = x :: am_set t n v) ∧
    (∀ (S acc : List am_V), am_pop 0 S acc = some (acc, S)) ∧ (∀ (n : Nat) (x : am_V) (S acc : List am_V), am_pop (n + 1) (x :: S) acc = am_pop n S (x :: acc)) ∧
    (∀ v : Int32, am_isI (some (.inl v)) = True) ∧ (∀ v : Int32, am_iv (some (.inl v)) = v) ∧ (∀ v : Nat, am_isR (some (.inr v)) = True) ∧ (∀ v : Nat, am_rv (some (.inr v)) = v) ∧
    (∀ x : Option Nat, am_fk (some x) = True) ∧ (∀ (x : Int32), am_fv x (some none) = .inl x) ∧ (∀ (x : Int32) (t : Nat), am_fv x (some (some t)) = .inr t) ∧ (am_fi (some none) = True) ∧
    (∀ n : Nat, am_lk (some n) = True) ∧ (∀ n : Nat, am_ln (some n) = n) ∧ (∀ (T : am_T) (E : am_E) (d : Nat) (M : am_M) (av : List am_V) (h : am_H) (Q : Int32 → am_H → Prop), am_Cd T E (d + 1) M av h Q = am_C T E d M av h Q) ∧
    (∀ (x : Int32) (K : Nat → Prop) (df : Nat), am_sw x K df [] = K df) ∧ (∀ (x : Int32) (K : Nat → Prop) (df : Nat) (q : Int32 × Nat) (t : List (Int32 × Nat)), am_sw x K df (q :: t) = ((x = q.1 → K q.2) ∧ (¬ x = q.1 → am_sw x K df t))) :=
  ⟨fun _ _ => rfl, fun _ _ _ => rfl, fun _ _ _ => rfl, fun _ _ _ _ => rfl, fun _ _ => rfl, fun _ _ _ _ => rfl, fun _ => rfl, fun _ => rfl, fun _ => rfl, fun _ => rfl, fun _ => rfl, fun _ => rfl, fun _ _ => rfl, rfl, fun _ => rfl, fun _ => rfl, fun _ _ _ _ _ _ _ => rfl, fun _ _ _ => rfl, fun _ _ _ _ _ => rfl⟩
theorem am_eqj (d : Nat) (C : am_Ct) (Q : Int32 → am_H → Prop) :
    (∀ (ty : FieldType) (L : am_L) (v : Int32) (h : am_H) (K : am_Kt), a_nret ty d C Q L [.inl v] h K = (narrow ty (.int v) = .int v ∧ Q v h)) ∧
    (∀ (n : Nat) (L : am_L) (S : List am_V) (h : am_H) (K : am_Kt), a_gst n d C Q L S h K = K n L (.inl (nI 1) :: S) h) ∧
    (∀ (T : am_T) (n : Nat) (L : am_L) (o : Nat) (r : List am_V) (h : am_H) (K : am_Kt), a_gsv T n d C Q L (.inr o :: r) h K = (200 ≤ o ∧ o - 200 < T.2.2.2.1.1 ∧ K n L (.inr (100 + o) :: r) h)) ∧
    (∀ (T : am_T) (n : Nat) (L : am_L) (o : Nat) (r : List am_V) (h : am_H) (K : am_Kt), a_gsc T n d C Q L (.inr o :: r) h K = (200 ≤ o ∧ o - 200 < T.2.2.2.1.1 ∧ K n L (.inl (nI 0) :: r) h)) ∧
    (∀ (T : am_T) (n : Nat) (L : am_L) (i : Int32) (o : Nat) (r : List am_V) (h : am_H) (K : am_Kt), a_bald T n d C Q L (.inl i :: .inr o :: r) h K = (300 ≤ o ∧ o - 300 < T.2.2.2.1.1 ∧ vp_in i (T.2.2.2.1.2.1.getD (o - 300) 0) ∧ K n L (.inl ((T.2.2.2.1.2.2.getD (o - 300) []).getD i.toNatClampNeg 0) :: r) h)) ∧
    (∀ (T : am_T) (n : Nat) (L : am_L) (o : Nat) (r : List am_V) (h : am_H) (K : am_Kt), a_blen T n d C Q L (.inr o :: r) h K = (300 ≤ o ∧ o - 300 < T.2.2.2.1.1 ∧ K n L (.inl (nI (T.2.2.2.1.2.1.getD (o - 300) 0)) :: r) h)) ∧
    (∀ (xs : Nat → Int32) (N n : Nat) (L : am_L) (i : Int32) (o : Nat) (r : List am_V) (h : am_H) (K : am_Kt), a_sld xs N n d C Q L (.inl i :: .inr o :: r) h K = (o = 400 ∧ vp_in i N ∧ K n L (.inl (xs i.toNatClampNeg) :: r) h)) ∧
    (∀ (N n : Nat) (L : am_L) (o : Nat) (r : List am_V) (h : am_H) (K : am_Kt), a_slen N n d C Q L (.inr o :: r) h K = (o = 400 ∧ K n L (.inl (nI N) :: r) h)) := by
  refine ⟨?_, ?_, ?_, ?_, ?_, ?_, ?_, ?_⟩
  all_goals (intros; rfl)
