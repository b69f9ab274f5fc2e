/-! ===== part bb1: the world that the constructors leave (written by gen_f.py) ===== -/
def gw (al : Nat → Nat) (cA : ClassId) (h : am_H) : va_W := [(al 0, .inr (11, [.ref (al 1), .ref (al 27), .int (h 0 2), .ref (al 46), .ref (al 53), .ref (al 20), .ref (al 23), .ref (al 55), .ref (al 58), .ref (al 60)])), (al 1, .inr (10, [.int (h 1 0), .int (h 1 1), .int (h 1 2), .int (h 1 3), .int (h 1 4), .ref (al 2), .ref (al 3), .int (h 1 7), .ref (al 4), .int (h 1 9), .ref (al 5), .ref (al 6), .ref (al 14), .ref (al 17)])), (al 2, .inl (cA, 20, .inl (h 2))), (al 3, .inl (cA, 20, .inl (h 3))), (al 4, .inl (cA, 400, .inl (h 4))), (al 5, .inl (cA, 12, .inl (h 5))), (al 6, .inr (5, [.int (h 6 0), .ref (al 7), .ref (al 8), .ref (al 9), .ref (al 10), .ref (al 11), .ref (al 12), .ref (al 13)])), (al 7, .inl (cA, 8, .inl (h 7))), (al 8, .inl (cA, 8, .inl (h 8))), (al 9, .inl (cA, 8, .inl (h 9))), (al 10, .inl (cA, 8, .inl (h 10))), (al 11, .inl (cA, 8, .inl (h 11))), (al 12, .inl (cA, 8, .inl (h 12))), (al 13, .inl (cA, 72, .inl (h 13))), (al 14, .inr (2, [.int (h 14 0), .ref (al 15), .ref (al 16)])), (al 15, .inl (cA, 24, .inl (h 15))), (al 16, .inl (cA, 240, .inl (h 16))), (al 17, .inr (3, [.int (h 17 0), .int (h 17 1), .ref (al 18), .ref (al 19)])), (al 18, .inl (cA, 400, .inl (h 18))), (al 19, .inl (cA, 22, .inl (h 19))), (al 20, .inr (7, [.ref (al 1), .ref (al 21), .ref (al 22), .int (h 20 3)])), (al 21, .inl (cA, 8, .inl (h 21))), (al 22, .inl (cA, 2160, .inl (h 22))), (al 23, .inr (9, [.ref (al 1), .ref (al 20), .ref (al 24), .int (h 23 3), .ref (al 25), .ref (al 26), .int (h 23 6)])), (al 24, .inl (cA, 12, .inl (h 24))), (al 25, .inl (cA, 12, .inl (h 25))), (al 26, .inl (cA, 12, .inl (h 26))), (al 27, .inr (10, [.int (h 27 0), .int (h 27 1), .int (h 27 2), .int (h 27 3), .int (h 27 4), .ref (al 28), .ref (al 29), .int (h 27 7), .ref (al 30), .int (h 27 9), .ref (al 31), .ref (al 32), .ref (al 40), .ref (al 43)])), (al 28, .inl (cA, 20, .inl (h 28))), (al 29, .inl (cA, 20, .inl (h 29))), (al 30, .inl (cA, 400, .inl (h 30))), (al 31, .inl (cA, 12, .inl (h 31))), (al 32, .inr (5, [.int (h 32 0), .ref (al 33), .ref (al 34), .ref (al 35), .ref (al 36), .ref (al 37), .ref (al 38), .ref (al 39)])), (al 33, .inl (cA, 8, .inl (h 33))), (al 34, .inl (cA, 8, .inl (h 34))), (al 35, .inl (cA, 8, .inl (h 35))), (al 36, .inl (cA, 8, .inl (h 36))), (al 37, .inl (cA, 8, .inl (h 37))), (al 38, .inl (cA, 8, .inl (h 38))), (al 39, .inl (cA, 72, .inl (h 39))), (al 40, .inr (2, [.int (h 40 0), .ref (al 41), .ref (al 42)])), (al 41, .inl (cA, 24, .inl (h 41))), (al 42, .inl (cA, 240, .inl (h 42))), (al 43, .inr (3, [.int (h 43 0), .int (h 43 1), .ref (al 44), .ref (al 45)])), (al 44, .inl (cA, 400, .inl (h 44))), (al 45, .inl (cA, 22, .inl (h 45))), (al 46, .inr (4, [.int (h 46 0), .int (h 46 1), .int (h 46 2), .ref (al 47), .ref (al 50), .ref (al 51), .ref (al 52), .int (h 46 7), .int (h 46 8)])), (al 47, .inr (3, [.int (h 47 0), .int (h 47 1), .ref (al 48), .ref (al 49)])), (al 48, .inl (cA, 400, .inl (h 48))), (al 49, .inl (cA, 22, .inl (h 49))), (al 50, .inl (cA, 400, .inl (h 50))), (al 51, .inl (cA, 401, .inl (h 51))), (al 52, .inl (cA, 401, .inl (h 52))), (al 53, .inr (8, [.int (h 53 0), .ref (al 54)])), (al 54, .inl (cA, 48, .inl (h 54))), (al 55, .inr (1, [.ref (al 1), .ref (al 20), .int (h 55 2), .int (h 55 3), .int (h 55 4), .int (h 55 5), .ref (al 56), .ref (al 57)])), (al 56, .inl (cA, 7, .inl (h 56))), (al 57, .inl (cA, 7, .inl (h 57))), (al 58, .inr (6, [.ref (al 1), .ref (al 23), .ref (al 59)])), (al 59, .inl (cA, 3, .inl (h 59))), (al 60, .inr (0, [.ref (al 1), .ref (al 20), .int (h 60 2), .int (h 60 3), .int (h 60 4), .int (h 60 5), .ref (al 61), .ref (al 62)])), (al 61, .inl (cA, 6, .inl (h 61))), (al 62, .inl (cA, 6, .inl (h 62))), (al 63, .inr (12, [.ref (al 64), .ref (al 65), .ref (al 66), .ref (al 67), .int (h 63 4), .int (h 63 5), .ref (al 68), .ref (al 69), .ref (al 70), .ref (al 71), .ref (al 72), .int (h 63 11), .int (h 63 12), .int (h 63 13), .int (h 63 14), .int (h 63 15), .int (h 63 16), .int (h 63 17), .int (h 63 18), .int (h 63 19), .int (h 63 20), .int (h 63 21), .int (h 63 22), .ref (al 73), .ref (al 74), .int (h 63 25), .int (h 63 26), .ref (al 75), .ref (al 76), .ref (al 77), .int (h 63 30)])), (al 64, .inl (cA, 1750, .inl (h 64))), (al 65, .inl (cA, 1750, .inl (h 65))), (al 66, .inl (cA, 2968, .inl (h 66))), (al 67, .inl (cA, 3330, .inl (h 67))), (al 68, .inl (cA, 48, .inl (h 68))), (al 69, .inl (cA, 820, .inl (h 69))), (al 70, .inl (cA, 400, .inl (h 70))), (al 71, .inl (cA, 420, .inl (h 71))), (al 72, .inl (cA, 9, .inl (h 72))), (al 73, .inl (cA, 8, .inl (h 73))), (al 74, .inl (cA, 8, .inl (h 74))), (al 75, .inl (cA, 3, .inl (h 75))), (al 76, .inl (cA, 6, .inl (h 76))), (al 77, .inl (cA, 6, .inl (h 77)))]
def gwc (al : Nat → Nat) (cA : ClassId) (h : am_H) (k : Nat) : List am_Sh → va_W
  | [] => []
  | q :: l => (al k, am_cell al cA h k q) :: gwc al cA h (k + 1) l
theorem gwc_eq (al : Nat → Nat) (cA : ClassId) (h : am_H) : ∀ (l : List am_Sh) (k : Nat), gwc al cA h k l = l.mapIdx (fun o q => (al (o + k), am_cell al cA h (o + k) q)) := by
  intro l
  induction l with
  | nil => intro k; rfl
  | cons q l ih =>
    intro k
    rw [List.mapIdx_cons, gwc, ih (k + 1), Nat.zero_add]
    congr 1
    congr 1
    funext o q
    rw [show o + (k + 1) = o + 1 + k by omega]
theorem gw_ws (al : Nat → Nat) (cA : ClassId) (h : am_H) : am_ws tsh al cA h = gwc al cA h 0 tsh := (gwc_eq al cA h tsh 0).symm
theorem gwc_a (al : Nat → Nat) (cA : ClassId) (h : am_H) (k n : Nat) (l : List am_Sh) : gwc al cA h k (.inl n :: l) = (al k, .inl (cA, n, .inl (h k))) :: gwc al cA h (k + 1) l := rfl
theorem gwc_o (al : Nat → Nat) (cA : ClassId) (h : am_H) (k n : Nat) (fs : List (Option Nat)) (l : List am_Sh) : gwc al cA h k (.inr (n, fs) :: l) = (al k, .inr (n, fs.mapIdx (fun i t => am_fl al h k i t))) :: gwc al cA h (k + 1) l := rfl
theorem gwc_n (al : Nat → Nat) (cA : ClassId) (h : am_H) (k : Nat) : gwc al cA h k [] = [] := rfl
def gfl (al : Nat → Nat) (h : am_H) (o k : Nat) : List (Option Nat) → List Value
  | [] => []
  | t :: l => am_fl al h o k t :: gfl al h o (k + 1) l
theorem gfl_eq (al : Nat → Nat) (h : am_H) (o : Nat) : ∀ (l : List (Option Nat)) (k : Nat), l.mapIdx (fun i t => am_fl al h o (i + k) t) = gfl al h o k l := by
  intro l
  induction l with
  | nil => intro k; rfl
  | cons q l ih =>
    intro k
    rw [List.mapIdx_cons, gfl, ← ih (k + 1), Nat.zero_add]
    congr 1
    congr 1
    funext i t
    rw [show i + (k + 1) = i + 1 + k by omega]
theorem gfl_0 (al : Nat → Nat) (h : am_H) (o : Nat) (l : List (Option Nat)) : l.mapIdx (fun i t => am_fl al h o i t) = gfl al h o 0 l := gfl_eq al h o l 0
theorem gfl_n (al : Nat → Nat) (h : am_H) (o k : Nat) : gfl al h o k [] = [] := rfl
theorem gfl_i (al : Nat → Nat) (h : am_H) (o k : Nat) (l : List (Option Nat)) : gfl al h o k (none :: l) = .int (h o k) :: gfl al h o (k + 1) l := rfl
theorem gfl_r (al : Nat → Nat) (h : am_H) (o k t : Nat) (l : List (Option Nat)) : gfl al h o k (some t :: l) = .ref (al t) :: gfl al h o (k + 1) l := rfl
set_option maxRecDepth 100000 in
theorem gw_eq (al : Nat → Nat) (cA : ClassId) (h : am_H) : am_ws tsh al cA h = gw al cA h := by
  rw [gw_ws, tsh, gw]
  simp only [gwc_a, gwc_o, gwc_n, gfl_0, gfl_n, gfl_i, gfl_r, Nat.reduceAdd, Nat.zero_add]
theorem h00_z {o : Nat} (h1 : o ≠ 46) (h2 : o ≠ 63) : h00 o = fun _ => 0 := by
  funext k
  show nI (c00 o k) = 0
  rw [c00_0 (by omega)]
  rfl
theorem h00_46 {k : Nat} (h : k ≠ 2) : h00 46 k = 0 := by
  show nI (c00 46 k) = 0
  rw [c00_0 (by omega)]
  rfl
theorem h00_63 {k : Nat} (h : k ≠ 22) : h00 63 k = 0 := by
  show nI (c00 63 k) = 0
  rw [c00_0 (by omega)]
  rfl
theorem h00_a : h00 46 2 = -1 := by
  show nI (c00 46 2) = -1
  rw [c00, if_pos (by omega)]
  decide
theorem h00_b : h00 63 22 = -1 := by
  show nI (c00 63 22) = -1
  rw [c00, if_pos (by omega)]
  decide
set_option maxRecDepth 100000 in
set_option maxHeartbeats 4000000 in
theorem gw_wc {al : Nat → Nat} {cA : ClassId} {q0 q1 : Nat} {u0 u1 : Nat → Nat} (e0 : al 0 = q0) (e1 : al 1 = u0 0) (e2 : al 2 = u0 1) (e3 : al 3 = u0 2) (e4 : al 4 = u0 3) (e5 : al 5 = u0 4) (e6 : al 6 = u0 5) (e7 : al 7 = u0 6) (e8 : al 8 = u0 7) (e9 : al 9 = u0 8) (e10 : al 10 = u0 9) (e11 : al 11 = u0 10) (e12 : al 12 = u0 11) (e13 : al 13 = u0 12) (e14 : al 14 = u0 13) (e15 : al 15 = u0 14) (e16 : al 16 = u0 15) (e17 : al 17 = u0 16) (e18 : al 18 = u0 17) (e19 : al 19 = u0 18) (e20 : al 20 = u0 19) (e21 : al 21 = u0 20) (e22 : al 22 = u0 21) (e23 : al 23 = u0 22) (e24 : al 24 = u0 23) (e25 : al 25 = u0 24) (e26 : al 26 = u0 25) (e27 : al 27 = u0 26) (e28 : al 28 = u0 27) (e29 : al 29 = u0 28) (e30 : al 30 = u0 29) (e31 : al 31 = u0 30) (e32 : al 32 = u0 31) (e33 : al 33 = u0 32) (e34 : al 34 = u0 33) (e35 : al 35 = u0 34) (e36 : al 36 = u0 35) (e37 : al 37 = u0 36) (e38 : al 38 = u0 37) (e39 : al 39 = u0 38) (e40 : al 40 = u0 39) (e41 : al 41 = u0 40) (e42 : al 42 = u0 41) (e43 : al 43 = u0 42) (e44 : al 44 = u0 43) (e45 : al 45 = u0 44) (e46 : al 46 = u0 45) (e47 : al 47 = u0 46) (e48 : al 48 = u0 47) (e49 : al 49 = u0 48) (e50 : al 50 = u0 49) (e51 : al 51 = u0 50) (e52 : al 52 = u0 51) (e53 : al 53 = u0 52) (e54 : al 54 = u0 53) (e55 : al 55 = u0 54) (e56 : al 56 = u0 55) (e57 : al 57 = u0 56) (e58 : al 58 = u0 57) (e59 : al 59 = u0 58) (e60 : al 60 = u0 59) (e61 : al 61 = u0 60) (e62 : al 62 = u0 61) (e63 : al 63 = q1) (e64 : al 64 = u1 0) (e65 : al 65 = u1 1) (e66 : al 66 = u1 2) (e67 : al 67 = u1 3) (e68 : al 68 = u1 4) (e69 : al 69 = u1 5) (e70 : al 70 = u1 6) (e71 : al 71 = u1 7) (e72 : al 72 = u1 8) (e73 : al 73 = u1 9) (e74 : al 74 = u1 10) (e75 : al 75 = u1 11) (e76 : al 76 = u1 12) (e77 : al 77 = u1 13) : gw al cA h00 = wc_X11 cA q0 u0 ++ wc_X12 cA q1 u1 := by
  unfold gw wc_X11 wc_X12
  simp only [e0, e1, e2, e3, e4, e5, e6, e7, e8, e9, e10, e11, e12, e13, e14, e15, e16, e17, e18, e19, e20, e21, e22, e23, e24, e25, e26, e27, e28, e29, e30, e31, e32, e33, e34, e35, e36, e37, e38, e39, e40, e41, e42, e43, e44, e45, e46, e47, e48, e49, e50, e51, e52, e53, e54, e55, e56, e57, e58, e59, e60, e61, e62, e63, e64, e65, e66, e67, e68, e69, e70, e71, e72, e73, e74, e75, e76, e77, h00_z (o := 0) (by decide) (by decide), h00_z (o := 1) (by decide) (by decide), h00_z (o := 2) (by decide) (by decide), h00_z (o := 3) (by decide) (by decide), h00_z (o := 4) (by decide) (by decide), h00_z (o := 5) (by decide) (by decide), h00_z (o := 6) (by decide) (by decide), h00_z (o := 7) (by decide) (by decide), h00_z (o := 8) (by decide) (by decide), h00_z (o := 9) (by decide) (by decide), h00_z (o := 10) (by decide) (by decide), h00_z (o := 11) (by decide) (by decide), h00_z (o := 12) (by decide) (by decide), h00_z (o := 13) (by decide) (by decide), h00_z (o := 14) (by decide) (by decide), h00_z (o := 15) (by decide) (by decide), h00_z (o := 16) (by decide) (by decide), h00_z (o := 17) (by decide) (by decide), h00_z (o := 18) (by decide) (by decide), h00_z (o := 19) (by decide) (by decide), h00_z (o := 20) (by decide) (by decide), h00_z (o := 21) (by decide) (by decide), h00_z (o := 22) (by decide) (by decide), h00_z (o := 23) (by decide) (by decide), h00_z (o := 24) (by decide) (by decide), h00_z (o := 25) (by decide) (by decide), h00_z (o := 26) (by decide) (by decide), h00_z (o := 27) (by decide) (by decide), h00_z (o := 28) (by decide) (by decide), h00_z (o := 29) (by decide) (by decide), h00_z (o := 30) (by decide) (by decide), h00_z (o := 31) (by decide) (by decide), h00_z (o := 32) (by decide) (by decide), h00_z (o := 33) (by decide) (by decide), h00_z (o := 34) (by decide) (by decide), h00_z (o := 35) (by decide) (by decide), h00_z (o := 36) (by decide) (by decide), h00_z (o := 37) (by decide) (by decide), h00_z (o := 38) (by decide) (by decide), h00_z (o := 39) (by decide) (by decide), h00_z (o := 40) (by decide) (by decide), h00_z (o := 41) (by decide) (by decide), h00_z (o := 42) (by decide) (by decide), h00_z (o := 43) (by decide) (by decide), h00_z (o := 44) (by decide) (by decide), h00_z (o := 45) (by decide) (by decide), h00_z (o := 47) (by decide) (by decide), h00_z (o := 48) (by decide) (by decide), h00_z (o := 49) (by decide) (by decide), h00_z (o := 50) (by decide) (by decide), h00_z (o := 51) (by decide) (by decide), h00_z (o := 52) (by decide) (by decide), h00_z (o := 53) (by decide) (by decide), h00_z (o := 54) (by decide) (by decide), h00_z (o := 55) (by decide) (by decide), h00_z (o := 56) (by decide) (by decide), h00_z (o := 57) (by decide) (by decide), h00_z (o := 59) (by decide) (by decide), h00_z (o := 60) (by decide) (by decide), h00_z (o := 61) (by decide) (by decide), h00_z (o := 62) (by decide) (by decide), h00_z (o := 64) (by decide) (by decide), h00_z (o := 65) (by decide) (by decide), h00_z (o := 66) (by decide) (by decide), h00_z (o := 67) (by decide) (by decide), h00_z (o := 68) (by decide) (by decide), h00_z (o := 69) (by decide) (by decide), h00_z (o := 70) (by decide) (by decide), h00_z (o := 71) (by decide) (by decide), h00_z (o := 72) (by decide) (by decide), h00_z (o := 73) (by decide) (by decide), h00_z (o := 74) (by decide) (by decide), h00_z (o := 75) (by decide) (by decide), h00_z (o := 76) (by decide) (by decide), h00_z (o := 77) (by decide) (by decide), h00_46 (k := 0) (by decide), h00_46 (k := 1) (by decide), h00_46 (k := 7) (by decide), h00_46 (k := 8) (by decide), h00_a, h00_63 (k := 4) (by decide), h00_63 (k := 5) (by decide), h00_63 (k := 11) (by decide), h00_63 (k := 12) (by decide), h00_63 (k := 13) (by decide), h00_63 (k := 14) (by decide), h00_63 (k := 15) (by decide), h00_63 (k := 16) (by decide), h00_63 (k := 17) (by decide), h00_63 (k := 18) (by decide), h00_63 (k := 19) (by decide), h00_63 (k := 20) (by decide), h00_63 (k := 21) (by decide), h00_63 (k := 25) (by decide), h00_63 (k := 26) (by decide), h00_63 (k := 30) (by decide), h00_b, List.cons_append, List.nil_append]
def alF (q0 q1 : Nat) (u0 u1 adK adV un : Nat → Nat) (b L : Nat) : Nat → Nat := fun o => if o = 0 then q0 else if o < 63 then u0 (o - 1) else if o = 63 then q1 else if o < 78 then u1 (o - 64) else if o < 300 then adK (o - 200) else if o < 400 then adV (o - 300) else if o = 400 then b else if o = 401 then L else un (o - 500)
section GO
variable {q0 q1 b L : Nat} {u0 u1 adK adV un' : Nat → Nat}
theorem al_0 : alF q0 q1 u0 u1 adK adV un' b L 0 = q0 := if_pos rfl
theorem al_u0 {j : Nat} (o : Nat) (ho : o = j + 1) (hj : j < 62) : alF q0 q1 u0 u1 adK adV un' b L o = u0 j := by
  unfold alF
  rw [if_neg (by omega), if_pos (by omega), show o - 1 = j by omega]
theorem al_63 : alF q0 q1 u0 u1 adK adV un' b L 63 = q1 := by
  unfold alF
  rw [if_neg (by omega), if_neg (by omega), if_pos (by omega)]
theorem al_u1 {j : Nat} (o : Nat) (ho : o = j + 64) (hj : j < 14) : alF q0 q1 u0 u1 adK adV un' b L o = u1 j := by
  unfold alF
  rw [if_neg (by omega), if_neg (by omega), if_neg (by omega), if_pos (by omega), show o - 64 = j by omega]
theorem al_200 {j : Nat} (hj : j < 16) : alF q0 q1 u0 u1 adK adV un' b L (200 + j) = adK j := by
  unfold alF
  rw [if_neg (by omega), if_neg (by omega), if_neg (by omega), if_neg (by omega), if_pos (by omega), Nat.add_sub_cancel_left]
theorem al_300 {j : Nat} (hj : j < 16) : alF q0 q1 u0 u1 adK adV un' b L (300 + j) = adV j := by
  unfold alF
  rw [if_neg (by omega), if_neg (by omega), if_neg (by omega), if_neg (by omega), if_neg (by omega), if_pos (by omega), Nat.add_sub_cancel_left]
theorem al_400 : alF q0 q1 u0 u1 adK adV un' b L 400 = b := by
  unfold alF
  rw [if_neg (by omega), if_neg (by omega), if_neg (by omega), if_neg (by omega), if_neg (by omega), if_neg (by omega), if_pos (by omega)]
theorem al_401 : alF q0 q1 u0 u1 adK adV un' b L 401 = L := by
  unfold alF
  rw [if_neg (by omega), if_neg (by omega), if_neg (by omega), if_neg (by omega), if_neg (by omega), if_neg (by omega), if_neg (by omega), if_pos (by omega)]
theorem al_500 {j : Nat} : alF q0 q1 u0 u1 adK adV un' b L (500 + j) = un' j := by
  unfold alF
  rw [if_neg (by omega), if_neg (by omega), if_neg (by omega), if_neg (by omega), if_neg (by omega), if_neg (by omega), if_neg (by omega), if_neg (by omega), Nat.add_sub_cancel_left]
theorem ws_allW (cA : ClassId) : wc_X11 cA q0 u0 ++ wc_X12 cA q1 u1 = am_ws tsh (alF q0 q1 u0 u1 adK adV un' b L) cA h00 := by
  rw [gw_eq]
  exact (gw_wc al_0 (al_u0 1 rfl (by decide)) (al_u0 2 rfl (by decide)) (al_u0 3 rfl (by decide)) (al_u0 4 rfl (by decide)) (al_u0 5 rfl (by decide)) (al_u0 6 rfl (by decide)) (al_u0 7 rfl (by decide)) (al_u0 8 rfl (by decide)) (al_u0 9 rfl (by decide)) (al_u0 10 rfl (by decide)) (al_u0 11 rfl (by decide)) (al_u0 12 rfl (by decide)) (al_u0 13 rfl (by decide)) (al_u0 14 rfl (by decide)) (al_u0 15 rfl (by decide)) (al_u0 16 rfl (by decide)) (al_u0 17 rfl (by decide)) (al_u0 18 rfl (by decide)) (al_u0 19 rfl (by decide)) (al_u0 20 rfl (by decide)) (al_u0 21 rfl (by decide)) (al_u0 22 rfl (by decide)) (al_u0 23 rfl (by decide)) (al_u0 24 rfl (by decide)) (al_u0 25 rfl (by decide)) (al_u0 26 rfl (by decide)) (al_u0 27 rfl (by decide)) (al_u0 28 rfl (by decide)) (al_u0 29 rfl (by decide)) (al_u0 30 rfl (by decide)) (al_u0 31 rfl (by decide)) (al_u0 32 rfl (by decide)) (al_u0 33 rfl (by decide)) (al_u0 34 rfl (by decide)) (al_u0 35 rfl (by decide)) (al_u0 36 rfl (by decide)) (al_u0 37 rfl (by decide)) (al_u0 38 rfl (by decide)) (al_u0 39 rfl (by decide)) (al_u0 40 rfl (by decide)) (al_u0 41 rfl (by decide)) (al_u0 42 rfl (by decide)) (al_u0 43 rfl (by decide)) (al_u0 44 rfl (by decide)) (al_u0 45 rfl (by decide)) (al_u0 46 rfl (by decide)) (al_u0 47 rfl (by decide)) (al_u0 48 rfl (by decide)) (al_u0 49 rfl (by decide)) (al_u0 50 rfl (by decide)) (al_u0 51 rfl (by decide)) (al_u0 52 rfl (by decide)) (al_u0 53 rfl (by decide)) (al_u0 54 rfl (by decide)) (al_u0 55 rfl (by decide)) (al_u0 56 rfl (by decide)) (al_u0 57 rfl (by decide)) (al_u0 58 rfl (by decide)) (al_u0 59 rfl (by decide)) (al_u0 60 rfl (by decide)) (al_u0 61 rfl (by decide)) (al_u0 62 rfl (by decide)) al_63 (al_u1 64 rfl (by decide)) (al_u1 65 rfl (by decide)) (al_u1 66 rfl (by decide)) (al_u1 67 rfl (by decide)) (al_u1 68 rfl (by decide)) (al_u1 69 rfl (by decide)) (al_u1 70 rfl (by decide)) (al_u1 71 rfl (by decide)) (al_u1 72 rfl (by decide)) (al_u1 73 rfl (by decide)) (al_u1 74 rfl (by decide)) (al_u1 75 rfl (by decide)) (al_u1 76 rfl (by decide)) (al_u1 77 rfl (by decide))).symm
end GO
