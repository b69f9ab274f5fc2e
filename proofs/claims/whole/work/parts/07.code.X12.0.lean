/-! ===== code of TollOfNamesModel ===== -/
theorem dX12_isIn_0 : decode cX12_isIn 0 = .ok (.iload_n 0, 1) := by decide +kernel
theorem dX12_isIn_1 : decode cX12_isIn 1 = .ok (.iload_n 1, 1) := by decide +kernel
theorem dX12_isIn_2 : decode cX12_isIn 2 = .ok (.if_icmp .lt 12, 3) := by decide +kernel
theorem dX12_isIn_5 : decode cX12_isIn 5 = .ok (.iload_n 0, 1) := by decide +kernel
theorem dX12_isIn_6 : decode cX12_isIn 6 = .ok (.iload_n 2, 1) := by decide +kernel
theorem dX12_isIn_7 : decode cX12_isIn 7 = .ok (.if_icmp .gt 7, 3) := by decide +kernel
theorem dX12_isIn_10 : decode cX12_isIn 10 = .ok (.iconst 1, 1) := by decide +kernel
theorem dX12_isIn_11 : decode cX12_isIn 11 = .ok (.goto 4, 3) := by decide +kernel
theorem dX12_isIn_14 : decode cX12_isIn 14 = .ok (.iconst 0, 1) := by decide +kernel
theorem dX12_isIn_15 : decode cX12_isIn 15 = .ok (.ireturn, 1) := by decide +kernel
def tX12_isIn_0 : Nat → Option am_Act := am_nd 7 (am_nd 2 (am_nd 1 (am_lf 0 (a_iload 0 1)) (am_lf 1 (a_iload 1 2))) (am_nd 5 (am_lf 2 (a_cmp (fun x y => x < y) 14 5)) (am_nd 6 (am_lf 5 (a_iload 0 6)) (am_lf 6 (a_iload 2 7))))) (am_nd 11 (am_nd 10 (am_lf 7 (a_cmp (fun x y => y < x) 14 10)) (am_lf 10 (a_const (nI 1) 11))) (am_nd 14 (am_lf 11 (a_goto 15)) (am_nd 15 (am_lf 14 (a_const (nI 0) 15)) (am_lf 15 (a_zret)))))
theorem gX12_isIn_0 : am_Good tT mX12_isIn tX12_isIn_0 := am_nd_ok (am_nd_ok (am_nd_ok (am_lf_ok (fun _ => ok_iload_n dX12_isIn_0 rfl rfl)) (am_lf_ok (fun _ => ok_iload_n dX12_isIn_1 rfl rfl))) (am_nd_ok (am_lf_ok (fun _ => ok_cmp_lt dX12_isIn_2 rfl rfl)) (am_nd_ok (am_lf_ok (fun _ => ok_iload_n dX12_isIn_5 rfl rfl)) (am_lf_ok (fun _ => ok_iload_n dX12_isIn_6 rfl rfl))))) (am_nd_ok (am_nd_ok (am_lf_ok (fun _ => ok_cmp_gt dX12_isIn_7 rfl rfl)) (am_lf_ok (fun _ => ok_iconst dX12_isIn_10 cv_iconst_1 rfl))) (am_nd_ok (am_lf_ok (fun _ => ok_goto dX12_isIn_11 rfl)) (am_nd_ok (am_lf_ok (fun _ => ok_iconst dX12_isIn_14 cv_iconst_0 rfl)) (am_lf_ok (fun _ => ok_zret rfl dX12_isIn_15)))))
def tX12_isIn : Nat → Option am_Act := tX12_isIn_0
theorem gX12_isIn : am_Good tT mX12_isIn tX12_isIn := gX12_isIn_0
theorem dX12_isName_0 : decode cX12_isName 0 = .ok (.iload_n 1, 1) := by decide +kernel
theorem dX12_isName_1 : decode cX12_isName 1 = .ok (.iconst 0, 1) := by decide +kernel
theorem dX12_isName_2 : decode cX12_isName 2 = .ok (.aload_n 0, 1) := by decide +kernel
theorem dX12_isName_3 : decode cX12_isName 3 = .ok (.getfield 7, 3) := by decide +kernel
theorem dX12_isName_6 : decode cX12_isName 6 = .ok (.iconst 0, 1) := by decide +kernel
theorem dX12_isName_7 : decode cX12_isName 7 = .ok (.iaload, 1) := by decide +kernel
theorem dX12_isName_8 : decode cX12_isName 8 = .ok (.iconst 1, 1) := by decide +kernel
theorem dX12_isName_9 : decode cX12_isName 9 = .ok (.isub, 1) := by decide +kernel
theorem dX12_isName_10 : decode cX12_isName 10 = .ok (.invokestatic 56, 3) := by decide +kernel
theorem dX12_isName_13 : decode cX12_isName 13 = .ok (.ireturn, 1) := by decide +kernel
def tX12_isName_0 : Nat → Option am_Act := am_nd 7 (am_nd 2 (am_nd 1 (am_lf 0 (a_iload 1 1)) (am_lf 1 (a_const (nI 0) 2))) (am_nd 3 (am_lf 2 (a_aload 0 3)) (am_nd 6 (am_lf 3 (a_get tT 12 0 6)) (am_lf 6 (a_const (nI 0) 7))))) (am_nd 9 (am_nd 8 (am_lf 7 (a_iald tT 8)) (am_lf 8 (a_const (nI 1) 9))) (am_nd 10 (am_lf 9 (a_bin (fun x y => x - y) 10)) (am_nd 13 (am_lf 10 (a_csI mX12_isIn 3 13)) (am_lf 13 (a_zret)))))
theorem gX12_isName_0 : am_Good tT mX12_isName tX12_isName_0 := am_nd_ok (am_nd_ok (am_nd_ok (am_lf_ok (fun _ => ok_iload_n dX12_isName_0 rfl rfl)) (am_lf_ok (fun _ => ok_iconst dX12_isName_1 cv_iconst_0 rfl))) (am_nd_ok (am_lf_ok (fun _ => ok_aload_n dX12_isName_2 rfl rfl)) (am_nd_ok (am_lf_ok (fun _ => ok_get (C := RX12) (TT := TX12) (N := 31) rfl inw_X12 (Nat.le_of_ble_eq_true rfl) wd_448 dX12_isName_3 rfl)) (am_lf_ok (fun _ => ok_iconst dX12_isName_6 cv_iconst_0 rfl))))) (am_nd_ok (am_nd_ok (am_lf_ok (fun _ => ok_iald dX12_isName_7 rfl)) (am_lf_ok (fun _ => ok_iconst dX12_isName_8 cv_iconst_1 rfl))) (am_nd_ok (am_lf_ok (fun _ => ok_isub dX12_isName_9 rfl)) (am_nd_ok (am_lf_ok (fun _ => ok_csI rfl mw_X12_isIn wd_449 wd_450 dX12_isName_10 rfl)) (am_lf_ok (fun _ => ok_zret rfl dX12_isName_13)))))
def tX12_isName : Nat → Option am_Act := tX12_isName_0
theorem gX12_isName : am_Good tT mX12_isName tX12_isName := gX12_isName_0
theorem dX12_isPlace_0 : decode cX12_isPlace 0 = .ok (.iload_n 0, 1) := by decide +kernel
theorem dX12_isPlace_1 : decode cX12_isPlace 1 = .ok (.iconst 0, 1) := by decide +kernel
theorem dX12_isPlace_2 : decode cX12_isPlace 2 = .ok (.bipush 7, 2) := by decide +kernel
theorem dX12_isPlace_4 : decode cX12_isPlace 4 = .ok (.invokestatic 56, 3) := by decide +kernel
theorem dX12_isPlace_7 : decode cX12_isPlace 7 = .ok (.ireturn, 1) := by decide +kernel
def tX12_isPlace_0 : Nat → Option am_Act := am_nd 2 (am_nd 1 (am_lf 0 (a_iload 0 1)) (am_lf 1 (a_const (nI 0) 2))) (am_nd 4 (am_lf 2 (a_const (nI 7) 4)) (am_nd 7 (am_lf 4 (a_csI mX12_isIn 3 7)) (am_lf 7 (a_zret))))
theorem gX12_isPlace_0 : am_Good tT mX12_isPlace tX12_isPlace_0 := am_nd_ok (am_nd_ok (am_lf_ok (fun _ => ok_iload_n dX12_isPlace_0 rfl rfl)) (am_lf_ok (fun _ => ok_iconst dX12_isPlace_1 cv_iconst_0 rfl))) (am_nd_ok (am_lf_ok (fun _ => ok_bipush dX12_isPlace_2 cv_bipush_7 rfl)) (am_nd_ok (am_lf_ok (fun _ => ok_csI rfl mw_X12_isIn wd_449 wd_450 dX12_isPlace_4 rfl)) (am_lf_ok (fun _ => ok_zret rfl dX12_isPlace_7))))
def tX12_isPlace : Nat → Option am_Act := tX12_isPlace_0
theorem gX12_isPlace : am_Good tT mX12_isPlace tX12_isPlace := gX12_isPlace_0
theorem dX12_isPerson_0 : decode cX12_isPerson 0 = .ok (.iload_n 1, 1) := by decide +kernel
theorem dX12_isPerson_1 : decode cX12_isPerson 1 = .ok (.iconst 0, 1) := by decide +kernel
theorem dX12_isPerson_2 : decode cX12_isPerson 2 = .ok (.aload_n 0, 1) := by decide +kernel
theorem dX12_isPerson_3 : decode cX12_isPerson 3 = .ok (.getfield 7, 3) := by decide +kernel
theorem dX12_isPerson_6 : decode cX12_isPerson 6 = .ok (.iconst 1, 1) := by decide +kernel
theorem dX12_isPerson_7 : decode cX12_isPerson 7 = .ok (.iaload, 1) := by decide +kernel
theorem dX12_isPerson_8 : decode cX12_isPerson 8 = .ok (.iconst 1, 1) := by decide +kernel
theorem dX12_isPerson_9 : decode cX12_isPerson 9 = .ok (.isub, 1) := by decide +kernel
theorem dX12_isPerson_10 : decode cX12_isPerson 10 = .ok (.invokestatic 56, 3) := by decide +kernel
theorem dX12_isPerson_13 : decode cX12_isPerson 13 = .ok (.ireturn, 1) := by decide +kernel
def tX12_isPerson_0 : Nat → Option am_Act := am_nd 7 (am_nd 2 (am_nd 1 (am_lf 0 (a_iload 1 1)) (am_lf 1 (a_const (nI 0) 2))) (am_nd 3 (am_lf 2 (a_aload 0 3)) (am_nd 6 (am_lf 3 (a_get tT 12 0 6)) (am_lf 6 (a_const (nI 1) 7))))) (am_nd 9 (am_nd 8 (am_lf 7 (a_iald tT 8)) (am_lf 8 (a_const (nI 1) 9))) (am_nd 10 (am_lf 9 (a_bin (fun x y => x - y) 10)) (am_nd 13 (am_lf 10 (a_csI mX12_isIn 3 13)) (am_lf 13 (a_zret)))))
theorem gX12_isPerson_0 : am_Good tT mX12_isPerson tX12_isPerson_0 := am_nd_ok (am_nd_ok (am_nd_ok (am_lf_ok (fun _ => ok_iload_n dX12_isPerson_0 rfl rfl)) (am_lf_ok (fun _ => ok_iconst dX12_isPerson_1 cv_iconst_0 rfl))) (am_nd_ok (am_lf_ok (fun _ => ok_aload_n dX12_isPerson_2 rfl rfl)) (am_nd_ok (am_lf_ok (fun _ => ok_get (C := RX12) (TT := TX12) (N := 31) rfl inw_X12 (Nat.le_of_ble_eq_true rfl) wd_448 dX12_isPerson_3 rfl)) (am_lf_ok (fun _ => ok_iconst dX12_isPerson_6 cv_iconst_1 rfl))))) (am_nd_ok (am_nd_ok (am_lf_ok (fun _ => ok_iald dX12_isPerson_7 rfl)) (am_lf_ok (fun _ => ok_iconst dX12_isPerson_8 cv_iconst_1 rfl))) (am_nd_ok (am_lf_ok (fun _ => ok_isub dX12_isPerson_9 rfl)) (am_nd_ok (am_lf_ok (fun _ => ok_csI rfl mw_X12_isIn wd_449 wd_450 dX12_isPerson_10 rfl)) (am_lf_ok (fun _ => ok_zret rfl dX12_isPerson_13)))))
def tX12_isPerson : Nat → Option am_Act := tX12_isPerson_0
theorem gX12_isPerson : am_Good tT mX12_isPerson tX12_isPerson := gX12_isPerson_0
theorem dX12_isBridge_0 : decode cX12_isBridge 0 = .ok (.iload_n 1, 1) := by decide +kernel
theorem dX12_isBridge_1 : decode cX12_isBridge 1 = .ok (.iconst 0, 1) := by decide +kernel
theorem dX12_isBridge_2 : decode cX12_isBridge 2 = .ok (.aload_n 0, 1) := by decide +kernel
theorem dX12_isBridge_3 : decode cX12_isBridge 3 = .ok (.getfield 7, 3) := by decide +kernel
theorem dX12_isBridge_6 : decode cX12_isBridge 6 = .ok (.iconst 2, 1) := by decide +kernel
theorem dX12_isBridge_7 : decode cX12_isBridge 7 = .ok (.iaload, 1) := by decide +kernel
theorem dX12_isBridge_8 : decode cX12_isBridge 8 = .ok (.iconst 1, 1) := by decide +kernel
theorem dX12_isBridge_9 : decode cX12_isBridge 9 = .ok (.isub, 1) := by decide +kernel
theorem dX12_isBridge_10 : decode cX12_isBridge 10 = .ok (.invokestatic 56, 3) := by decide +kernel
theorem dX12_isBridge_13 : decode cX12_isBridge 13 = .ok (.ireturn, 1) := by decide +kernel
def tX12_isBridge_0 : Nat → Option am_Act := am_nd 7 (am_nd 2 (am_nd 1 (am_lf 0 (a_iload 1 1)) (am_lf 1 (a_const (nI 0) 2))) (am_nd 3 (am_lf 2 (a_aload 0 3)) (am_nd 6 (am_lf 3 (a_get tT 12 0 6)) (am_lf 6 (a_const (nI 2) 7))))) (am_nd 9 (am_nd 8 (am_lf 7 (a_iald tT 8)) (am_lf 8 (a_const (nI 1) 9))) (am_nd 10 (am_lf 9 (a_bin (fun x y => x - y) 10)) (am_nd 13 (am_lf 10 (a_csI mX12_isIn 3 13)) (am_lf 13 (a_zret)))))
theorem gX12_isBridge_0 : am_Good tT mX12_isBridge tX12_isBridge_0 := am_nd_ok (am_nd_ok (am_nd_ok (am_lf_ok (fun _ => ok_iload_n dX12_isBridge_0 rfl rfl)) (am_lf_ok (fun _ => ok_iconst dX12_isBridge_1 cv_iconst_0 rfl))) (am_nd_ok (am_lf_ok (fun _ => ok_aload_n dX12_isBridge_2 rfl rfl)) (am_nd_ok (am_lf_ok (fun _ => ok_get (C := RX12) (TT := TX12) (N := 31) rfl inw_X12 (Nat.le_of_ble_eq_true rfl) wd_448 dX12_isBridge_3 rfl)) (am_lf_ok (fun _ => ok_iconst dX12_isBridge_6 cv_iconst_2 rfl))))) (am_nd_ok (am_nd_ok (am_lf_ok (fun _ => ok_iald dX12_isBridge_7 rfl)) (am_lf_ok (fun _ => ok_iconst dX12_isBridge_8 cv_iconst_1 rfl))) (am_nd_ok (am_lf_ok (fun _ => ok_isub dX12_isBridge_9 rfl)) (am_nd_ok (am_lf_ok (fun _ => ok_csI rfl mw_X12_isIn wd_449 wd_450 dX12_isBridge_10 rfl)) (am_lf_ok (fun _ => ok_zret rfl dX12_isBridge_13)))))
def tX12_isBridge : Nat → Option am_Act := tX12_isBridge_0
theorem gX12_isBridge : am_Good tT mX12_isBridge tX12_isBridge := gX12_isBridge_0
theorem dX12_own_0 : decode cX12_own 0 = .ok (.aload_n 0, 1) := by decide +kernel
theorem dX12_own_1 : decode cX12_own 1 = .ok (.getfield 7, 3) := by decide +kernel
theorem dX12_own_4 : decode cX12_own 4 = .ok (.bipush 90, 2) := by decide +kernel
theorem dX12_own_6 : decode cX12_own 6 = .ok (.bipush 16, 2) := by decide +kernel
theorem dX12_own_8 : decode cX12_own 8 = .ok (.iload_n 1, 1) := by decide +kernel
theorem dX12_own_9 : decode cX12_own 9 = .ok (.imul, 1) := by decide +kernel
theorem dX12_own_10 : decode cX12_own 10 = .ok (.iadd, 1) := by decide +kernel
theorem dX12_own_11 : decode cX12_own 11 = .ok (.iload_n 2, 1) := by decide +kernel
theorem dX12_own_12 : decode cX12_own 12 = .ok (.iadd, 1) := by decide +kernel
theorem dX12_own_13 : decode cX12_own 13 = .ok (.iaload, 1) := by decide +kernel
theorem dX12_own_14 : decode cX12_own 14 = .ok (.ireturn, 1) := by decide +kernel
def tX12_own_0 : Nat → Option am_Act := am_nd 9 (am_nd 4 (am_nd 1 (am_lf 0 (a_aload 0 1)) (am_lf 1 (a_get tT 12 0 4))) (am_nd 6 (am_lf 4 (a_const (nI 90) 6)) (am_nd 8 (am_lf 6 (a_const (nI 16) 8)) (am_lf 8 (a_iload 1 9))))) (am_nd 12 (am_nd 10 (am_lf 9 (a_bin (fun x y => x * y) 10)) (am_nd 11 (am_lf 10 (a_bin (fun x y => x + y) 11)) (am_lf 11 (a_iload 2 12)))) (am_nd 13 (am_lf 12 (a_bin (fun x y => x + y) 13)) (am_nd 14 (am_lf 13 (a_iald tT 14)) (am_lf 14 (a_iret)))))
theorem gX12_own_0 : am_Good tT mX12_own tX12_own_0 := am_nd_ok (am_nd_ok (am_nd_ok (am_lf_ok (fun _ => ok_aload_n dX12_own_0 rfl rfl)) (am_lf_ok (fun _ => ok_get (C := RX12) (TT := TX12) (N := 31) rfl inw_X12 (Nat.le_of_ble_eq_true rfl) wd_448 dX12_own_1 rfl))) (am_nd_ok (am_lf_ok (fun _ => ok_bipush dX12_own_4 cv_bipush_90 rfl)) (am_nd_ok (am_lf_ok (fun _ => ok_bipush dX12_own_6 cv_bipush_16 rfl)) (am_lf_ok (fun _ => ok_iload_n dX12_own_8 rfl rfl))))) (am_nd_ok (am_nd_ok (am_lf_ok (fun _ => ok_imul dX12_own_9 rfl)) (am_nd_ok (am_lf_ok (fun _ => ok_iadd dX12_own_10 rfl)) (am_lf_ok (fun _ => ok_iload_n dX12_own_11 rfl rfl)))) (am_nd_ok (am_lf_ok (fun _ => ok_iadd dX12_own_12 rfl)) (am_nd_ok (am_lf_ok (fun _ => ok_iald dX12_own_13 rfl)) (am_lf_ok (fun _ => ok_iret rfl dX12_own_14)))))
def tX12_own : Nat → Option am_Act := tX12_own_0
theorem gX12_own : am_Good tT mX12_own tX12_own := gX12_own_0
theorem dX12_gives_0 : decode cX12_gives 0 = .ok (.aload_n 0, 1) := by decide +kernel
theorem dX12_gives_1 : decode cX12_gives 1 = .ok (.getfield 7, 3) := by decide +kernel
theorem dX12_gives_4 : decode cX12_gives 4 = .ok (.bipush 90, 2) := by decide +kernel
theorem dX12_gives_6 : decode cX12_gives 6 = .ok (.bipush 16, 2) := by decide +kernel
theorem dX12_gives_8 : decode cX12_gives 8 = .ok (.iload_n 1, 1) := by decide +kernel
theorem dX12_gives_9 : decode cX12_gives 9 = .ok (.imul, 1) := by decide +kernel
theorem dX12_gives_10 : decode cX12_gives 10 = .ok (.iadd, 1) := by decide +kernel
theorem dX12_gives_11 : decode cX12_gives 11 = .ok (.iload_n 2, 1) := by decide +kernel
theorem dX12_gives_12 : decode cX12_gives 12 = .ok (.iadd, 1) := by decide +kernel
theorem dX12_gives_13 : decode cX12_gives 13 = .ok (.iload_n 3, 1) := by decide +kernel
theorem dX12_gives_14 : decode cX12_gives 14 = .ok (.iastore, 1) := by decide +kernel
theorem dX12_gives_15 : decode cX12_gives 15 = .ok (.return_, 1) := by decide +kernel
def tX12_gives_0 : Nat → Option am_Act := am_nd 10 (am_nd 6 (am_nd 1 (am_lf 0 (a_aload 0 1)) (am_nd 4 (am_lf 1 (a_get tT 12 0 4)) (am_lf 4 (a_const (nI 90) 6)))) (am_nd 8 (am_lf 6 (a_const (nI 16) 8)) (am_nd 9 (am_lf 8 (a_iload 1 9)) (am_lf 9 (a_bin (fun x y => x * y) 10))))) (am_nd 13 (am_nd 11 (am_lf 10 (a_bin (fun x y => x + y) 11)) (am_nd 12 (am_lf 11 (a_iload 2 12)) (am_lf 12 (a_bin (fun x y => x + y) 13)))) (am_nd 14 (am_lf 13 (a_iload 3 14)) (am_nd 15 (am_lf 14 (a_iast tT 15)) (am_lf 15 (a_ret)))))
theorem gX12_gives_0 : am_Good tT mX12_gives tX12_gives_0 := am_nd_ok (am_nd_ok (am_nd_ok (am_lf_ok (fun _ => ok_aload_n dX12_gives_0 rfl rfl)) (am_nd_ok (am_lf_ok (fun _ => ok_get (C := RX12) (TT := TX12) (N := 31) rfl inw_X12 (Nat.le_of_ble_eq_true rfl) wd_448 dX12_gives_1 rfl)) (am_lf_ok (fun _ => ok_bipush dX12_gives_4 cv_bipush_90 rfl)))) (am_nd_ok (am_lf_ok (fun _ => ok_bipush dX12_gives_6 cv_bipush_16 rfl)) (am_nd_ok (am_lf_ok (fun _ => ok_iload_n dX12_gives_8 rfl rfl)) (am_lf_ok (fun _ => ok_imul dX12_gives_9 rfl))))) (am_nd_ok (am_nd_ok (am_lf_ok (fun _ => ok_iadd dX12_gives_10 rfl)) (am_nd_ok (am_lf_ok (fun _ => ok_iload_n dX12_gives_11 rfl rfl)) (am_lf_ok (fun _ => ok_iadd dX12_gives_12 rfl)))) (am_nd_ok (am_lf_ok (fun _ => ok_iload_n dX12_gives_13 rfl rfl)) (am_nd_ok (am_lf_ok (fun _ => ok_iast dX12_gives_14 rfl)) (am_lf_ok (fun _ => ok_ret rfl dX12_gives_15)))))
def tX12_gives : Nat → Option am_Act := tX12_gives_0
theorem gX12_gives : am_Good tT mX12_gives tX12_gives := gX12_gives_0
theorem dX12_state_0 : decode cX12_state 0 = .ok (.aload_n 0, 1) := by decide +kernel
theorem dX12_state_1 : decode cX12_state 1 = .ok (.getfield 7, 3) := by decide +kernel
theorem dX12_state_4 : decode cX12_state 4 = .ok (.iconst 5, 1) := by decide +kernel
theorem dX12_state_5 : decode cX12_state 5 = .ok (.iaload, 1) := by decide +kernel
theorem dX12_state_6 : decode cX12_state 6 = .ok (.istore_n 2, 1) := by decide +kernel
theorem dX12_state_7 : decode cX12_state 7 = .ok (.aload_n 0, 1) := by decide +kernel
theorem dX12_state_8 : decode cX12_state 8 = .ok (.getfield 7, 3) := by decide +kernel
theorem dX12_state_11 : decode cX12_state 11 = .ok (.iconst 5, 1) := by decide +kernel
theorem dX12_state_12 : decode cX12_state 12 = .ok (.iload_n 1, 1) := by decide +kernel
theorem dX12_state_13 : decode cX12_state 13 = .ok (.iastore, 1) := by decide +kernel
theorem dX12_state_14 : decode cX12_state 14 = .ok (.iload_n 2, 1) := by decide +kernel
theorem dX12_state_15 : decode cX12_state 15 = .ok (.ireturn, 1) := by decide +kernel
def tX12_state_0 : Nat → Option am_Act := am_nd 8 (am_nd 5 (am_nd 1 (am_lf 0 (a_aload 0 1)) (am_nd 4 (am_lf 1 (a_get tT 12 0 4)) (am_lf 4 (a_const (nI 5) 5)))) (am_nd 6 (am_lf 5 (a_iald tT 6)) (am_nd 7 (am_lf 6 (a_istore 2 7)) (am_lf 7 (a_aload 0 8))))) (am_nd 13 (am_nd 11 (am_lf 8 (a_get tT 12 0 11)) (am_nd 12 (am_lf 11 (a_const (nI 5) 12)) (am_lf 12 (a_iload 1 13)))) (am_nd 14 (am_lf 13 (a_iast tT 14)) (am_nd 15 (am_lf 14 (a_iload 2 15)) (am_lf 15 (a_iret)))))
theorem gX12_state_0 : am_Good tT mX12_state tX12_state_0 := am_nd_ok (am_nd_ok (am_nd_ok (am_lf_ok (fun _ => ok_aload_n dX12_state_0 rfl rfl)) (am_nd_ok (am_lf_ok (fun _ => ok_get (C := RX12) (TT := TX12) (N := 31) rfl inw_X12 (Nat.le_of_ble_eq_true rfl) wd_448 dX12_state_1 rfl)) (am_lf_ok (fun _ => ok_iconst dX12_state_4 cv_iconst_5 rfl)))) (am_nd_ok (am_lf_ok (fun _ => ok_iald dX12_state_5 rfl)) (am_nd_ok (am_lf_ok (fun _ => ok_istore_n dX12_state_6 rfl (Nat.le_of_ble_eq_true rfl) rfl)) (am_lf_ok (fun _ => ok_aload_n dX12_state_7 rfl rfl))))) (am_nd_ok (am_nd_ok (am_lf_ok (fun _ => ok_get (C := RX12) (TT := TX12) (N := 31) rfl inw_X12 (Nat.le_of_ble_eq_true rfl) wd_448 dX12_state_8 rfl)) (am_nd_ok (am_lf_ok (fun _ => ok_iconst dX12_state_11 cv_iconst_5 rfl)) (am_lf_ok (fun _ => ok_iload_n dX12_state_12 rfl rfl)))) (am_nd_ok (am_lf_ok (fun _ => ok_iast dX12_state_13 rfl)) (am_nd_ok (am_lf_ok (fun _ => ok_iload_n dX12_state_14 rfl rfl)) (am_lf_ok (fun _ => ok_iret rfl dX12_state_15)))))
def tX12_state : Nat → Option am_Act := tX12_state_0
theorem gX12_state : am_Good tT mX12_state tX12_state := gX12_state_0
theorem dX12_draw_0 : decode cX12_draw 0 = .ok (.aload_n 0, 1) := by decide +kernel
theorem dX12_draw_1 : decode cX12_draw 1 = .ok (.getfield 7, 3) := by decide +kernel
theorem dX12_draw_4 : decode cX12_draw 4 = .ok (.iconst 5, 1) := by decide +kernel
theorem dX12_draw_5 : decode cX12_draw 5 = .ok (.ldc 60, 2) := by decide +kernel
theorem dX12_draw_7 : decode cX12_draw 7 = .ok (.aload_n 0, 1) := by decide +kernel
theorem dX12_draw_8 : decode cX12_draw 8 = .ok (.getfield 7, 3) := by decide +kernel
theorem dX12_draw_11 : decode cX12_draw 11 = .ok (.iconst 5, 1) := by decide +kernel
theorem dX12_draw_12 : decode cX12_draw 12 = .ok (.iaload, 1) := by decide +kernel
theorem dX12_draw_13 : decode cX12_draw 13 = .ok (.imul, 1) := by decide +kernel
theorem dX12_draw_14 : decode cX12_draw 14 = .ok (.ldc 61, 2) := by decide +kernel
theorem dX12_draw_16 : decode cX12_draw 16 = .ok (.iadd, 1) := by decide +kernel
theorem dX12_draw_17 : decode cX12_draw 17 = .ok (.iastore, 1) := by decide +kernel
theorem dX12_draw_18 : decode cX12_draw 18 = .ok (.aload_n 0, 1) := by decide +kernel
theorem dX12_draw_19 : decode cX12_draw 19 = .ok (.getfield 7, 3) := by decide +kernel
theorem dX12_draw_22 : decode cX12_draw 22 = .ok (.iconst 5, 1) := by decide +kernel
theorem dX12_draw_23 : decode cX12_draw 23 = .ok (.iaload, 1) := by decide +kernel
theorem dX12_draw_24 : decode cX12_draw 24 = .ok (.bipush 8, 2) := by decide +kernel
theorem dX12_draw_26 : decode cX12_draw 26 = .ok (.iushr, 1) := by decide +kernel
theorem dX12_draw_27 : decode cX12_draw 27 = .ok (.iload_n 1, 1) := by decide +kernel
theorem dX12_draw_28 : decode cX12_draw 28 = .ok (.irem, 1) := by decide +kernel
theorem dX12_draw_29 : decode cX12_draw 29 = .ok (.ireturn, 1) := by decide +kernel
def tX12_draw_0 : Nat → Option am_Act := am_nd 16 (am_nd 8 (am_nd 4 (am_nd 1 (am_lf 0 (a_aload 0 1)) (am_lf 1 (a_get tT 12 0 4))) (am_nd 5 (am_lf 4 (a_const (nI 5) 5)) (am_nd 7 (am_lf 5 (a_const (nI 1664525) 7)) (am_lf 7 (a_aload 0 8))))) (am_nd 12 (am_nd 11 (am_lf 8 (a_get tT 12 0 11)) (am_lf 11 (a_const (nI 5) 12))) (am_nd 13 (am_lf 12 (a_iald tT 13)) (am_nd 14 (am_lf 13 (a_bin (fun x y => x * y) 14)) (am_lf 14 (a_const (nI 1013904223) 16)))))) (am_nd 23 (am_nd 18 (am_nd 17 (am_lf 16 (a_bin (fun x y => x + y) 17)) (am_lf 17 (a_iast tT 18))) (am_nd 19 (am_lf 18 (a_aload 0 19)) (am_nd 22 (am_lf 19 (a_get tT 12 0 22)) (am_lf 22 (a_const (nI 5) 23))))) (am_nd 27 (am_nd 24 (am_lf 23 (a_iald tT 24)) (am_nd 26 (am_lf 24 (a_const (nI 8) 26)) (am_lf 26 (a_bin am_ushr 27)))) (am_nd 28 (am_lf 27 (a_iload 1 28)) (am_nd 29 (am_lf 28 (a_divr (fun x y => x - x / y * y) 29)) (am_lf 29 (a_iret))))))
theorem gX12_draw_0 : am_Good tT mX12_draw tX12_draw_0 := am_nd_ok (am_nd_ok (am_nd_ok (am_nd_ok (am_lf_ok (fun _ => ok_aload_n dX12_draw_0 rfl rfl)) (am_lf_ok (fun _ => ok_get (C := RX12) (TT := TX12) (N := 31) rfl inw_X12 (Nat.le_of_ble_eq_true rfl) wd_448 dX12_draw_1 rfl))) (am_nd_ok (am_lf_ok (fun _ => ok_iconst dX12_draw_4 cv_iconst_5 rfl)) (am_nd_ok (am_lf_ok (fun _ => ok_ldc wd_451 dX12_draw_5 rfl)) (am_lf_ok (fun _ => ok_aload_n dX12_draw_7 rfl rfl))))) (am_nd_ok (am_nd_ok (am_lf_ok (fun _ => ok_get (C := RX12) (TT := TX12) (N := 31) rfl inw_X12 (Nat.le_of_ble_eq_true rfl) wd_448 dX12_draw_8 rfl)) (am_lf_ok (fun _ => ok_iconst dX12_draw_11 cv_iconst_5 rfl))) (am_nd_ok (am_lf_ok (fun _ => ok_iald dX12_draw_12 rfl)) (am_nd_ok (am_lf_ok (fun _ => ok_imul dX12_draw_13 rfl)) (am_lf_ok (fun _ => ok_ldc wd_452 dX12_draw_14 rfl)))))) (am_nd_ok (am_nd_ok (am_nd_ok (am_lf_ok (fun _ => ok_iadd dX12_draw_16 rfl)) (am_lf_ok (fun _ => ok_iast dX12_draw_17 rfl))) (am_nd_ok (am_lf_ok (fun _ => ok_aload_n dX12_draw_18 rfl rfl)) (am_nd_ok (am_lf_ok (fun _ => ok_get (C := RX12) (TT := TX12) (N := 31) rfl inw_X12 (Nat.le_of_ble_eq_true rfl) wd_448 dX12_draw_19 rfl)) (am_lf_ok (fun _ => ok_iconst dX12_draw_22 cv_iconst_5 rfl))))) (am_nd_ok (am_nd_ok (am_lf_ok (fun _ => ok_iald dX12_draw_23 rfl)) (am_nd_ok (am_lf_ok (fun _ => ok_bipush dX12_draw_24 cv_bipush_8 rfl)) (am_lf_ok (fun _ => ok_iushr dX12_draw_26 rfl)))) (am_nd_ok (am_lf_ok (fun _ => ok_iload_n dX12_draw_27 rfl rfl)) (am_nd_ok (am_lf_ok (fun _ => ok_irem dX12_draw_28 rfl)) (am_lf_ok (fun _ => ok_iret rfl dX12_draw_29))))))
def tX12_draw : Nat → Option am_Act := tX12_draw_0
theorem gX12_draw : am_Good tT mX12_draw tX12_draw := gX12_draw_0
theorem dX12_forgets_0 : decode cX12_forgets 0 = .ok (.aload_n 0, 1) := by decide +kernel
theorem dX12_forgets_1 : decode cX12_forgets 1 = .ok (.iconst 0, 1) := by decide +kernel
theorem dX12_forgets_2 : decode cX12_forgets 2 = .ok (.putfield 62, 3) := by decide +kernel
theorem dX12_forgets_5 : decode cX12_forgets 5 = .ok (.return_, 1) := by decide +kernel
def tX12_forgets_0 : Nat → Option am_Act := am_nd 2 (am_nd 1 (am_lf 0 (a_aload 0 1)) (am_lf 1 (a_const (nI 0) 2))) (am_nd 5 (am_lf 2 (a_put tT 12 4 5)) (am_lf 5 (a_ret)))
theorem gX12_forgets_0 : am_Good tT mX12_forgets tX12_forgets_0 := am_nd_ok (am_nd_ok (am_lf_ok (fun _ => ok_aload_n dX12_forgets_0 rfl rfl)) (am_lf_ok (fun _ => ok_iconst dX12_forgets_1 cv_iconst_0 rfl))) (am_nd_ok (am_lf_ok (fun _ => ok_put (C := RX12) (TT := TX12) (N := 31) (ty0 := tyX12) rfl inw_X12 tyX12_ok nmX12 (Nat.le_of_ble_eq_true rfl) rfl rfl wd_453 dX12_forgets_2 rfl)) (am_lf_ok (fun _ => ok_ret rfl dX12_forgets_5)))
def tX12_forgets : Nat → Option am_Act := tX12_forgets_0
theorem gX12_forgets : am_Good tT mX12_forgets tX12_forgets := gX12_forgets_0
theorem dX12_name_0 : decode cX12_name 0 = .ok (.iload_n 1, 1) := by decide +kernel
theorem dX12_name_1 : decode cX12_name 1 = .ok (.iconst 0, 1) := by decide +kernel
theorem dX12_name_2 : decode cX12_name 2 = .ok (.iconst 3, 1) := by decide +kernel
theorem dX12_name_3 : decode cX12_name 3 = .ok (.invokestatic 56, 3) := by decide +kernel
theorem dX12_name_6 : decode cX12_name 6 = .ok (.ifCond .eq 24, 3) := by decide +kernel
theorem dX12_name_9 : decode cX12_name 9 = .ok (.iload_n 2, 1) := by decide +kernel
theorem dX12_name_10 : decode cX12_name 10 = .ok (.iconst 1, 1) := by decide +kernel
theorem dX12_name_11 : decode cX12_name 11 = .ok (.bipush 12, 2) := by decide +kernel
theorem dX12_name_13 : decode cX12_name 13 = .ok (.invokestatic 56, 3) := by decide +kernel
theorem dX12_name_16 : decode cX12_name 16 = .ok (.ifCond .eq 14, 3) := by decide +kernel
theorem dX12_name_19 : decode cX12_name 19 = .ok (.aload_n 0, 1) := by decide +kernel
theorem dX12_name_20 : decode cX12_name 20 = .ok (.getfield 7, 3) := by decide +kernel
theorem dX12_name_23 : decode cX12_name 23 = .ok (.iconst 0, 1) := by decide +kernel
theorem dX12_name_24 : decode cX12_name 24 = .ok (.iaload, 1) := by decide +kernel
theorem dX12_name_25 : decode cX12_name 25 = .ok (.bipush 20, 2) := by decide +kernel
theorem dX12_name_27 : decode cX12_name 27 = .ok (.if_icmp .ne 5, 3) := by decide +kernel
theorem dX12_name_30 : decode cX12_name 30 = .ok (.iconst (-1), 1) := by decide +kernel
theorem dX12_name_31 : decode cX12_name 31 = .ok (.ireturn, 1) := by decide +kernel
theorem dX12_name_32 : decode cX12_name 32 = .ok (.aload_n 0, 1) := by decide +kernel
theorem dX12_name_33 : decode cX12_name 33 = .ok (.getfield 7, 3) := by decide +kernel
theorem dX12_name_36 : decode cX12_name 36 = .ok (.bipush 10, 2) := by decide +kernel
theorem dX12_name_38 : decode cX12_name 38 = .ok (.aload_n 0, 1) := by decide +kernel
theorem dX12_name_39 : decode cX12_name 39 = .ok (.getfield 7, 3) := by decide +kernel
theorem dX12_name_42 : decode cX12_name 42 = .ok (.iconst 0, 1) := by decide +kernel
theorem dX12_name_43 : decode cX12_name 43 = .ok (.iaload, 1) := by decide +kernel
theorem dX12_name_44 : decode cX12_name 44 = .ok (.iadd, 1) := by decide +kernel
theorem dX12_name_45 : decode cX12_name 45 = .ok (.iload_n 1, 1) := by decide +kernel
theorem dX12_name_46 : decode cX12_name 46 = .ok (.iastore, 1) := by decide +kernel
theorem dX12_name_47 : decode cX12_name 47 = .ok (.aload_n 0, 1) := by decide +kernel
theorem dX12_name_48 : decode cX12_name 48 = .ok (.getfield 7, 3) := by decide +kernel
theorem dX12_name_51 : decode cX12_name 51 = .ok (.bipush 30, 2) := by decide +kernel
theorem dX12_name_53 : decode cX12_name 53 = .ok (.aload_n 0, 1) := by decide +kernel
theorem dX12_name_54 : decode cX12_name 54 = .ok (.getfield 7, 3) := by decide +kernel
theorem dX12_name_57 : decode cX12_name 57 = .ok (.iconst 0, 1) := by decide +kernel
theorem dX12_name_58 : decode cX12_name 58 = .ok (.iaload, 1) := by decide +kernel
theorem dX12_name_59 : decode cX12_name 59 = .ok (.iadd, 1) := by decide +kernel
theorem dX12_name_60 : decode cX12_name 60 = .ok (.iload_n 2, 1) := by decide +kernel
theorem dX12_name_61 : decode cX12_name 61 = .ok (.iastore, 1) := by decide +kernel
theorem dX12_name_62 : decode cX12_name 62 = .ok (.aload_n 0, 1) := by decide +kernel
theorem dX12_name_63 : decode cX12_name 63 = .ok (.getfield 7, 3) := by decide +kernel
theorem dX12_name_66 : decode cX12_name 66 = .ok (.iconst 0, 1) := by decide +kernel
theorem dX12_name_67 : decode cX12_name 67 = .ok (.dup2, 1) := by decide +kernel
theorem dX12_name_68 : decode cX12_name 68 = .ok (.iaload, 1) := by decide +kernel
theorem dX12_name_69 : decode cX12_name 69 = .ok (.iconst 1, 1) := by decide +kernel
theorem dX12_name_70 : decode cX12_name 70 = .ok (.iadd, 1) := by decide +kernel
theorem dX12_name_71 : decode cX12_name 71 = .ok (.iastore, 1) := by decide +kernel
theorem dX12_name_72 : decode cX12_name 72 = .ok (.aload_n 0, 1) := by decide +kernel
theorem dX12_name_73 : decode cX12_name 73 = .ok (.invokevirtual 65, 3) := by decide +kernel
theorem dX12_name_76 : decode cX12_name 76 = .ok (.aload_n 0, 1) := by decide +kernel
theorem dX12_name_77 : decode cX12_name 77 = .ok (.getfield 7, 3) := by decide +kernel
theorem dX12_name_80 : decode cX12_name 80 = .ok (.iconst 0, 1) := by decide +kernel
theorem dX12_name_81 : decode cX12_name 81 = .ok (.iaload, 1) := by decide +kernel
theorem dX12_name_82 : decode cX12_name 82 = .ok (.iconst 1, 1) := by decide +kernel
theorem dX12_name_83 : decode cX12_name 83 = .ok (.isub, 1) := by decide +kernel
theorem dX12_name_84 : decode cX12_name 84 = .ok (.ireturn, 1) := by decide +kernel
def tX12_name_0 : Nat → Option am_Act := am_nd 23 (am_nd 10 (am_nd 3 (am_nd 1 (am_lf 0 (a_iload 1 1)) (am_nd 2 (am_lf 1 (a_const (nI 0) 2)) (am_lf 2 (a_const (nI 3) 3)))) (am_nd 6 (am_lf 3 (a_csI mX12_isIn 3 6)) (am_nd 9 (am_lf 6 (a_if (fun x => x = nI 0) 30 9)) (am_lf 9 (a_iload 2 10))))) (am_nd 16 (am_nd 11 (am_lf 10 (a_const (nI 1) 11)) (am_nd 13 (am_lf 11 (a_const (nI 12) 13)) (am_lf 13 (a_csI mX12_isIn 3 16)))) (am_nd 19 (am_lf 16 (a_if (fun x => x = nI 0) 30 19)) (am_nd 20 (am_lf 19 (a_aload 0 20)) (am_lf 20 (a_get tT 12 0 23)))))) (am_nd 32 (am_nd 27 (am_nd 24 (am_lf 23 (a_const (nI 0) 24)) (am_nd 25 (am_lf 24 (a_iald tT 25)) (am_lf 25 (a_const (nI 20) 27)))) (am_nd 30 (am_lf 27 (a_cmp (fun x y => x = y) 30 32)) (am_nd 31 (am_lf 30 (a_const (-1) 31)) (am_lf 31 (a_iret))))) (am_nd 38 (am_nd 33 (am_lf 32 (a_aload 0 33)) (am_nd 36 (am_lf 33 (a_get tT 12 0 36)) (am_lf 36 (a_const (nI 10) 38)))) (am_nd 39 (am_lf 38 (a_aload 0 39)) (am_nd 42 (am_lf 39 (a_get tT 12 0 42)) (am_lf 42 (a_const (nI 0) 43))))))
theorem gX12_name_0 : am_Good tT mX12_name tX12_name_0 := am_nd_ok (am_nd_ok (am_nd_ok (am_nd_ok (am_lf_ok (fun _ => ok_iload_n dX12_name_0 rfl rfl)) (am_nd_ok (am_lf_ok (fun _ => ok_iconst dX12_name_1 cv_iconst_0 rfl)) (am_lf_ok (fun _ => ok_iconst dX12_name_2 cv_iconst_3 rfl)))) (am_nd_ok (am_lf_ok (fun _ => ok_csI rfl mw_X12_isIn wd_449 wd_450 dX12_name_3 rfl)) (am_nd_ok (am_lf_ok (fun _ => ok_if_eq dX12_name_6 rfl rfl)) (am_lf_ok (fun _ => ok_iload_n dX12_name_9 rfl rfl))))) (am_nd_ok (am_nd_ok (am_lf_ok (fun _ => ok_iconst dX12_name_10 cv_iconst_1 rfl)) (am_nd_ok (am_lf_ok (fun _ => ok_bipush dX12_name_11 cv_bipush_12 rfl)) (am_lf_ok (fun _ => ok_csI rfl mw_X12_isIn wd_449 wd_450 dX12_name_13 rfl)))) (am_nd_ok (am_lf_ok (fun _ => ok_if_eq dX12_name_16 rfl rfl)) (am_nd_ok (am_lf_ok (fun _ => ok_aload_n dX12_name_19 rfl rfl)) (am_lf_ok (fun _ => ok_get (C := RX12) (TT := TX12) (N := 31) rfl inw_X12 (Nat.le_of_ble_eq_true rfl) wd_448 dX12_name_20 rfl)))))) (am_nd_ok (am_nd_ok (am_nd_ok (am_lf_ok (fun _ => ok_iconst dX12_name_23 cv_iconst_0 rfl)) (am_nd_ok (am_lf_ok (fun _ => ok_iald dX12_name_24 rfl)) (am_lf_ok (fun _ => ok_bipush dX12_name_25 cv_bipush_20 rfl)))) (am_nd_ok (am_lf_ok (fun _ => ok_cmp_ne dX12_name_27 rfl rfl)) (am_nd_ok (am_lf_ok (fun _ => ok_iconst dX12_name_30 cv_iconst_m1 rfl)) (am_lf_ok (fun _ => ok_iret rfl dX12_name_31))))) (am_nd_ok (am_nd_ok (am_lf_ok (fun _ => ok_aload_n dX12_name_32 rfl rfl)) (am_nd_ok (am_lf_ok (fun _ => ok_get (C := RX12) (TT := TX12) (N := 31) rfl inw_X12 (Nat.le_of_ble_eq_true rfl) wd_448 dX12_name_33 rfl)) (am_lf_ok (fun _ => ok_bipush dX12_name_36 cv_bipush_10 rfl)))) (am_nd_ok (am_lf_ok (fun _ => ok_aload_n dX12_name_38 rfl rfl)) (am_nd_ok (am_lf_ok (fun _ => ok_get (C := RX12) (TT := TX12) (N := 31) rfl inw_X12 (Nat.le_of_ble_eq_true rfl) wd_448 dX12_name_39 rfl)) (am_lf_ok (fun _ => ok_iconst dX12_name_42 cv_iconst_0 rfl))))))
def tX12_name_1 : Nat → Option am_Act := am_nd 60 (am_nd 51 (am_nd 46 (am_nd 44 (am_lf 43 (a_iald tT 44)) (am_nd 45 (am_lf 44 (a_bin (fun x y => x + y) 45)) (am_lf 45 (a_iload 1 46)))) (am_nd 47 (am_lf 46 (a_iast tT 47)) (am_nd 48 (am_lf 47 (a_aload 0 48)) (am_lf 48 (a_get tT 12 0 51))))) (am_nd 57 (am_nd 53 (am_lf 51 (a_const (nI 30) 53)) (am_nd 54 (am_lf 53 (a_aload 0 54)) (am_lf 54 (a_get tT 12 0 57)))) (am_nd 58 (am_lf 57 (a_const (nI 0) 58)) (am_nd 59 (am_lf 58 (a_iald tT 59)) (am_lf 59 (a_bin (fun x y => x + y) 60)))))) (am_nd 68 (am_nd 63 (am_nd 61 (am_lf 60 (a_iload 2 61)) (am_nd 62 (am_lf 61 (a_iast tT 62)) (am_lf 62 (a_aload 0 63)))) (am_nd 66 (am_lf 63 (a_get tT 12 0 66)) (am_nd 67 (am_lf 66 (a_const (nI 0) 67)) (am_lf 67 (a_dup2 68))))) (am_nd 71 (am_nd 69 (am_lf 68 (a_iald tT 69)) (am_nd 70 (am_lf 69 (a_const (nI 1) 70)) (am_lf 70 (a_bin (fun x y => x + y) 71)))) (am_nd 72 (am_lf 71 (a_iast tT 72)) (am_nd 73 (am_lf 72 (a_aload 0 73)) (am_lf 73 (a_cvV tT mX12_forgets 12 0 76))))))
theorem gX12_name_1 : am_Good tT mX12_name tX12_name_1 := am_nd_ok (am_nd_ok (am_nd_ok (am_nd_ok (am_lf_ok (fun _ => ok_iald dX12_name_43 rfl)) (am_nd_ok (am_lf_ok (fun _ => ok_iadd dX12_name_44 rfl)) (am_lf_ok (fun _ => ok_iload_n dX12_name_45 rfl rfl)))) (am_nd_ok (am_lf_ok (fun _ => ok_iast dX12_name_46 rfl)) (am_nd_ok (am_lf_ok (fun _ => ok_aload_n dX12_name_47 rfl rfl)) (am_lf_ok (fun _ => ok_get (C := RX12) (TT := TX12) (N := 31) rfl inw_X12 (Nat.le_of_ble_eq_true rfl) wd_448 dX12_name_48 rfl))))) (am_nd_ok (am_nd_ok (am_lf_ok (fun _ => ok_bipush dX12_name_51 cv_bipush_30 rfl)) (am_nd_ok (am_lf_ok (fun _ => ok_aload_n dX12_name_53 rfl rfl)) (am_lf_ok (fun _ => ok_get (C := RX12) (TT := TX12) (N := 31) rfl inw_X12 (Nat.le_of_ble_eq_true rfl) wd_448 dX12_name_54 rfl)))) (am_nd_ok (am_lf_ok (fun _ => ok_iconst dX12_name_57 cv_iconst_0 rfl)) (am_nd_ok (am_lf_ok (fun _ => ok_iald dX12_name_58 rfl)) (am_lf_ok (fun _ => ok_iadd dX12_name_59 rfl)))))) (am_nd_ok (am_nd_ok (am_nd_ok (am_lf_ok (fun _ => ok_iload_n dX12_name_60 rfl rfl)) (am_nd_ok (am_lf_ok (fun _ => ok_iast dX12_name_61 rfl)) (am_lf_ok (fun _ => ok_aload_n dX12_name_62 rfl rfl)))) (am_nd_ok (am_lf_ok (fun _ => ok_get (C := RX12) (TT := TX12) (N := 31) rfl inw_X12 (Nat.le_of_ble_eq_true rfl) wd_448 dX12_name_63 rfl)) (am_nd_ok (am_lf_ok (fun _ => ok_iconst dX12_name_66 cv_iconst_0 rfl)) (am_lf_ok (fun _ => ok_dup2 dX12_name_67 rfl))))) (am_nd_ok (am_nd_ok (am_lf_ok (fun _ => ok_iald dX12_name_68 rfl)) (am_nd_ok (am_lf_ok (fun _ => ok_iconst dX12_name_69 cv_iconst_1 rfl)) (am_lf_ok (fun _ => ok_iadd dX12_name_70 rfl)))) (am_nd_ok (am_lf_ok (fun _ => ok_iast dX12_name_71 rfl)) (am_nd_ok (am_lf_ok (fun _ => ok_aload_n dX12_name_72 rfl rfl)) (am_lf_ok (fun _ => ok_cvV rfl mw_X12_forgets (ci := 12) rfl rfl wd_454 wd_455 wd_456 dX12_name_73 rfl))))))
def tX12_name_2 : Nat → Option am_Act := am_nd 81 (am_nd 77 (am_lf 76 (a_aload 0 77)) (am_nd 80 (am_lf 77 (a_get tT 12 0 80)) (am_lf 80 (a_const (nI 0) 81)))) (am_nd 83 (am_nd 82 (am_lf 81 (a_iald tT 82)) (am_lf 82 (a_const (nI 1) 83))) (am_nd 84 (am_lf 83 (a_bin (fun x y => x - y) 84)) (am_lf 84 (a_iret))))
theorem gX12_name_2 : am_Good tT mX12_name tX12_name_2 := am_nd_ok (am_nd_ok (am_lf_ok (fun _ => ok_aload_n dX12_name_76 rfl rfl)) (am_nd_ok (am_lf_ok (fun _ => ok_get (C := RX12) (TT := TX12) (N := 31) rfl inw_X12 (Nat.le_of_ble_eq_true rfl) wd_448 dX12_name_77 rfl)) (am_lf_ok (fun _ => ok_iconst dX12_name_80 cv_iconst_0 rfl)))) (am_nd_ok (am_nd_ok (am_lf_ok (fun _ => ok_iald dX12_name_81 rfl)) (am_lf_ok (fun _ => ok_iconst dX12_name_82 cv_iconst_1 rfl))) (am_nd_ok (am_lf_ok (fun _ => ok_isub dX12_name_83 rfl)) (am_lf_ok (fun _ => ok_iret rfl dX12_name_84))))
def tX12_name : Nat → Option am_Act := am_nd 43 (tX12_name_0) (am_nd 76 (tX12_name_1) (tX12_name_2))
theorem gX12_name : am_Good tT mX12_name tX12_name := am_nd_ok (gX12_name_0) (am_nd_ok (gX12_name_1) (gX12_name_2))
theorem dX12_person_0 : decode cX12_person 0 = .ok (.iload_n 1, 1) := by decide +kernel
theorem dX12_person_1 : decode cX12_person 1 = .ok (.invokestatic 68, 3) := by decide +kernel
theorem dX12_person_4 : decode cX12_person 4 = .ok (.ifCond .eq 25, 3) := by decide +kernel
theorem dX12_person_7 : decode cX12_person 7 = .ok (.iload_n 2, 1) := by decide +kernel
theorem dX12_person_8 : decode cX12_person 8 = .ok (.iconst 0, 1) := by decide +kernel
theorem dX12_person_9 : decode cX12_person 9 = .ok (.sipush 9999, 3) := by decide +kernel
theorem dX12_person_12 : decode cX12_person 12 = .ok (.invokestatic 56, 3) := by decide +kernel
theorem dX12_person_15 : decode cX12_person 15 = .ok (.ifCond .eq 14, 3) := by decide +kernel
theorem dX12_person_18 : decode cX12_person 18 = .ok (.aload_n 0, 1) := by decide +kernel
theorem dX12_person_19 : decode cX12_person 19 = .ok (.getfield 7, 3) := by decide +kernel
theorem dX12_person_22 : decode cX12_person 22 = .ok (.iconst 1, 1) := by decide +kernel
theorem dX12_person_23 : decode cX12_person 23 = .ok (.iaload, 1) := by decide +kernel
theorem dX12_person_24 : decode cX12_person 24 = .ok (.bipush 8, 2) := by decide +kernel
theorem dX12_person_26 : decode cX12_person 26 = .ok (.if_icmp .ne 5, 3) := by decide +kernel
theorem dX12_person_29 : decode cX12_person 29 = .ok (.iconst (-1), 1) := by decide +kernel
theorem dX12_person_30 : decode cX12_person 30 = .ok (.ireturn, 1) := by decide +kernel
theorem dX12_person_31 : decode cX12_person 31 = .ok (.aload_n 0, 1) := by decide +kernel
theorem dX12_person_32 : decode cX12_person 32 = .ok (.getfield 7, 3) := by decide +kernel
theorem dX12_person_35 : decode cX12_person 35 = .ok (.iconst 1, 1) := by decide +kernel
theorem dX12_person_36 : decode cX12_person 36 = .ok (.iaload, 1) := by decide +kernel
theorem dX12_person_37 : decode cX12_person 37 = .ok (.istore_n 3, 1) := by decide +kernel
theorem dX12_person_38 : decode cX12_person 38 = .ok (.iconst 0, 1) := by decide +kernel
theorem dX12_person_39 : decode cX12_person 39 = .ok (.istore 4, 2) := by decide +kernel
theorem dX12_person_41 : decode cX12_person 41 = .ok (.iload 4, 2) := by decide +kernel
theorem dX12_person_43 : decode cX12_person 43 = .ok (.bipush 16, 2) := by decide +kernel
theorem dX12_person_45 : decode cX12_person 45 = .ok (.if_icmp .ge 17, 3) := by decide +kernel
theorem dX12_person_48 : decode cX12_person 48 = .ok (.aload_n 0, 1) := by decide +kernel
theorem dX12_person_49 : decode cX12_person 49 = .ok (.iload_n 3, 1) := by decide +kernel
theorem dX12_person_50 : decode cX12_person 50 = .ok (.iload 4, 2) := by decide +kernel
theorem dX12_person_52 : decode cX12_person 52 = .ok (.iconst 0, 1) := by decide +kernel
theorem dX12_person_53 : decode cX12_person 53 = .ok (.invokevirtual 72, 3) := by decide +kernel
theorem dX12_person_56 : decode cX12_person 56 = .ok (.iinc 4 1, 3) := by decide +kernel
theorem dX12_person_59 : decode cX12_person 59 = .ok (.goto (-18), 3) := by decide +kernel
theorem dX12_person_62 : decode cX12_person 62 = .ok (.aload_n 0, 1) := by decide +kernel
theorem dX12_person_63 : decode cX12_person 63 = .ok (.iload_n 3, 1) := by decide +kernel
theorem dX12_person_64 : decode cX12_person 64 = .ok (.iconst 0, 1) := by decide +kernel
theorem dX12_person_65 : decode cX12_person 65 = .ok (.iload_n 1, 1) := by decide +kernel
theorem dX12_person_66 : decode cX12_person 66 = .ok (.invokevirtual 72, 3) := by decide +kernel
theorem dX12_person_69 : decode cX12_person 69 = .ok (.aload_n 0, 1) := by decide +kernel
theorem dX12_person_70 : decode cX12_person 70 = .ok (.iload_n 3, 1) := by decide +kernel
theorem dX12_person_71 : decode cX12_person 71 = .ok (.iconst 1, 1) := by decide +kernel
theorem dX12_person_72 : decode cX12_person 72 = .ok (.iload_n 2, 1) := by decide +kernel
theorem dX12_person_73 : decode cX12_person 73 = .ok (.invokevirtual 72, 3) := by decide +kernel
theorem dX12_person_76 : decode cX12_person 76 = .ok (.aload_n 0, 1) := by decide +kernel
theorem dX12_person_77 : decode cX12_person 77 = .ok (.getfield 7, 3) := by decide +kernel
theorem dX12_person_80 : decode cX12_person 80 = .ok (.iconst 1, 1) := by decide +kernel
theorem dX12_person_81 : decode cX12_person 81 = .ok (.dup2, 1) := by decide +kernel
theorem dX12_person_82 : decode cX12_person 82 = .ok (.iaload, 1) := by decide +kernel
theorem dX12_person_83 : decode cX12_person 83 = .ok (.iconst 1, 1) := by decide +kernel
theorem dX12_person_84 : decode cX12_person 84 = .ok (.iadd, 1) := by decide +kernel
theorem dX12_person_85 : decode cX12_person 85 = .ok (.iastore, 1) := by decide +kernel
theorem dX12_person_86 : decode cX12_person 86 = .ok (.aload_n 0, 1) := by decide +kernel
theorem dX12_person_87 : decode cX12_person 87 = .ok (.invokevirtual 65, 3) := by decide +kernel
theorem dX12_person_90 : decode cX12_person 90 = .ok (.iload_n 3, 1) := by decide +kernel
theorem dX12_person_91 : decode cX12_person 91 = .ok (.ireturn, 1) := by decide +kernel
def tX12_person_0 : Nat → Option am_Act := am_nd 24 (am_nd 12 (am_nd 7 (am_nd 1 (am_lf 0 (a_iload 1 1)) (am_nd 4 (am_lf 1 (a_csI mX12_isPlace 1 4)) (am_lf 4 (a_if (fun x => x = nI 0) 29 7)))) (am_nd 8 (am_lf 7 (a_iload 2 8)) (am_nd 9 (am_lf 8 (a_const (nI 0) 9)) (am_lf 9 (a_const (nI 9999) 12))))) (am_nd 19 (am_nd 15 (am_lf 12 (a_csI mX12_isIn 3 15)) (am_nd 18 (am_lf 15 (a_if (fun x => x = nI 0) 29 18)) (am_lf 18 (a_aload 0 19)))) (am_nd 22 (am_lf 19 (a_get tT 12 0 22)) (am_nd 23 (am_lf 22 (a_const (nI 1) 23)) (am_lf 23 (a_iald tT 24)))))) (am_nd 35 (am_nd 30 (am_nd 26 (am_lf 24 (a_const (nI 8) 26)) (am_nd 29 (am_lf 26 (a_cmp (fun x y => x = y) 29 31)) (am_lf 29 (a_const (-1) 30)))) (am_nd 31 (am_lf 30 (a_iret)) (am_nd 32 (am_lf 31 (a_aload 0 32)) (am_lf 32 (a_get tT 12 0 35))))) (am_nd 38 (am_nd 36 (am_lf 35 (a_const (nI 1) 36)) (am_nd 37 (am_lf 36 (a_iald tT 37)) (am_lf 37 (a_istore 3 38)))) (am_nd 39 (am_lf 38 (a_const (nI 0) 39)) (am_nd 41 (am_lf 39 (a_istore 4 41)) (am_lf 41 (a_iload 4 43))))))
theorem gX12_person_0 : am_Good tT mX12_person tX12_person_0 := am_nd_ok (am_nd_ok (am_nd_ok (am_nd_ok (am_lf_ok (fun _ => ok_iload_n dX12_person_0 rfl rfl)) (am_nd_ok (am_lf_ok (fun _ => ok_csI rfl mw_X12_isPlace wd_457 wd_458 dX12_person_1 rfl)) (am_lf_ok (fun _ => ok_if_eq dX12_person_4 rfl rfl)))) (am_nd_ok (am_lf_ok (fun _ => ok_iload_n dX12_person_7 rfl rfl)) (am_nd_ok (am_lf_ok (fun _ => ok_iconst dX12_person_8 cv_iconst_0 rfl)) (am_lf_ok (fun _ => ok_sipush dX12_person_9 cv_sipush_9999 rfl))))) (am_nd_ok (am_nd_ok (am_lf_ok (fun _ => ok_csI rfl mw_X12_isIn wd_449 wd_450 dX12_person_12 rfl)) (am_nd_ok (am_lf_ok (fun _ => ok_if_eq dX12_person_15 rfl rfl)) (am_lf_ok (fun _ => ok_aload_n dX12_person_18 rfl rfl)))) (am_nd_ok (am_lf_ok (fun _ => ok_get (C := RX12) (TT := TX12) (N := 31) rfl inw_X12 (Nat.le_of_ble_eq_true rfl) wd_448 dX12_person_19 rfl)) (am_nd_ok (am_lf_ok (fun _ => ok_iconst dX12_person_22 cv_iconst_1 rfl)) (am_lf_ok (fun _ => ok_iald dX12_person_23 rfl)))))) (am_nd_ok (am_nd_ok (am_nd_ok (am_lf_ok (fun _ => ok_bipush dX12_person_24 cv_bipush_8 rfl)) (am_nd_ok (am_lf_ok (fun _ => ok_cmp_ne dX12_person_26 rfl rfl)) (am_lf_ok (fun _ => ok_iconst dX12_person_29 cv_iconst_m1 rfl)))) (am_nd_ok (am_lf_ok (fun _ => ok_iret rfl dX12_person_30)) (am_nd_ok (am_lf_ok (fun _ => ok_aload_n dX12_person_31 rfl rfl)) (am_lf_ok (fun _ => ok_get (C := RX12) (TT := TX12) (N := 31) rfl inw_X12 (Nat.le_of_ble_eq_true rfl) wd_448 dX12_person_32 rfl))))) (am_nd_ok (am_nd_ok (am_lf_ok (fun _ => ok_iconst dX12_person_35 cv_iconst_1 rfl)) (am_nd_ok (am_lf_ok (fun _ => ok_iald dX12_person_36 rfl)) (am_lf_ok (fun _ => ok_istore_n dX12_person_37 rfl (Nat.le_of_ble_eq_true rfl) rfl)))) (am_nd_ok (am_lf_ok (fun _ => ok_iconst dX12_person_38 cv_iconst_0 rfl)) (am_nd_ok (am_lf_ok (fun _ => ok_istore dX12_person_39 (Nat.le_of_ble_eq_true rfl) rfl)) (am_lf_ok (fun _ => ok_iload dX12_person_41 rfl))))))
def tX12_person_1 : Nat → Option am_Act := am_nd 65 (am_nd 53 (am_nd 49 (am_nd 45 (am_lf 43 (a_const (nI 16) 45)) (am_nd 48 (am_lf 45 (a_cmp (fun x y => y ≤ x) 62 48)) (am_lf 48 (a_aload 0 49)))) (am_nd 50 (am_lf 49 (a_iload 3 50)) (am_nd 52 (am_lf 50 (a_iload 4 52)) (am_lf 52 (a_const (nI 0) 53))))) (am_nd 62 (am_nd 56 (am_lf 53 (a_cvV tT mX12_gives 12 3 56)) (am_nd 59 (am_lf 56 (a_iinc 4 (nI 1) 59)) (am_lf 59 (a_goto 41)))) (am_nd 63 (am_lf 62 (a_aload 0 63)) (am_nd 64 (am_lf 63 (a_iload 3 64)) (am_lf 64 (a_const (nI 0) 65)))))) (am_nd 73 (am_nd 70 (am_nd 66 (am_lf 65 (a_iload 1 66)) (am_nd 69 (am_lf 66 (a_cvV tT mX12_gives 12 3 69)) (am_lf 69 (a_aload 0 70)))) (am_nd 71 (am_lf 70 (a_iload 3 71)) (am_nd 72 (am_lf 71 (a_const (nI 1) 72)) (am_lf 72 (a_iload 2 73))))) (am_nd 80 (am_nd 76 (am_lf 73 (a_cvV tT mX12_gives 12 3 76)) (am_nd 77 (am_lf 76 (a_aload 0 77)) (am_lf 77 (a_get tT 12 0 80)))) (am_nd 81 (am_lf 80 (a_const (nI 1) 81)) (am_nd 82 (am_lf 81 (a_dup2 82)) (am_lf 82 (a_iald tT 83))))))
theorem gX12_person_1 : am_Good tT mX12_person tX12_person_1 := am_nd_ok (am_nd_ok (am_nd_ok (am_nd_ok (am_lf_ok (fun _ => ok_bipush dX12_person_43 cv_bipush_16 rfl)) (am_nd_ok (am_lf_ok (fun _ => ok_cmp_ge dX12_person_45 rfl rfl)) (am_lf_ok (fun _ => ok_aload_n dX12_person_48 rfl rfl)))) (am_nd_ok (am_lf_ok (fun _ => ok_iload_n dX12_person_49 rfl rfl)) (am_nd_ok (am_lf_ok (fun _ => ok_iload dX12_person_50 rfl)) (am_lf_ok (fun _ => ok_iconst dX12_person_52 cv_iconst_0 rfl))))) (am_nd_ok (am_nd_ok (am_lf_ok (fun _ => ok_cvV rfl mw_X12_gives (ci := 12) rfl rfl wd_459 wd_460 wd_461 dX12_person_53 rfl)) (am_nd_ok (am_lf_ok (fun _ => ok_iinc dX12_person_56 cv_iconst_1 (Nat.le_of_ble_eq_true rfl) rfl)) (am_lf_ok (fun _ => ok_goto dX12_person_59 rfl)))) (am_nd_ok (am_lf_ok (fun _ => ok_aload_n dX12_person_62 rfl rfl)) (am_nd_ok (am_lf_ok (fun _ => ok_iload_n dX12_person_63 rfl rfl)) (am_lf_ok (fun _ => ok_iconst dX12_person_64 cv_iconst_0 rfl)))))) (am_nd_ok (am_nd_ok (am_nd_ok (am_lf_ok (fun _ => ok_iload_n dX12_person_65 rfl rfl)) (am_nd_ok (am_lf_ok (fun _ => ok_cvV rfl mw_X12_gives (ci := 12) rfl rfl wd_459 wd_460 wd_461 dX12_person_66 rfl)) (am_lf_ok (fun _ => ok_aload_n dX12_person_69 rfl rfl)))) (am_nd_ok (am_lf_ok (fun _ => ok_iload_n dX12_person_70 rfl rfl)) (am_nd_ok (am_lf_ok (fun _ => ok_iconst dX12_person_71 cv_iconst_1 rfl)) (am_lf_ok (fun _ => ok_iload_n dX12_person_72 rfl rfl))))) (am_nd_ok (am_nd_ok (am_lf_ok (fun _ => ok_cvV rfl mw_X12_gives (ci := 12) rfl rfl wd_459 wd_460 wd_461 dX12_person_73 rfl)) (am_nd_ok (am_lf_ok (fun _ => ok_aload_n dX12_person_76 rfl rfl)) (am_lf_ok (fun _ => ok_get (C := RX12) (TT := TX12) (N := 31) rfl inw_X12 (Nat.le_of_ble_eq_true rfl) wd_448 dX12_person_77 rfl)))) (am_nd_ok (am_lf_ok (fun _ => ok_iconst dX12_person_80 cv_iconst_1 rfl)) (am_nd_ok (am_lf_ok (fun _ => ok_dup2 dX12_person_81 rfl)) (am_lf_ok (fun _ => ok_iald dX12_person_82 rfl))))))
def tX12_person_2 : Nat → Option am_Act := am_nd 86 (am_nd 84 (am_lf 83 (a_const (nI 1) 84)) (am_nd 85 (am_lf 84 (a_bin (fun x y => x + y) 85)) (am_lf 85 (a_iast tT 86)))) (am_nd 90 (am_nd 87 (am_lf 86 (a_aload 0 87)) (am_lf 87 (a_cvV tT mX12_forgets 12 0 90))) (am_nd 91 (am_lf 90 (a_iload 3 91)) (am_lf 91 (a_iret))))
theorem gX12_person_2 : am_Good tT mX12_person tX12_person_2 := am_nd_ok (am_nd_ok (am_lf_ok (fun _ => ok_iconst dX12_person_83 cv_iconst_1 rfl)) (am_nd_ok (am_lf_ok (fun _ => ok_iadd dX12_person_84 rfl)) (am_lf_ok (fun _ => ok_iast dX12_person_85 rfl)))) (am_nd_ok (am_nd_ok (am_lf_ok (fun _ => ok_aload_n dX12_person_86 rfl rfl)) (am_lf_ok (fun _ => ok_cvV rfl mw_X12_forgets (ci := 12) rfl rfl wd_454 wd_455 wd_456 dX12_person_87 rfl))) (am_nd_ok (am_lf_ok (fun _ => ok_iload_n dX12_person_90 rfl rfl)) (am_lf_ok (fun _ => ok_iret rfl dX12_person_91))))
def tX12_person : Nat → Option am_Act := am_nd 43 (tX12_person_0) (am_nd 83 (tX12_person_1) (tX12_person_2))
theorem gX12_person : am_Good tT mX12_person tX12_person := am_nd_ok (gX12_person_0) (am_nd_ok (gX12_person_1) (gX12_person_2))
theorem dX12_bridge_0 : decode cX12_bridge 0 = .ok (.iload_n 1, 1) := by decide +kernel
theorem dX12_bridge_1 : decode cX12_bridge 1 = .ok (.invokestatic 68, 3) := by decide +kernel
theorem dX12_bridge_4 : decode cX12_bridge 4 = .ok (.ifCond .eq 26, 3) := by decide +kernel
theorem dX12_bridge_7 : decode cX12_bridge 7 = .ok (.iload_n 2, 1) := by decide +kernel
theorem dX12_bridge_8 : decode cX12_bridge 8 = .ok (.invokestatic 68, 3) := by decide +kernel
theorem dX12_bridge_11 : decode cX12_bridge 11 = .ok (.ifCond .eq 19, 3) := by decide +kernel
theorem dX12_bridge_14 : decode cX12_bridge 14 = .ok (.iload_n 1, 1) := by decide +kernel
theorem dX12_bridge_15 : decode cX12_bridge 15 = .ok (.iload_n 2, 1) := by decide +kernel
theorem dX12_bridge_16 : decode cX12_bridge 16 = .ok (.if_icmp .eq 14, 3) := by decide +kernel
theorem dX12_bridge_19 : decode cX12_bridge 19 = .ok (.aload_n 0, 1) := by decide +kernel
theorem dX12_bridge_20 : decode cX12_bridge 20 = .ok (.getfield 7, 3) := by decide +kernel
theorem dX12_bridge_23 : decode cX12_bridge 23 = .ok (.iconst 2, 1) := by decide +kernel
theorem dX12_bridge_24 : decode cX12_bridge 24 = .ok (.iaload, 1) := by decide +kernel
theorem dX12_bridge_25 : decode cX12_bridge 25 = .ok (.bipush 12, 2) := by decide +kernel
theorem dX12_bridge_27 : decode cX12_bridge 27 = .ok (.if_icmp .ne 5, 3) := by decide +kernel
theorem dX12_bridge_30 : decode cX12_bridge 30 = .ok (.iconst (-1), 1) := by decide +kernel
theorem dX12_bridge_31 : decode cX12_bridge 31 = .ok (.ireturn, 1) := by decide +kernel
theorem dX12_bridge_32 : decode cX12_bridge 32 = .ok (.aload_n 0, 1) := by decide +kernel
theorem dX12_bridge_33 : decode cX12_bridge 33 = .ok (.getfield 7, 3) := by decide +kernel
theorem dX12_bridge_36 : decode cX12_bridge 36 = .ok (.bipush 50, 2) := by decide +kernel
theorem dX12_bridge_38 : decode cX12_bridge 38 = .ok (.iconst 2, 1) := by decide +kernel
theorem dX12_bridge_39 : decode cX12_bridge 39 = .ok (.aload_n 0, 1) := by decide +kernel
theorem dX12_bridge_40 : decode cX12_bridge 40 = .ok (.getfield 7, 3) := by decide +kernel
theorem dX12_bridge_43 : decode cX12_bridge 43 = .ok (.iconst 2, 1) := by decide +kernel
theorem dX12_bridge_44 : decode cX12_bridge 44 = .ok (.iaload, 1) := by decide +kernel
theorem dX12_bridge_45 : decode cX12_bridge 45 = .ok (.imul, 1) := by decide +kernel
theorem dX12_bridge_46 : decode cX12_bridge 46 = .ok (.iadd, 1) := by decide +kernel
theorem dX12_bridge_47 : decode cX12_bridge 47 = .ok (.iload_n 1, 1) := by decide +kernel
theorem dX12_bridge_48 : decode cX12_bridge 48 = .ok (.iastore, 1) := by decide +kernel
theorem dX12_bridge_49 : decode cX12_bridge 49 = .ok (.aload_n 0, 1) := by decide +kernel
theorem dX12_bridge_50 : decode cX12_bridge 50 = .ok (.getfield 7, 3) := by decide +kernel
theorem dX12_bridge_53 : decode cX12_bridge 53 = .ok (.bipush 50, 2) := by decide +kernel
theorem dX12_bridge_55 : decode cX12_bridge 55 = .ok (.iconst 2, 1) := by decide +kernel
theorem dX12_bridge_56 : decode cX12_bridge 56 = .ok (.aload_n 0, 1) := by decide +kernel
theorem dX12_bridge_57 : decode cX12_bridge 57 = .ok (.getfield 7, 3) := by decide +kernel
theorem dX12_bridge_60 : decode cX12_bridge 60 = .ok (.iconst 2, 1) := by decide +kernel
theorem dX12_bridge_61 : decode cX12_bridge 61 = .ok (.iaload, 1) := by decide +kernel
theorem dX12_bridge_62 : decode cX12_bridge 62 = .ok (.imul, 1) := by decide +kernel
theorem dX12_bridge_63 : decode cX12_bridge 63 = .ok (.iadd, 1) := by decide +kernel
theorem dX12_bridge_64 : decode cX12_bridge 64 = .ok (.iconst 1, 1) := by decide +kernel
theorem dX12_bridge_65 : decode cX12_bridge 65 = .ok (.iadd, 1) := by decide +kernel
theorem dX12_bridge_66 : decode cX12_bridge 66 = .ok (.iload_n 2, 1) := by decide +kernel
theorem dX12_bridge_67 : decode cX12_bridge 67 = .ok (.iastore, 1) := by decide +kernel
theorem dX12_bridge_68 : decode cX12_bridge 68 = .ok (.aload_n 0, 1) := by decide +kernel
theorem dX12_bridge_69 : decode cX12_bridge 69 = .ok (.getfield 7, 3) := by decide +kernel
theorem dX12_bridge_72 : decode cX12_bridge 72 = .ok (.iconst 2, 1) := by decide +kernel
theorem dX12_bridge_73 : decode cX12_bridge 73 = .ok (.dup2, 1) := by decide +kernel
theorem dX12_bridge_74 : decode cX12_bridge 74 = .ok (.iaload, 1) := by decide +kernel
theorem dX12_bridge_75 : decode cX12_bridge 75 = .ok (.iconst 1, 1) := by decide +kernel
theorem dX12_bridge_76 : decode cX12_bridge 76 = .ok (.iadd, 1) := by decide +kernel
theorem dX12_bridge_77 : decode cX12_bridge 77 = .ok (.iastore, 1) := by decide +kernel
theorem dX12_bridge_78 : decode cX12_bridge 78 = .ok (.aload_n 0, 1) := by decide +kernel
theorem dX12_bridge_79 : decode cX12_bridge 79 = .ok (.invokevirtual 65, 3) := by decide +kernel
theorem dX12_bridge_82 : decode cX12_bridge 82 = .ok (.aload_n 0, 1) := by decide +kernel
theorem dX12_bridge_83 : decode cX12_bridge 83 = .ok (.getfield 7, 3) := by decide +kernel
theorem dX12_bridge_86 : decode cX12_bridge 86 = .ok (.iconst 2, 1) := by decide +kernel
theorem dX12_bridge_87 : decode cX12_bridge 87 = .ok (.iaload, 1) := by decide +kernel
theorem dX12_bridge_88 : decode cX12_bridge 88 = .ok (.iconst 1, 1) := by decide +kernel
theorem dX12_bridge_89 : decode cX12_bridge 89 = .ok (.isub, 1) := by decide +kernel
theorem dX12_bridge_90 : decode cX12_bridge 90 = .ok (.ireturn, 1) := by decide +kernel
def tX12_bridge_0 : Nat → Option am_Act := am_nd 24 (am_nd 14 (am_nd 7 (am_nd 1 (am_lf 0 (a_iload 1 1)) (am_nd 4 (am_lf 1 (a_csI mX12_isPlace 1 4)) (am_lf 4 (a_if (fun x => x = nI 0) 30 7)))) (am_nd 8 (am_lf 7 (a_iload 2 8)) (am_nd 11 (am_lf 8 (a_csI mX12_isPlace 1 11)) (am_lf 11 (a_if (fun x => x = nI 0) 30 14))))) (am_nd 19 (am_nd 15 (am_lf 14 (a_iload 1 15)) (am_nd 16 (am_lf 15 (a_iload 2 16)) (am_lf 16 (a_cmp (fun x y => x = y) 30 19)))) (am_nd 20 (am_lf 19 (a_aload 0 20)) (am_nd 23 (am_lf 20 (a_get tT 12 0 23)) (am_lf 23 (a_const (nI 2) 24)))))) (am_nd 33 (am_nd 30 (am_nd 25 (am_lf 24 (a_iald tT 25)) (am_nd 27 (am_lf 25 (a_const (nI 12) 27)) (am_lf 27 (a_cmp (fun x y => x = y) 30 32)))) (am_nd 31 (am_lf 30 (a_const (-1) 31)) (am_nd 32 (am_lf 31 (a_iret)) (am_lf 32 (a_aload 0 33))))) (am_nd 39 (am_nd 36 (am_lf 33 (a_get tT 12 0 36)) (am_nd 38 (am_lf 36 (a_const (nI 50) 38)) (am_lf 38 (a_const (nI 2) 39)))) (am_nd 40 (am_lf 39 (a_aload 0 40)) (am_nd 43 (am_lf 40 (a_get tT 12 0 43)) (am_lf 43 (a_const (nI 2) 44))))))
theorem gX12_bridge_0 : am_Good tT mX12_bridge tX12_bridge_0 := am_nd_ok (am_nd_ok (am_nd_ok (am_nd_ok (am_lf_ok (fun _ => ok_iload_n dX12_bridge_0 rfl rfl)) (am_nd_ok (am_lf_ok (fun _ => ok_csI rfl mw_X12_isPlace wd_457 wd_458 dX12_bridge_1 rfl)) (am_lf_ok (fun _ => ok_if_eq dX12_bridge_4 rfl rfl)))) (am_nd_ok (am_lf_ok (fun _ => ok_iload_n dX12_bridge_7 rfl rfl)) (am_nd_ok (am_lf_ok (fun _ => ok_csI rfl mw_X12_isPlace wd_457 wd_458 dX12_bridge_8 rfl)) (am_lf_ok (fun _ => ok_if_eq dX12_bridge_11 rfl rfl))))) (am_nd_ok (am_nd_ok (am_lf_ok (fun _ => ok_iload_n dX12_bridge_14 rfl rfl)) (am_nd_ok (am_lf_ok (fun _ => ok_iload_n dX12_bridge_15 rfl rfl)) (am_lf_ok (fun _ => ok_cmp_eq dX12_bridge_16 rfl rfl)))) (am_nd_ok (am_lf_ok (fun _ => ok_aload_n dX12_bridge_19 rfl rfl)) (am_nd_ok (am_lf_ok (fun _ => ok_get (C := RX12) (TT := TX12) (N := 31) rfl inw_X12 (Nat.le_of_ble_eq_true rfl) wd_448 dX12_bridge_20 rfl)) (am_lf_ok (fun _ => ok_iconst dX12_bridge_23 cv_iconst_2 rfl)))))) (am_nd_ok (am_nd_ok (am_nd_ok (am_lf_ok (fun _ => ok_iald dX12_bridge_24 rfl)) (am_nd_ok (am_lf_ok (fun _ => ok_bipush dX12_bridge_25 cv_bipush_12 rfl)) (am_lf_ok (fun _ => ok_cmp_ne dX12_bridge_27 rfl rfl)))) (am_nd_ok (am_lf_ok (fun _ => ok_iconst dX12_bridge_30 cv_iconst_m1 rfl)) (am_nd_ok (am_lf_ok (fun _ => ok_iret rfl dX12_bridge_31)) (am_lf_ok (fun _ => ok_aload_n dX12_bridge_32 rfl rfl))))) (am_nd_ok (am_nd_ok (am_lf_ok (fun _ => ok_get (C := RX12) (TT := TX12) (N := 31) rfl inw_X12 (Nat.le_of_ble_eq_true rfl) wd_448 dX12_bridge_33 rfl)) (am_nd_ok (am_lf_ok (fun _ => ok_bipush dX12_bridge_36 cv_bipush_50 rfl)) (am_lf_ok (fun _ => ok_iconst dX12_bridge_38 cv_iconst_2 rfl)))) (am_nd_ok (am_lf_ok (fun _ => ok_aload_n dX12_bridge_39 rfl rfl)) (am_nd_ok (am_lf_ok (fun _ => ok_get (C := RX12) (TT := TX12) (N := 31) rfl inw_X12 (Nat.le_of_ble_eq_true rfl) wd_448 dX12_bridge_40 rfl)) (am_lf_ok (fun _ => ok_iconst dX12_bridge_43 cv_iconst_2 rfl))))))
def tX12_bridge_1 : Nat → Option am_Act := am_nd 61 (am_nd 50 (am_nd 47 (am_nd 45 (am_lf 44 (a_iald tT 45)) (am_nd 46 (am_lf 45 (a_bin (fun x y => x * y) 46)) (am_lf 46 (a_bin (fun x y => x + y) 47)))) (am_nd 48 (am_lf 47 (a_iload 1 48)) (am_nd 49 (am_lf 48 (a_iast tT 49)) (am_lf 49 (a_aload 0 50))))) (am_nd 56 (am_nd 53 (am_lf 50 (a_get tT 12 0 53)) (am_nd 55 (am_lf 53 (a_const (nI 50) 55)) (am_lf 55 (a_const (nI 2) 56)))) (am_nd 57 (am_lf 56 (a_aload 0 57)) (am_nd 60 (am_lf 57 (a_get tT 12 0 60)) (am_lf 60 (a_const (nI 2) 61)))))) (am_nd 67 (am_nd 64 (am_nd 62 (am_lf 61 (a_iald tT 62)) (am_nd 63 (am_lf 62 (a_bin (fun x y => x * y) 63)) (am_lf 63 (a_bin (fun x y => x + y) 64)))) (am_nd 65 (am_lf 64 (a_const (nI 1) 65)) (am_nd 66 (am_lf 65 (a_bin (fun x y => x + y) 66)) (am_lf 66 (a_iload 2 67))))) (am_nd 72 (am_nd 68 (am_lf 67 (a_iast tT 68)) (am_nd 69 (am_lf 68 (a_aload 0 69)) (am_lf 69 (a_get tT 12 0 72)))) (am_nd 73 (am_lf 72 (a_const (nI 2) 73)) (am_nd 74 (am_lf 73 (a_dup2 74)) (am_lf 74 (a_iald tT 75))))))
theorem gX12_bridge_1 : am_Good tT mX12_bridge tX12_bridge_1 := am_nd_ok (am_nd_ok (am_nd_ok (am_nd_ok (am_lf_ok (fun _ => ok_iald dX12_bridge_44 rfl)) (am_nd_ok (am_lf_ok (fun _ => ok_imul dX12_bridge_45 rfl)) (am_lf_ok (fun _ => ok_iadd dX12_bridge_46 rfl)))) (am_nd_ok (am_lf_ok (fun _ => ok_iload_n dX12_bridge_47 rfl rfl)) (am_nd_ok (am_lf_ok (fun _ => ok_iast dX12_bridge_48 rfl)) (am_lf_ok (fun _ => ok_aload_n dX12_bridge_49 rfl rfl))))) (am_nd_ok (am_nd_ok (am_lf_ok (fun _ => ok_get (C := RX12) (TT := TX12) (N := 31) rfl inw_X12 (Nat.le_of_ble_eq_true rfl) wd_448 dX12_bridge_50 rfl)) (am_nd_ok (am_lf_ok (fun _ => ok_bipush dX12_bridge_53 cv_bipush_50 rfl)) (am_lf_ok (fun _ => ok_iconst dX12_bridge_55 cv_iconst_2 rfl)))) (am_nd_ok (am_lf_ok (fun _ => ok_aload_n dX12_bridge_56 rfl rfl)) (am_nd_ok (am_lf_ok (fun _ => ok_get (C := RX12) (TT := TX12) (N := 31) rfl inw_X12 (Nat.le_of_ble_eq_true rfl) wd_448 dX12_bridge_57 rfl)) (am_lf_ok (fun _ => ok_iconst dX12_bridge_60 cv_iconst_2 rfl)))))) (am_nd_ok (am_nd_ok (am_nd_ok (am_lf_ok (fun _ => ok_iald dX12_bridge_61 rfl)) (am_nd_ok (am_lf_ok (fun _ => ok_imul dX12_bridge_62 rfl)) (am_lf_ok (fun _ => ok_iadd dX12_bridge_63 rfl)))) (am_nd_ok (am_lf_ok (fun _ => ok_iconst dX12_bridge_64 cv_iconst_1 rfl)) (am_nd_ok (am_lf_ok (fun _ => ok_iadd dX12_bridge_65 rfl)) (am_lf_ok (fun _ => ok_iload_n dX12_bridge_66 rfl rfl))))) (am_nd_ok (am_nd_ok (am_lf_ok (fun _ => ok_iast dX12_bridge_67 rfl)) (am_nd_ok (am_lf_ok (fun _ => ok_aload_n dX12_bridge_68 rfl rfl)) (am_lf_ok (fun _ => ok_get (C := RX12) (TT := TX12) (N := 31) rfl inw_X12 (Nat.le_of_ble_eq_true rfl) wd_448 dX12_bridge_69 rfl)))) (am_nd_ok (am_lf_ok (fun _ => ok_iconst dX12_bridge_72 cv_iconst_2 rfl)) (am_nd_ok (am_lf_ok (fun _ => ok_dup2 dX12_bridge_73 rfl)) (am_lf_ok (fun _ => ok_iald dX12_bridge_74 rfl))))))
def tX12_bridge_2 : Nat → Option am_Act := am_nd 83 (am_nd 78 (am_nd 76 (am_lf 75 (a_const (nI 1) 76)) (am_nd 77 (am_lf 76 (a_bin (fun x y => x + y) 77)) (am_lf 77 (a_iast tT 78)))) (am_nd 79 (am_lf 78 (a_aload 0 79)) (am_nd 82 (am_lf 79 (a_cvV tT mX12_forgets 12 0 82)) (am_lf 82 (a_aload 0 83))))) (am_nd 88 (am_nd 86 (am_lf 83 (a_get tT 12 0 86)) (am_nd 87 (am_lf 86 (a_const (nI 2) 87)) (am_lf 87 (a_iald tT 88)))) (am_nd 89 (am_lf 88 (a_const (nI 1) 89)) (am_nd 90 (am_lf 89 (a_bin (fun x y => x - y) 90)) (am_lf 90 (a_iret)))))
theorem gX12_bridge_2 : am_Good tT mX12_bridge tX12_bridge_2 := am_nd_ok (am_nd_ok (am_nd_ok (am_lf_ok (fun _ => ok_iconst dX12_bridge_75 cv_iconst_1 rfl)) (am_nd_ok (am_lf_ok (fun _ => ok_iadd dX12_bridge_76 rfl)) (am_lf_ok (fun _ => ok_iast dX12_bridge_77 rfl)))) (am_nd_ok (am_lf_ok (fun _ => ok_aload_n dX12_bridge_78 rfl rfl)) (am_nd_ok (am_lf_ok (fun _ => ok_cvV rfl mw_X12_forgets (ci := 12) rfl rfl wd_454 wd_455 wd_456 dX12_bridge_79 rfl)) (am_lf_ok (fun _ => ok_aload_n dX12_bridge_82 rfl rfl))))) (am_nd_ok (am_nd_ok (am_lf_ok (fun _ => ok_get (C := RX12) (TT := TX12) (N := 31) rfl inw_X12 (Nat.le_of_ble_eq_true rfl) wd_448 dX12_bridge_83 rfl)) (am_nd_ok (am_lf_ok (fun _ => ok_iconst dX12_bridge_86 cv_iconst_2 rfl)) (am_lf_ok (fun _ => ok_iald dX12_bridge_87 rfl)))) (am_nd_ok (am_lf_ok (fun _ => ok_iconst dX12_bridge_88 cv_iconst_1 rfl)) (am_nd_ok (am_lf_ok (fun _ => ok_isub dX12_bridge_89 rfl)) (am_lf_ok (fun _ => ok_iret rfl dX12_bridge_90)))))
def tX12_bridge : Nat → Option am_Act := am_nd 44 (tX12_bridge_0) (am_nd 75 (tX12_bridge_1) (tX12_bridge_2))
theorem gX12_bridge : am_Good tT mX12_bridge tX12_bridge := am_nd_ok (gX12_bridge_0) (am_nd_ok (gX12_bridge_1) (gX12_bridge_2))
theorem dX12_has_0 : decode cX12_has 0 = .ok (.iconst 0, 1) := by decide +kernel
theorem dX12_has_1 : decode cX12_has 1 = .ok (.istore_n 3, 1) := by decide +kernel
theorem dX12_has_2 : decode cX12_has 2 = .ok (.iload_n 3, 1) := by decide +kernel
theorem dX12_has_3 : decode cX12_has 3 = .ok (.aload_n 0, 1) := by decide +kernel
theorem dX12_has_4 : decode cX12_has 4 = .ok (.iload_n 1, 1) := by decide +kernel
theorem dX12_has_5 : decode cX12_has 5 = .ok (.iconst 2, 1) := by decide +kernel
theorem dX12_has_6 : decode cX12_has 6 = .ok (.invokevirtual 76, 3) := by decide +kernel
theorem dX12_has_9 : decode cX12_has 9 = .ok (.if_icmp .ge 23, 3) := by decide +kernel
theorem dX12_has_12 : decode cX12_has 12 = .ok (.aload_n 0, 1) := by decide +kernel
theorem dX12_has_13 : decode cX12_has 13 = .ok (.iload_n 1, 1) := by decide +kernel
theorem dX12_has_14 : decode cX12_has 14 = .ok (.iconst 5, 1) := by decide +kernel
theorem dX12_has_15 : decode cX12_has 15 = .ok (.iload_n 3, 1) := by decide +kernel
theorem dX12_has_16 : decode cX12_has 16 = .ok (.iadd, 1) := by decide +kernel
theorem dX12_has_17 : decode cX12_has 17 = .ok (.invokevirtual 76, 3) := by decide +kernel
theorem dX12_has_20 : decode cX12_has 20 = .ok (.iload_n 2, 1) := by decide +kernel
theorem dX12_has_21 : decode cX12_has 21 = .ok (.if_icmp .ne 5, 3) := by decide +kernel
theorem dX12_has_24 : decode cX12_has 24 = .ok (.iconst 1, 1) := by decide +kernel
theorem dX12_has_25 : decode cX12_has 25 = .ok (.ireturn, 1) := by decide +kernel
theorem dX12_has_26 : decode cX12_has 26 = .ok (.iinc 3 1, 3) := by decide +kernel
theorem dX12_has_29 : decode cX12_has 29 = .ok (.goto (-27), 3) := by decide +kernel
theorem dX12_has_32 : decode cX12_has 32 = .ok (.iconst 0, 1) := by decide +kernel
theorem dX12_has_33 : decode cX12_has 33 = .ok (.ireturn, 1) := by decide +kernel
def tX12_has_0 : Nat → Option am_Act := am_nd 15 (am_nd 5 (am_nd 2 (am_nd 1 (am_lf 0 (a_const (nI 0) 1)) (am_lf 1 (a_istore 3 2))) (am_nd 3 (am_lf 2 (a_iload 3 3)) (am_nd 4 (am_lf 3 (a_aload 0 4)) (am_lf 4 (a_iload 1 5))))) (am_nd 12 (am_nd 6 (am_lf 5 (a_const (nI 2) 6)) (am_nd 9 (am_lf 6 (a_cvI tT mX12_own 12 2 9)) (am_lf 9 (a_cmp (fun x y => y ≤ x) 32 12)))) (am_nd 13 (am_lf 12 (a_aload 0 13)) (am_nd 14 (am_lf 13 (a_iload 1 14)) (am_lf 14 (a_const (nI 5) 15)))))) (am_nd 24 (am_nd 17 (am_nd 16 (am_lf 15 (a_iload 3 16)) (am_lf 16 (a_bin (fun x y => x + y) 17))) (am_nd 20 (am_lf 17 (a_cvI tT mX12_own 12 2 20)) (am_nd 21 (am_lf 20 (a_iload 2 21)) (am_lf 21 (a_cmp (fun x y => x = y) 24 26))))) (am_nd 29 (am_nd 25 (am_lf 24 (a_const (nI 1) 25)) (am_nd 26 (am_lf 25 (a_zret)) (am_lf 26 (a_iinc 3 (nI 1) 29)))) (am_nd 32 (am_lf 29 (a_goto 2)) (am_nd 33 (am_lf 32 (a_const (nI 0) 33)) (am_lf 33 (a_zret))))))
theorem gX12_has_0 : am_Good tT mX12_has tX12_has_0 := am_nd_ok (am_nd_ok (am_nd_ok (am_nd_ok (am_lf_ok (fun _ => ok_iconst dX12_has_0 cv_iconst_0 rfl)) (am_lf_ok (fun _ => ok_istore_n dX12_has_1 rfl (Nat.le_of_ble_eq_true rfl) rfl))) (am_nd_ok (am_lf_ok (fun _ => ok_iload_n dX12_has_2 rfl rfl)) (am_nd_ok (am_lf_ok (fun _ => ok_aload_n dX12_has_3 rfl rfl)) (am_lf_ok (fun _ => ok_iload_n dX12_has_4 rfl rfl))))) (am_nd_ok (am_nd_ok (am_lf_ok (fun _ => ok_iconst dX12_has_5 cv_iconst_2 rfl)) (am_nd_ok (am_lf_ok (fun _ => ok_cvI rfl mw_X12_own (ci := 12) rfl rfl wd_462 wd_463 wd_464 dX12_has_6 rfl)) (am_lf_ok (fun _ => ok_cmp_ge dX12_has_9 rfl rfl)))) (am_nd_ok (am_lf_ok (fun _ => ok_aload_n dX12_has_12 rfl rfl)) (am_nd_ok (am_lf_ok (fun _ => ok_iload_n dX12_has_13 rfl rfl)) (am_lf_ok (fun _ => ok_iconst dX12_has_14 cv_iconst_5 rfl)))))) (am_nd_ok (am_nd_ok (am_nd_ok (am_lf_ok (fun _ => ok_iload_n dX12_has_15 rfl rfl)) (am_lf_ok (fun _ => ok_iadd dX12_has_16 rfl))) (am_nd_ok (am_lf_ok (fun _ => ok_cvI rfl mw_X12_own (ci := 12) rfl rfl wd_462 wd_463 wd_464 dX12_has_17 rfl)) (am_nd_ok (am_lf_ok (fun _ => ok_iload_n dX12_has_20 rfl rfl)) (am_lf_ok (fun _ => ok_cmp_ne dX12_has_21 rfl rfl))))) (am_nd_ok (am_nd_ok (am_lf_ok (fun _ => ok_iconst dX12_has_24 cv_iconst_1 rfl)) (am_nd_ok (am_lf_ok (fun _ => ok_zret rfl dX12_has_25)) (am_lf_ok (fun _ => ok_iinc dX12_has_26 cv_iconst_1 (Nat.le_of_ble_eq_true rfl) rfl)))) (am_nd_ok (am_lf_ok (fun _ => ok_goto dX12_has_29 rfl)) (am_nd_ok (am_lf_ok (fun _ => ok_iconst dX12_has_32 cv_iconst_0 rfl)) (am_lf_ok (fun _ => ok_zret rfl dX12_has_33))))))
def tX12_has : Nat → Option am_Act := tX12_has_0
theorem gX12_has : am_Good tT mX12_has tX12_has := gX12_has_0
theorem dX12_comes_0 : decode cX12_comes 0 = .ok (.aload_n 0, 1) := by decide +kernel
theorem dX12_comes_1 : decode cX12_comes 1 = .ok (.iload_n 1, 1) := by decide +kernel
theorem dX12_comes_2 : decode cX12_comes 2 = .ok (.iconst 5, 1) := by decide +kernel
theorem dX12_comes_3 : decode cX12_comes 3 = .ok (.aload_n 0, 1) := by decide +kernel
theorem dX12_comes_4 : decode cX12_comes 4 = .ok (.iload_n 1, 1) := by decide +kernel
theorem dX12_comes_5 : decode cX12_comes 5 = .ok (.iconst 2, 1) := by decide +kernel
theorem dX12_comes_6 : decode cX12_comes 6 = .ok (.invokevirtual 76, 3) := by decide +kernel
theorem dX12_comes_9 : decode cX12_comes 9 = .ok (.iadd, 1) := by decide +kernel
theorem dX12_comes_10 : decode cX12_comes 10 = .ok (.iload_n 2, 1) := by decide +kernel
theorem dX12_comes_11 : decode cX12_comes 11 = .ok (.invokevirtual 72, 3) := by decide +kernel
theorem dX12_comes_14 : decode cX12_comes 14 = .ok (.aload_n 0, 1) := by decide +kernel
theorem dX12_comes_15 : decode cX12_comes 15 = .ok (.iload_n 1, 1) := by decide +kernel
theorem dX12_comes_16 : decode cX12_comes 16 = .ok (.iconst 2, 1) := by decide +kernel
theorem dX12_comes_17 : decode cX12_comes 17 = .ok (.aload_n 0, 1) := by decide +kernel
theorem dX12_comes_18 : decode cX12_comes 18 = .ok (.iload_n 1, 1) := by decide +kernel
theorem dX12_comes_19 : decode cX12_comes 19 = .ok (.iconst 2, 1) := by decide +kernel
theorem dX12_comes_20 : decode cX12_comes 20 = .ok (.invokevirtual 76, 3) := by decide +kernel
theorem dX12_comes_23 : decode cX12_comes 23 = .ok (.iconst 1, 1) := by decide +kernel
theorem dX12_comes_24 : decode cX12_comes 24 = .ok (.iadd, 1) := by decide +kernel
theorem dX12_comes_25 : decode cX12_comes 25 = .ok (.invokevirtual 72, 3) := by decide +kernel
theorem dX12_comes_28 : decode cX12_comes 28 = .ok (.return_, 1) := by decide +kernel
def tX12_comes_0 : Nat → Option am_Act := am_nd 14 (am_nd 5 (am_nd 2 (am_nd 1 (am_lf 0 (a_aload 0 1)) (am_lf 1 (a_iload 1 2))) (am_nd 3 (am_lf 2 (a_const (nI 5) 3)) (am_nd 4 (am_lf 3 (a_aload 0 4)) (am_lf 4 (a_iload 1 5))))) (am_nd 9 (am_nd 6 (am_lf 5 (a_const (nI 2) 6)) (am_lf 6 (a_cvI tT mX12_own 12 2 9))) (am_nd 10 (am_lf 9 (a_bin (fun x y => x + y) 10)) (am_nd 11 (am_lf 10 (a_iload 2 11)) (am_lf 11 (a_cvV tT mX12_gives 12 3 14)))))) (am_nd 19 (am_nd 16 (am_nd 15 (am_lf 14 (a_aload 0 15)) (am_lf 15 (a_iload 1 16))) (am_nd 17 (am_lf 16 (a_const (nI 2) 17)) (am_nd 18 (am_lf 17 (a_aload 0 18)) (am_lf 18 (a_iload 1 19))))) (am_nd 24 (am_nd 20 (am_lf 19 (a_const (nI 2) 20)) (am_nd 23 (am_lf 20 (a_cvI tT mX12_own 12 2 23)) (am_lf 23 (a_const (nI 1) 24)))) (am_nd 25 (am_lf 24 (a_bin (fun x y => x + y) 25)) (am_nd 28 (am_lf 25 (a_cvV tT mX12_gives 12 3 28)) (am_lf 28 (a_ret))))))
theorem gX12_comes_0 : am_Good tT mX12_comes tX12_comes_0 := am_nd_ok (am_nd_ok (am_nd_ok (am_nd_ok (am_lf_ok (fun _ => ok_aload_n dX12_comes_0 rfl rfl)) (am_lf_ok (fun _ => ok_iload_n dX12_comes_1 rfl rfl))) (am_nd_ok (am_lf_ok (fun _ => ok_iconst dX12_comes_2 cv_iconst_5 rfl)) (am_nd_ok (am_lf_ok (fun _ => ok_aload_n dX12_comes_3 rfl rfl)) (am_lf_ok (fun _ => ok_iload_n dX12_comes_4 rfl rfl))))) (am_nd_ok (am_nd_ok (am_lf_ok (fun _ => ok_iconst dX12_comes_5 cv_iconst_2 rfl)) (am_lf_ok (fun _ => ok_cvI rfl mw_X12_own (ci := 12) rfl rfl wd_462 wd_463 wd_464 dX12_comes_6 rfl))) (am_nd_ok (am_lf_ok (fun _ => ok_iadd dX12_comes_9 rfl)) (am_nd_ok (am_lf_ok (fun _ => ok_iload_n dX12_comes_10 rfl rfl)) (am_lf_ok (fun _ => ok_cvV rfl mw_X12_gives (ci := 12) rfl rfl wd_459 wd_460 wd_461 dX12_comes_11 rfl)))))) (am_nd_ok (am_nd_ok (am_nd_ok (am_lf_ok (fun _ => ok_aload_n dX12_comes_14 rfl rfl)) (am_lf_ok (fun _ => ok_iload_n dX12_comes_15 rfl rfl))) (am_nd_ok (am_lf_ok (fun _ => ok_iconst dX12_comes_16 cv_iconst_2 rfl)) (am_nd_ok (am_lf_ok (fun _ => ok_aload_n dX12_comes_17 rfl rfl)) (am_lf_ok (fun _ => ok_iload_n dX12_comes_18 rfl rfl))))) (am_nd_ok (am_nd_ok (am_lf_ok (fun _ => ok_iconst dX12_comes_19 cv_iconst_2 rfl)) (am_nd_ok (am_lf_ok (fun _ => ok_cvI rfl mw_X12_own (ci := 12) rfl rfl wd_462 wd_463 wd_464 dX12_comes_20 rfl)) (am_lf_ok (fun _ => ok_iconst dX12_comes_23 cv_iconst_1 rfl)))) (am_nd_ok (am_lf_ok (fun _ => ok_iadd dX12_comes_24 rfl)) (am_nd_ok (am_lf_ok (fun _ => ok_cvV rfl mw_X12_gives (ci := 12) rfl rfl wd_459 wd_460 wd_461 dX12_comes_25 rfl)) (am_lf_ok (fun _ => ok_ret rfl dX12_comes_28))))))
def tX12_comes : Nat → Option am_Act := tX12_comes_0
theorem gX12_comes : am_Good tT mX12_comes tX12_comes := gX12_comes_0
theorem dX12_canHave_0 : decode cX12_canHave 0 = .ok (.aload_n 0, 1) := by decide +kernel
theorem dX12_canHave_1 : decode cX12_canHave 1 = .ok (.iload_n 1, 1) := by decide +kernel
theorem dX12_canHave_2 : decode cX12_canHave 2 = .ok (.iconst 2, 1) := by decide +kernel
theorem dX12_canHave_3 : decode cX12_canHave 3 = .ok (.invokevirtual 76, 3) := by decide +kernel
theorem dX12_canHave_6 : decode cX12_canHave 6 = .ok (.bipush 9, 2) := by decide +kernel
theorem dX12_canHave_8 : decode cX12_canHave 8 = .ok (.if_icmp .ge 16, 3) := by decide +kernel
theorem dX12_canHave_11 : decode cX12_canHave 11 = .ok (.aload_n 0, 1) := by decide +kernel
theorem dX12_canHave_12 : decode cX12_canHave 12 = .ok (.iload_n 1, 1) := by decide +kernel
theorem dX12_canHave_13 : decode cX12_canHave 13 = .ok (.iload_n 2, 1) := by decide +kernel
theorem dX12_canHave_14 : decode cX12_canHave 14 = .ok (.invokevirtual 80, 3) := by decide +kernel
theorem dX12_canHave_17 : decode cX12_canHave 17 = .ok (.ifCond .ne 7, 3) := by decide +kernel
theorem dX12_canHave_20 : decode cX12_canHave 20 = .ok (.iconst 1, 1) := by decide +kernel
theorem dX12_canHave_21 : decode cX12_canHave 21 = .ok (.goto 4, 3) := by decide +kernel
theorem dX12_canHave_24 : decode cX12_canHave 24 = .ok (.iconst 0, 1) := by decide +kernel
theorem dX12_canHave_25 : decode cX12_canHave 25 = .ok (.ireturn, 1) := by decide +kernel
def tX12_canHave_0 : Nat → Option am_Act := am_nd 12 (am_nd 3 (am_nd 1 (am_lf 0 (a_aload 0 1)) (am_nd 2 (am_lf 1 (a_iload 1 2)) (am_lf 2 (a_const (nI 2) 3)))) (am_nd 8 (am_nd 6 (am_lf 3 (a_cvI tT mX12_own 12 2 6)) (am_lf 6 (a_const (nI 9) 8))) (am_nd 11 (am_lf 8 (a_cmp (fun x y => y ≤ x) 24 11)) (am_lf 11 (a_aload 0 12))))) (am_nd 20 (am_nd 14 (am_nd 13 (am_lf 12 (a_iload 1 13)) (am_lf 13 (a_iload 2 14))) (am_nd 17 (am_lf 14 (a_cvI tT mX12_has 12 2 17)) (am_lf 17 (a_if (fun x => x = nI 0) 20 24)))) (am_nd 24 (am_nd 21 (am_lf 20 (a_const (nI 1) 21)) (am_lf 21 (a_goto 25))) (am_nd 25 (am_lf 24 (a_const (nI 0) 25)) (am_lf 25 (a_zret)))))
theorem gX12_canHave_0 : am_Good tT mX12_canHave tX12_canHave_0 := am_nd_ok (am_nd_ok (am_nd_ok (am_lf_ok (fun _ => ok_aload_n dX12_canHave_0 rfl rfl)) (am_nd_ok (am_lf_ok (fun _ => ok_iload_n dX12_canHave_1 rfl rfl)) (am_lf_ok (fun _ => ok_iconst dX12_canHave_2 cv_iconst_2 rfl)))) (am_nd_ok (am_nd_ok (am_lf_ok (fun _ => ok_cvI rfl mw_X12_own (ci := 12) rfl rfl wd_462 wd_463 wd_464 dX12_canHave_3 rfl)) (am_lf_ok (fun _ => ok_bipush dX12_canHave_6 cv_bipush_9 rfl))) (am_nd_ok (am_lf_ok (fun _ => ok_cmp_ge dX12_canHave_8 rfl rfl)) (am_lf_ok (fun _ => ok_aload_n dX12_canHave_11 rfl rfl))))) (am_nd_ok (am_nd_ok (am_nd_ok (am_lf_ok (fun _ => ok_iload_n dX12_canHave_12 rfl rfl)) (am_lf_ok (fun _ => ok_iload_n dX12_canHave_13 rfl rfl))) (am_nd_ok (am_lf_ok (fun _ => ok_cvI rfl mw_X12_has (ci := 12) rfl rfl wd_465 wd_466 wd_467 dX12_canHave_14 rfl)) (am_lf_ok (fun _ => ok_if_ne dX12_canHave_17 rfl rfl)))) (am_nd_ok (am_nd_ok (am_lf_ok (fun _ => ok_iconst dX12_canHave_20 cv_iconst_1 rfl)) (am_lf_ok (fun _ => ok_goto dX12_canHave_21 rfl))) (am_nd_ok (am_lf_ok (fun _ => ok_iconst dX12_canHave_24 cv_iconst_0 rfl)) (am_lf_ok (fun _ => ok_zret rfl dX12_canHave_25)))))
def tX12_canHave : Nat → Option am_Act := tX12_canHave_0
theorem gX12_canHave : am_Good tT mX12_canHave tX12_canHave := gX12_canHave_0
theorem dX12_christen_0 : decode cX12_christen 0 = .ok (.aload_n 0, 1) := by decide +kernel
theorem dX12_christen_1 : decode cX12_christen 1 = .ok (.iload_n 1, 1) := by decide +kernel
theorem dX12_christen_2 : decode cX12_christen 2 = .ok (.invokevirtual 84, 3) := by decide +kernel
theorem dX12_christen_5 : decode cX12_christen 5 = .ok (.ifCond .eq 20, 3) := by decide +kernel
theorem dX12_christen_8 : decode cX12_christen 8 = .ok (.aload_n 0, 1) := by decide +kernel
theorem dX12_christen_9 : decode cX12_christen 9 = .ok (.iload_n 2, 1) := by decide +kernel
theorem dX12_christen_10 : decode cX12_christen 10 = .ok (.invokevirtual 87, 3) := by decide +kernel
theorem dX12_christen_13 : decode cX12_christen 13 = .ok (.ifCond .eq 12, 3) := by decide +kernel
theorem dX12_christen_16 : decode cX12_christen 16 = .ok (.aload_n 0, 1) := by decide +kernel
theorem dX12_christen_17 : decode cX12_christen 17 = .ok (.iload_n 1, 1) := by decide +kernel
theorem dX12_christen_18 : decode cX12_christen 18 = .ok (.iload_n 2, 1) := by decide +kernel
theorem dX12_christen_19 : decode cX12_christen 19 = .ok (.invokevirtual 90, 3) := by decide +kernel
theorem dX12_christen_22 : decode cX12_christen 22 = .ok (.ifCond .ne 5, 3) := by decide +kernel
theorem dX12_christen_25 : decode cX12_christen 25 = .ok (.iconst 0, 1) := by decide +kernel
theorem dX12_christen_26 : decode cX12_christen 26 = .ok (.ireturn, 1) := by decide +kernel
theorem dX12_christen_27 : decode cX12_christen 27 = .ok (.aload_n 0, 1) := by decide +kernel
theorem dX12_christen_28 : decode cX12_christen 28 = .ok (.iload_n 1, 1) := by decide +kernel
theorem dX12_christen_29 : decode cX12_christen 29 = .ok (.iload_n 2, 1) := by decide +kernel
theorem dX12_christen_30 : decode cX12_christen 30 = .ok (.invokevirtual 93, 3) := by decide +kernel
theorem dX12_christen_33 : decode cX12_christen 33 = .ok (.aload_n 0, 1) := by decide +kernel
theorem dX12_christen_34 : decode cX12_christen 34 = .ok (.iload_n 1, 1) := by decide +kernel
theorem dX12_christen_35 : decode cX12_christen 35 = .ok (.iconst 3, 1) := by decide +kernel
theorem dX12_christen_36 : decode cX12_christen 36 = .ok (.aload_n 0, 1) := by decide +kernel
theorem dX12_christen_37 : decode cX12_christen 37 = .ok (.iload_n 1, 1) := by decide +kernel
theorem dX12_christen_38 : decode cX12_christen 38 = .ok (.iconst 3, 1) := by decide +kernel
theorem dX12_christen_39 : decode cX12_christen 39 = .ok (.invokevirtual 76, 3) := by decide +kernel
theorem dX12_christen_42 : decode cX12_christen 42 = .ok (.iconst 1, 1) := by decide +kernel
theorem dX12_christen_43 : decode cX12_christen 43 = .ok (.iload_n 2, 1) := by decide +kernel
theorem dX12_christen_44 : decode cX12_christen 44 = .ok (.ishl, 1) := by decide +kernel
theorem dX12_christen_45 : decode cX12_christen 45 = .ok (.ior, 1) := by decide +kernel
theorem dX12_christen_46 : decode cX12_christen 46 = .ok (.invokevirtual 72, 3) := by decide +kernel
theorem dX12_christen_49 : decode cX12_christen 49 = .ok (.aload_n 0, 1) := by decide +kernel
theorem dX12_christen_50 : decode cX12_christen 50 = .ok (.invokevirtual 65, 3) := by decide +kernel
theorem dX12_christen_53 : decode cX12_christen 53 = .ok (.iconst 1, 1) := by decide +kernel
theorem dX12_christen_54 : decode cX12_christen 54 = .ok (.ireturn, 1) := by decide +kernel
def tX12_christen_0 : Nat → Option am_Act := am_nd 22 (am_nd 10 (am_nd 5 (am_nd 1 (am_lf 0 (a_aload 0 1)) (am_nd 2 (am_lf 1 (a_iload 1 2)) (am_lf 2 (a_cvI tT mX12_isPerson 12 1 5)))) (am_nd 8 (am_lf 5 (a_if (fun x => x = nI 0) 25 8)) (am_nd 9 (am_lf 8 (a_aload 0 9)) (am_lf 9 (a_iload 2 10))))) (am_nd 17 (am_nd 13 (am_lf 10 (a_cvI tT mX12_isName 12 1 13)) (am_nd 16 (am_lf 13 (a_if (fun x => x = nI 0) 25 16)) (am_lf 16 (a_aload 0 17)))) (am_nd 18 (am_lf 17 (a_iload 1 18)) (am_nd 19 (am_lf 18 (a_iload 2 19)) (am_lf 19 (a_cvI tT mX12_canHave 12 2 22)))))) (am_nd 30 (am_nd 27 (am_nd 25 (am_lf 22 (a_if (fun x => x = nI 0) 25 27)) (am_nd 26 (am_lf 25 (a_const (nI 0) 26)) (am_lf 26 (a_zret)))) (am_nd 28 (am_lf 27 (a_aload 0 28)) (am_nd 29 (am_lf 28 (a_iload 1 29)) (am_lf 29 (a_iload 2 30))))) (am_nd 35 (am_nd 33 (am_lf 30 (a_cvV tT mX12_comes 12 2 33)) (am_nd 34 (am_lf 33 (a_aload 0 34)) (am_lf 34 (a_iload 1 35)))) (am_nd 36 (am_lf 35 (a_const (nI 3) 36)) (am_nd 37 (am_lf 36 (a_aload 0 37)) (am_lf 37 (a_iload 1 38))))))
theorem gX12_christen_0 : am_Good tT mX12_christen tX12_christen_0 := am_nd_ok (am_nd_ok (am_nd_ok (am_nd_ok (am_lf_ok (fun _ => ok_aload_n dX12_christen_0 rfl rfl)) (am_nd_ok (am_lf_ok (fun _ => ok_iload_n dX12_christen_1 rfl rfl)) (am_lf_ok (fun _ => ok_cvI rfl mw_X12_isPerson (ci := 12) rfl rfl wd_468 wd_469 wd_470 dX12_christen_2 rfl)))) (am_nd_ok (am_lf_ok (fun _ => ok_if_eq dX12_christen_5 rfl rfl)) (am_nd_ok (am_lf_ok (fun _ => ok_aload_n dX12_christen_8 rfl rfl)) (am_lf_ok (fun _ => ok_iload_n dX12_christen_9 rfl rfl))))) (am_nd_ok (am_nd_ok (am_lf_ok (fun _ => ok_cvI rfl mw_X12_isName (ci := 12) rfl rfl wd_471 wd_472 wd_473 dX12_christen_10 rfl)) (am_nd_ok (am_lf_ok (fun _ => ok_if_eq dX12_christen_13 rfl rfl)) (am_lf_ok (fun _ => ok_aload_n dX12_christen_16 rfl rfl)))) (am_nd_ok (am_lf_ok (fun _ => ok_iload_n dX12_christen_17 rfl rfl)) (am_nd_ok (am_lf_ok (fun _ => ok_iload_n dX12_christen_18 rfl rfl)) (am_lf_ok (fun _ => ok_cvI rfl mw_X12_canHave (ci := 12) rfl rfl wd_474 wd_475 wd_476 dX12_christen_19 rfl)))))) (am_nd_ok (am_nd_ok (am_nd_ok (am_lf_ok (fun _ => ok_if_ne dX12_christen_22 rfl rfl)) (am_nd_ok (am_lf_ok (fun _ => ok_iconst dX12_christen_25 cv_iconst_0 rfl)) (am_lf_ok (fun _ => ok_zret rfl dX12_christen_26)))) (am_nd_ok (am_lf_ok (fun _ => ok_aload_n dX12_christen_27 rfl rfl)) (am_nd_ok (am_lf_ok (fun _ => ok_iload_n dX12_christen_28 rfl rfl)) (am_lf_ok (fun _ => ok_iload_n dX12_christen_29 rfl rfl))))) (am_nd_ok (am_nd_ok (am_lf_ok (fun _ => ok_cvV rfl mw_X12_comes (ci := 12) rfl rfl wd_477 wd_478 wd_479 dX12_christen_30 rfl)) (am_nd_ok (am_lf_ok (fun _ => ok_aload_n dX12_christen_33 rfl rfl)) (am_lf_ok (fun _ => ok_iload_n dX12_christen_34 rfl rfl)))) (am_nd_ok (am_lf_ok (fun _ => ok_iconst dX12_christen_35 cv_iconst_3 rfl)) (am_nd_ok (am_lf_ok (fun _ => ok_aload_n dX12_christen_36 rfl rfl)) (am_lf_ok (fun _ => ok_iload_n dX12_christen_37 rfl rfl))))))
def tX12_christen_1 : Nat → Option am_Act := am_nd 45 (am_nd 42 (am_nd 39 (am_lf 38 (a_const (nI 3) 39)) (am_lf 39 (a_cvI tT mX12_own 12 2 42))) (am_nd 43 (am_lf 42 (a_const (nI 1) 43)) (am_nd 44 (am_lf 43 (a_iload 2 44)) (am_lf 44 (a_bin (fun x y => x <<< (y &&& 31)) 45))))) (am_nd 50 (am_nd 46 (am_lf 45 (a_bin (fun x y => x ||| y) 46)) (am_nd 49 (am_lf 46 (a_cvV tT mX12_gives 12 3 49)) (am_lf 49 (a_aload 0 50)))) (am_nd 53 (am_lf 50 (a_cvV tT mX12_forgets 12 0 53)) (am_nd 54 (am_lf 53 (a_const (nI 1) 54)) (am_lf 54 (a_zret)))))
theorem gX12_christen_1 : am_Good tT mX12_christen tX12_christen_1 := am_nd_ok (am_nd_ok (am_nd_ok (am_lf_ok (fun _ => ok_iconst dX12_christen_38 cv_iconst_3 rfl)) (am_lf_ok (fun _ => ok_cvI rfl mw_X12_own (ci := 12) rfl rfl wd_462 wd_463 wd_464 dX12_christen_39 rfl))) (am_nd_ok (am_lf_ok (fun _ => ok_iconst dX12_christen_42 cv_iconst_1 rfl)) (am_nd_ok (am_lf_ok (fun _ => ok_iload_n dX12_christen_43 rfl rfl)) (am_lf_ok (fun _ => ok_ishl dX12_christen_44 rfl))))) (am_nd_ok (am_nd_ok (am_lf_ok (fun _ => ok_ior dX12_christen_45 rfl)) (am_nd_ok (am_lf_ok (fun _ => ok_cvV rfl mw_X12_gives (ci := 12) rfl rfl wd_459 wd_460 wd_461 dX12_christen_46 rfl)) (am_lf_ok (fun _ => ok_aload_n dX12_christen_49 rfl rfl)))) (am_nd_ok (am_lf_ok (fun _ => ok_cvV rfl mw_X12_forgets (ci := 12) rfl rfl wd_454 wd_455 wd_456 dX12_christen_50 rfl)) (am_nd_ok (am_lf_ok (fun _ => ok_iconst dX12_christen_53 cv_iconst_1 rfl)) (am_lf_ok (fun _ => ok_zret rfl dX12_christen_54)))))
def tX12_christen : Nat → Option am_Act := am_nd 38 (tX12_christen_0) (tX12_christen_1)
theorem gX12_christen : am_Good tT mX12_christen tX12_christen := am_nd_ok (gX12_christen_0) (gX12_christen_1)
theorem dX12_set_0 : decode cX12_set 0 = .ok (.iload_n 1, 1) := by decide +kernel
theorem dX12_set_1 : decode cX12_set 1 = .ok (.ifCond .ne 25, 3) := by decide +kernel
theorem dX12_set_4 : decode cX12_set 4 = .ok (.iload_n 3, 1) := by decide +kernel
theorem dX12_set_5 : decode cX12_set 5 = .ok (.iconst 0, 1) := by decide +kernel
theorem dX12_set_6 : decode cX12_set 6 = .ok (.sipush 1000, 3) := by decide +kernel
theorem dX12_set_9 : decode cX12_set 9 = .ok (.invokestatic 56, 3) := by decide +kernel
theorem dX12_set_12 : decode cX12_set 12 = .ok (.ifCond .eq 14, 3) := by decide +kernel
theorem dX12_set_15 : decode cX12_set 15 = .ok (.aload_n 0, 1) := by decide +kernel
theorem dX12_set_16 : decode cX12_set 16 = .ok (.getfield 7, 3) := by decide +kernel
theorem dX12_set_19 : decode cX12_set 19 = .ok (.bipush 6, 2) := by decide +kernel
theorem dX12_set_21 : decode cX12_set 21 = .ok (.iload_n 3, 1) := by decide +kernel
theorem dX12_set_22 : decode cX12_set 22 = .ok (.iastore, 1) := by decide +kernel
theorem dX12_set_23 : decode cX12_set 23 = .ok (.goto 95, 3) := by decide +kernel
theorem dX12_set_26 : decode cX12_set 26 = .ok (.iload_n 1, 1) := by decide +kernel
theorem dX12_set_27 : decode cX12_set 27 = .ok (.iconst 1, 1) := by decide +kernel
theorem dX12_set_28 : decode cX12_set 28 = .ok (.if_icmp .ne 24, 3) := by decide +kernel
theorem dX12_set_31 : decode cX12_set 31 = .ok (.iload_n 3, 1) := by decide +kernel
theorem dX12_set_32 : decode cX12_set 32 = .ok (.iconst 0, 1) := by decide +kernel
theorem dX12_set_33 : decode cX12_set 33 = .ok (.bipush 99, 2) := by decide +kernel
theorem dX12_set_35 : decode cX12_set 35 = .ok (.invokestatic 56, 3) := by decide +kernel
theorem dX12_set_38 : decode cX12_set 38 = .ok (.ifCond .eq 14, 3) := by decide +kernel
theorem dX12_set_41 : decode cX12_set 41 = .ok (.aload_n 0, 1) := by decide +kernel
theorem dX12_set_42 : decode cX12_set 42 = .ok (.getfield 7, 3) := by decide +kernel
theorem dX12_set_45 : decode cX12_set 45 = .ok (.bipush 7, 2) := by decide +kernel
theorem dX12_set_47 : decode cX12_set 47 = .ok (.iload_n 3, 1) := by decide +kernel
theorem dX12_set_48 : decode cX12_set 48 = .ok (.iastore, 1) := by decide +kernel
theorem dX12_set_49 : decode cX12_set 49 = .ok (.goto 69, 3) := by decide +kernel
theorem dX12_set_52 : decode cX12_set 52 = .ok (.iload_n 1, 1) := by decide +kernel
theorem dX12_set_53 : decode cX12_set 53 = .ok (.iconst 2, 1) := by decide +kernel
theorem dX12_set_54 : decode cX12_set 54 = .ok (.if_icmp .ne 32, 3) := by decide +kernel
theorem dX12_set_57 : decode cX12_set 57 = .ok (.aload_n 0, 1) := by decide +kernel
theorem dX12_set_58 : decode cX12_set 58 = .ok (.iload_n 2, 1) := by decide +kernel
theorem dX12_set_59 : decode cX12_set 59 = .ok (.invokevirtual 84, 3) := by decide +kernel
theorem dX12_set_62 : decode cX12_set 62 = .ok (.ifCond .eq 24, 3) := by decide +kernel
theorem dX12_set_65 : decode cX12_set 65 = .ok (.iload_n 3, 1) := by decide +kernel
theorem dX12_set_66 : decode cX12_set 66 = .ok (.iconst 0, 1) := by decide +kernel
theorem dX12_set_67 : decode cX12_set 67 = .ok (.sipush 9999, 3) := by decide +kernel
theorem dX12_set_70 : decode cX12_set 70 = .ok (.invokestatic 56, 3) := by decide +kernel
theorem dX12_set_73 : decode cX12_set 73 = .ok (.ifCond .eq 13, 3) := by decide +kernel
theorem dX12_set_76 : decode cX12_set 76 = .ok (.aload_n 0, 1) := by decide +kernel
theorem dX12_set_77 : decode cX12_set 77 = .ok (.iload_n 2, 1) := by decide +kernel
theorem dX12_set_78 : decode cX12_set 78 = .ok (.iconst 1, 1) := by decide +kernel
theorem dX12_set_79 : decode cX12_set 79 = .ok (.iload_n 3, 1) := by decide +kernel
theorem dX12_set_80 : decode cX12_set 80 = .ok (.invokevirtual 72, 3) := by decide +kernel
theorem dX12_set_83 : decode cX12_set 83 = .ok (.goto 35, 3) := by decide +kernel
theorem dX12_set_86 : decode cX12_set 86 = .ok (.iload_n 1, 1) := by decide +kernel
theorem dX12_set_87 : decode cX12_set 87 = .ok (.iconst 3, 1) := by decide +kernel
theorem dX12_set_88 : decode cX12_set 88 = .ok (.if_icmp .ne 28, 3) := by decide +kernel
theorem dX12_set_91 : decode cX12_set 91 = .ok (.aload_n 0, 1) := by decide +kernel
theorem dX12_set_92 : decode cX12_set 92 = .ok (.iload_n 2, 1) := by decide +kernel
theorem dX12_set_93 : decode cX12_set 93 = .ok (.invokevirtual 84, 3) := by decide +kernel
theorem dX12_set_96 : decode cX12_set 96 = .ok (.ifCond .eq 20, 3) := by decide +kernel
theorem dX12_set_99 : decode cX12_set 99 = .ok (.iload_n 3, 1) := by decide +kernel
theorem dX12_set_100 : decode cX12_set 100 = .ok (.invokestatic 68, 3) := by decide +kernel
theorem dX12_set_103 : decode cX12_set 103 = .ok (.ifCond .eq 13, 3) := by decide +kernel
theorem dX12_set_106 : decode cX12_set 106 = .ok (.aload_n 0, 1) := by decide +kernel
theorem dX12_set_107 : decode cX12_set 107 = .ok (.iload_n 2, 1) := by decide +kernel
theorem dX12_set_108 : decode cX12_set 108 = .ok (.iconst 0, 1) := by decide +kernel
theorem dX12_set_109 : decode cX12_set 109 = .ok (.iload_n 3, 1) := by decide +kernel
theorem dX12_set_110 : decode cX12_set 110 = .ok (.invokevirtual 72, 3) := by decide +kernel
theorem dX12_set_113 : decode cX12_set 113 = .ok (.goto 5, 3) := by decide +kernel
theorem dX12_set_116 : decode cX12_set 116 = .ok (.iconst 0, 1) := by decide +kernel
theorem dX12_set_117 : decode cX12_set 117 = .ok (.ireturn, 1) := by decide +kernel
theorem dX12_set_118 : decode cX12_set 118 = .ok (.aload_n 0, 1) := by decide +kernel
theorem dX12_set_119 : decode cX12_set 119 = .ok (.invokevirtual 65, 3) := by decide +kernel
theorem dX12_set_122 : decode cX12_set 122 = .ok (.iconst 1, 1) := by decide +kernel
theorem dX12_set_123 : decode cX12_set 123 = .ok (.ireturn, 1) := by decide +kernel
def tX12_set_0 : Nat → Option am_Act := am_nd 23 (am_nd 12 (am_nd 5 (am_nd 1 (am_lf 0 (a_iload 1 1)) (am_nd 4 (am_lf 1 (a_if (fun x => x = nI 0) 4 26)) (am_lf 4 (a_iload 3 5)))) (am_nd 6 (am_lf 5 (a_const (nI 0) 6)) (am_nd 9 (am_lf 6 (a_const (nI 1000) 9)) (am_lf 9 (a_csI mX12_isIn 3 12))))) (am_nd 19 (am_nd 15 (am_lf 12 (a_if (fun x => x = nI 0) 26 15)) (am_nd 16 (am_lf 15 (a_aload 0 16)) (am_lf 16 (a_get tT 12 0 19)))) (am_nd 21 (am_lf 19 (a_const (nI 6) 21)) (am_nd 22 (am_lf 21 (a_iload 3 22)) (am_lf 22 (a_iast tT 23)))))) (am_nd 33 (am_nd 28 (am_nd 26 (am_lf 23 (a_goto 118)) (am_nd 27 (am_lf 26 (a_iload 1 27)) (am_lf 27 (a_const (nI 1) 28)))) (am_nd 31 (am_lf 28 (a_cmp (fun x y => x = y) 31 52)) (am_nd 32 (am_lf 31 (a_iload 3 32)) (am_lf 32 (a_const (nI 0) 33))))) (am_nd 41 (am_nd 35 (am_lf 33 (a_const (nI 99) 35)) (am_nd 38 (am_lf 35 (a_csI mX12_isIn 3 38)) (am_lf 38 (a_if (fun x => x = nI 0) 52 41)))) (am_nd 42 (am_lf 41 (a_aload 0 42)) (am_nd 45 (am_lf 42 (a_get tT 12 0 45)) (am_lf 45 (a_const (nI 7) 47))))))
theorem gX12_set_0 : am_Good tT mX12_set tX12_set_0 := am_nd_ok (am_nd_ok (am_nd_ok (am_nd_ok (am_lf_ok (fun _ => ok_iload_n dX12_set_0 rfl rfl)) (am_nd_ok (am_lf_ok (fun _ => ok_if_ne dX12_set_1 rfl rfl)) (am_lf_ok (fun _ => ok_iload_n dX12_set_4 rfl rfl)))) (am_nd_ok (am_lf_ok (fun _ => ok_iconst dX12_set_5 cv_iconst_0 rfl)) (am_nd_ok (am_lf_ok (fun _ => ok_sipush dX12_set_6 cv_sipush_1000 rfl)) (am_lf_ok (fun _ => ok_csI rfl mw_X12_isIn wd_449 wd_450 dX12_set_9 rfl))))) (am_nd_ok (am_nd_ok (am_lf_ok (fun _ => ok_if_eq dX12_set_12 rfl rfl)) (am_nd_ok (am_lf_ok (fun _ => ok_aload_n dX12_set_15 rfl rfl)) (am_lf_ok (fun _ => ok_get (C := RX12) (TT := TX12) (N := 31) rfl inw_X12 (Nat.le_of_ble_eq_true rfl) wd_448 dX12_set_16 rfl)))) (am_nd_ok (am_lf_ok (fun _ => ok_bipush dX12_set_19 cv_bipush_6 rfl)) (am_nd_ok (am_lf_ok (fun _ => ok_iload_n dX12_set_21 rfl rfl)) (am_lf_ok (fun _ => ok_iast dX12_set_22 rfl)))))) (am_nd_ok (am_nd_ok (am_nd_ok (am_lf_ok (fun _ => ok_goto dX12_set_23 rfl)) (am_nd_ok (am_lf_ok (fun _ => ok_iload_n dX12_set_26 rfl rfl)) (am_lf_ok (fun _ => ok_iconst dX12_set_27 cv_iconst_1 rfl)))) (am_nd_ok (am_lf_ok (fun _ => ok_cmp_ne dX12_set_28 rfl rfl)) (am_nd_ok (am_lf_ok (fun _ => ok_iload_n dX12_set_31 rfl rfl)) (am_lf_ok (fun _ => ok_iconst dX12_set_32 cv_iconst_0 rfl))))) (am_nd_ok (am_nd_ok (am_lf_ok (fun _ => ok_bipush dX12_set_33 cv_bipush_99 rfl)) (am_nd_ok (am_lf_ok (fun _ => ok_csI rfl mw_X12_isIn wd_449 wd_450 dX12_set_35 rfl)) (am_lf_ok (fun _ => ok_if_eq dX12_set_38 rfl rfl)))) (am_nd_ok (am_lf_ok (fun _ => ok_aload_n dX12_set_41 rfl rfl)) (am_nd_ok (am_lf_ok (fun _ => ok_get (C := RX12) (TT := TX12) (N := 31) rfl inw_X12 (Nat.le_of_ble_eq_true rfl) wd_448 dX12_set_42 rfl)) (am_lf_ok (fun _ => ok_bipush dX12_set_45 cv_bipush_7 rfl))))))
def tX12_set_1 : Nat → Option am_Act := am_nd 67 (am_nd 57 (am_nd 52 (am_nd 48 (am_lf 47 (a_iload 3 48)) (am_nd 49 (am_lf 48 (a_iast tT 49)) (am_lf 49 (a_goto 118)))) (am_nd 53 (am_lf 52 (a_iload 1 53)) (am_nd 54 (am_lf 53 (a_const (nI 2) 54)) (am_lf 54 (a_cmp (fun x y => x = y) 57 86))))) (am_nd 62 (am_nd 58 (am_lf 57 (a_aload 0 58)) (am_nd 59 (am_lf 58 (a_iload 2 59)) (am_lf 59 (a_cvI tT mX12_isPerson 12 1 62)))) (am_nd 65 (am_lf 62 (a_if (fun x => x = nI 0) 86 65)) (am_nd 66 (am_lf 65 (a_iload 3 66)) (am_lf 66 (a_const (nI 0) 67)))))) (am_nd 79 (am_nd 76 (am_nd 70 (am_lf 67 (a_const (nI 9999) 70)) (am_nd 73 (am_lf 70 (a_csI mX12_isIn 3 73)) (am_lf 73 (a_if (fun x => x = nI 0) 86 76)))) (am_nd 77 (am_lf 76 (a_aload 0 77)) (am_nd 78 (am_lf 77 (a_iload 2 78)) (am_lf 78 (a_const (nI 1) 79))))) (am_nd 86 (am_nd 80 (am_lf 79 (a_iload 3 80)) (am_nd 83 (am_lf 80 (a_cvV tT mX12_gives 12 3 83)) (am_lf 83 (a_goto 118)))) (am_nd 87 (am_lf 86 (a_iload 1 87)) (am_nd 88 (am_lf 87 (a_const (nI 3) 88)) (am_lf 88 (a_cmp (fun x y => x = y) 91 116))))))
theorem gX12_set_1 : am_Good tT mX12_set tX12_set_1 := am_nd_ok (am_nd_ok (am_nd_ok (am_nd_ok (am_lf_ok (fun _ => ok_iload_n dX12_set_47 rfl rfl)) (am_nd_ok (am_lf_ok (fun _ => ok_iast dX12_set_48 rfl)) (am_lf_ok (fun _ => ok_goto dX12_set_49 rfl)))) (am_nd_ok (am_lf_ok (fun _ => ok_iload_n dX12_set_52 rfl rfl)) (am_nd_ok (am_lf_ok (fun _ => ok_iconst dX12_set_53 cv_iconst_2 rfl)) (am_lf_ok (fun _ => ok_cmp_ne dX12_set_54 rfl rfl))))) (am_nd_ok (am_nd_ok (am_lf_ok (fun _ => ok_aload_n dX12_set_57 rfl rfl)) (am_nd_ok (am_lf_ok (fun _ => ok_iload_n dX12_set_58 rfl rfl)) (am_lf_ok (fun _ => ok_cvI rfl mw_X12_isPerson (ci := 12) rfl rfl wd_468 wd_469 wd_470 dX12_set_59 rfl)))) (am_nd_ok (am_lf_ok (fun _ => ok_if_eq dX12_set_62 rfl rfl)) (am_nd_ok (am_lf_ok (fun _ => ok_iload_n dX12_set_65 rfl rfl)) (am_lf_ok (fun _ => ok_iconst dX12_set_66 cv_iconst_0 rfl)))))) (am_nd_ok (am_nd_ok (am_nd_ok (am_lf_ok (fun _ => ok_sipush dX12_set_67 cv_sipush_9999 rfl)) (am_nd_ok (am_lf_ok (fun _ => ok_csI rfl mw_X12_isIn wd_449 wd_450 dX12_set_70 rfl)) (am_lf_ok (fun _ => ok_if_eq dX12_set_73 rfl rfl)))) (am_nd_ok (am_lf_ok (fun _ => ok_aload_n dX12_set_76 rfl rfl)) (am_nd_ok (am_lf_ok (fun _ => ok_iload_n dX12_set_77 rfl rfl)) (am_lf_ok (fun _ => ok_iconst dX12_set_78 cv_iconst_1 rfl))))) (am_nd_ok (am_nd_ok (am_lf_ok (fun _ => ok_iload_n dX12_set_79 rfl rfl)) (am_nd_ok (am_lf_ok (fun _ => ok_cvV rfl mw_X12_gives (ci := 12) rfl rfl wd_459 wd_460 wd_461 dX12_set_80 rfl)) (am_lf_ok (fun _ => ok_goto dX12_set_83 rfl)))) (am_nd_ok (am_lf_ok (fun _ => ok_iload_n dX12_set_86 rfl rfl)) (am_nd_ok (am_lf_ok (fun _ => ok_iconst dX12_set_87 cv_iconst_3 rfl)) (am_lf_ok (fun _ => ok_cmp_ne dX12_set_88 rfl rfl))))))
def tX12_set_2 : Nat → Option am_Act := am_nd 108 (am_nd 99 (am_nd 93 (am_nd 92 (am_lf 91 (a_aload 0 92)) (am_lf 92 (a_iload 2 93))) (am_nd 96 (am_lf 93 (a_cvI tT mX12_isPerson 12 1 96)) (am_lf 96 (a_if (fun x => x = nI 0) 116 99)))) (am_nd 103 (am_nd 100 (am_lf 99 (a_iload 3 100)) (am_lf 100 (a_csI mX12_isPlace 1 103))) (am_nd 106 (am_lf 103 (a_if (fun x => x = nI 0) 116 106)) (am_nd 107 (am_lf 106 (a_aload 0 107)) (am_lf 107 (a_iload 2 108)))))) (am_nd 117 (am_nd 110 (am_nd 109 (am_lf 108 (a_const (nI 0) 109)) (am_lf 109 (a_iload 3 110))) (am_nd 113 (am_lf 110 (a_cvV tT mX12_gives 12 3 113)) (am_nd 116 (am_lf 113 (a_goto 118)) (am_lf 116 (a_const (nI 0) 117))))) (am_nd 119 (am_nd 118 (am_lf 117 (a_zret)) (am_lf 118 (a_aload 0 119))) (am_nd 122 (am_lf 119 (a_cvV tT mX12_forgets 12 0 122)) (am_nd 123 (am_lf 122 (a_const (nI 1) 123)) (am_lf 123 (a_zret))))))
theorem gX12_set_2 : am_Good tT mX12_set tX12_set_2 := am_nd_ok (am_nd_ok (am_nd_ok (am_nd_ok (am_lf_ok (fun _ => ok_aload_n dX12_set_91 rfl rfl)) (am_lf_ok (fun _ => ok_iload_n dX12_set_92 rfl rfl))) (am_nd_ok (am_lf_ok (fun _ => ok_cvI rfl mw_X12_isPerson (ci := 12) rfl rfl wd_468 wd_469 wd_470 dX12_set_93 rfl)) (am_lf_ok (fun _ => ok_if_eq dX12_set_96 rfl rfl)))) (am_nd_ok (am_nd_ok (am_lf_ok (fun _ => ok_iload_n dX12_set_99 rfl rfl)) (am_lf_ok (fun _ => ok_csI rfl mw_X12_isPlace wd_457 wd_458 dX12_set_100 rfl))) (am_nd_ok (am_lf_ok (fun _ => ok_if_eq dX12_set_103 rfl rfl)) (am_nd_ok (am_lf_ok (fun _ => ok_aload_n dX12_set_106 rfl rfl)) (am_lf_ok (fun _ => ok_iload_n dX12_set_107 rfl rfl)))))) (am_nd_ok (am_nd_ok (am_nd_ok (am_lf_ok (fun _ => ok_iconst dX12_set_108 cv_iconst_0 rfl)) (am_lf_ok (fun _ => ok_iload_n dX12_set_109 rfl rfl))) (am_nd_ok (am_lf_ok (fun _ => ok_cvV rfl mw_X12_gives (ci := 12) rfl rfl wd_459 wd_460 wd_461 dX12_set_110 rfl)) (am_nd_ok (am_lf_ok (fun _ => ok_goto dX12_set_113 rfl)) (am_lf_ok (fun _ => ok_iconst dX12_set_116 cv_iconst_0 rfl))))) (am_nd_ok (am_nd_ok (am_lf_ok (fun _ => ok_zret rfl dX12_set_117)) (am_lf_ok (fun _ => ok_aload_n dX12_set_118 rfl rfl))) (am_nd_ok (am_lf_ok (fun _ => ok_cvV rfl mw_X12_forgets (ci := 12) rfl rfl wd_454 wd_455 wd_456 dX12_set_119 rfl)) (am_nd_ok (am_lf_ok (fun _ => ok_iconst dX12_set_122 cv_iconst_1 rfl)) (am_lf_ok (fun _ => ok_zret rfl dX12_set_123))))))
def tX12_set : Nat → Option am_Act := am_nd 47 (tX12_set_0) (am_nd 91 (tX12_set_1) (tX12_set_2))
theorem gX12_set : am_Good tT mX12_set tX12_set := am_nd_ok (gX12_set_0) (am_nd_ok (gX12_set_1) (gX12_set_2))
