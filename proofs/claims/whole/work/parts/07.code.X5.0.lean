/-! ===== code of TollOfNames$People ===== -/
theorem dX5_add_0 : decode cX5_add 0 = .ok (.aload_n 0, 1) := by decide +kernel
theorem dX5_add_1 : decode cX5_add 1 = .ok (.getfield 33, 3) := by decide +kernel
theorem dX5_add_4 : decode cX5_add 4 = .ok (.istore_n 3, 1) := by decide +kernel
theorem dX5_add_5 : decode cX5_add 5 = .ok (.iload_n 3, 1) := by decide +kernel
theorem dX5_add_6 : decode cX5_add 6 = .ok (.bipush 8, 2) := by decide +kernel
theorem dX5_add_8 : decode cX5_add 8 = .ok (.if_icmp .lt 5, 3) := by decide +kernel
theorem dX5_add_11 : decode cX5_add 11 = .ok (.iconst (-1), 1) := by decide +kernel
theorem dX5_add_12 : decode cX5_add 12 = .ok (.ireturn, 1) := by decide +kernel
theorem dX5_add_13 : decode cX5_add 13 = .ok (.aload_n 0, 1) := by decide +kernel
theorem dX5_add_14 : decode cX5_add 14 = .ok (.getfield 9, 3) := by decide +kernel
theorem dX5_add_17 : decode cX5_add 17 = .ok (.iload_n 3, 1) := by decide +kernel
theorem dX5_add_18 : decode cX5_add 18 = .ok (.iload_n 1, 1) := by decide +kernel
theorem dX5_add_19 : decode cX5_add 19 = .ok (.iastore, 1) := by decide +kernel
theorem dX5_add_20 : decode cX5_add 20 = .ok (.aload_n 0, 1) := by decide +kernel
theorem dX5_add_21 : decode cX5_add 21 = .ok (.getfield 15, 3) := by decide +kernel
theorem dX5_add_24 : decode cX5_add 24 = .ok (.iload_n 3, 1) := by decide +kernel
theorem dX5_add_25 : decode cX5_add 25 = .ok (.iload_n 2, 1) := by decide +kernel
theorem dX5_add_26 : decode cX5_add 26 = .ok (.iastore, 1) := by decide +kernel
theorem dX5_add_27 : decode cX5_add 27 = .ok (.aload_n 0, 1) := by decide +kernel
theorem dX5_add_28 : decode cX5_add 28 = .ok (.getfield 18, 3) := by decide +kernel
theorem dX5_add_31 : decode cX5_add 31 = .ok (.iload_n 3, 1) := by decide +kernel
theorem dX5_add_32 : decode cX5_add 32 = .ok (.iconst 0, 1) := by decide +kernel
theorem dX5_add_33 : decode cX5_add 33 = .ok (.iastore, 1) := by decide +kernel
theorem dX5_add_34 : decode cX5_add 34 = .ok (.aload_n 0, 1) := by decide +kernel
theorem dX5_add_35 : decode cX5_add 35 = .ok (.getfield 21, 3) := by decide +kernel
theorem dX5_add_38 : decode cX5_add 38 = .ok (.iload_n 3, 1) := by decide +kernel
theorem dX5_add_39 : decode cX5_add 39 = .ok (.iconst 0, 1) := by decide +kernel
theorem dX5_add_40 : decode cX5_add 40 = .ok (.iastore, 1) := by decide +kernel
theorem dX5_add_41 : decode cX5_add 41 = .ok (.aload_n 0, 1) := by decide +kernel
theorem dX5_add_42 : decode cX5_add 42 = .ok (.getfield 24, 3) := by decide +kernel
theorem dX5_add_45 : decode cX5_add 45 = .ok (.iload_n 3, 1) := by decide +kernel
theorem dX5_add_46 : decode cX5_add 46 = .ok (.iconst 0, 1) := by decide +kernel
theorem dX5_add_47 : decode cX5_add 47 = .ok (.iastore, 1) := by decide +kernel
theorem dX5_add_48 : decode cX5_add 48 = .ok (.aload_n 0, 1) := by decide +kernel
theorem dX5_add_49 : decode cX5_add 49 = .ok (.getfield 27, 3) := by decide +kernel
theorem dX5_add_52 : decode cX5_add 52 = .ok (.iload_n 3, 1) := by decide +kernel
theorem dX5_add_53 : decode cX5_add 53 = .ok (.iconst 0, 1) := by decide +kernel
theorem dX5_add_54 : decode cX5_add 54 = .ok (.iastore, 1) := by decide +kernel
theorem dX5_add_55 : decode cX5_add 55 = .ok (.aload_n 0, 1) := by decide +kernel
theorem dX5_add_56 : decode cX5_add 56 = .ok (.iload_n 3, 1) := by decide +kernel
theorem dX5_add_57 : decode cX5_add 57 = .ok (.iconst 1, 1) := by decide +kernel
theorem dX5_add_58 : decode cX5_add 58 = .ok (.iadd, 1) := by decide +kernel
theorem dX5_add_59 : decode cX5_add 59 = .ok (.putfield 33, 3) := by decide +kernel
theorem dX5_add_62 : decode cX5_add 62 = .ok (.iload_n 3, 1) := by decide +kernel
theorem dX5_add_63 : decode cX5_add 63 = .ok (.ireturn, 1) := by decide +kernel
def tX5_add_0 : Nat → Option am_Act := am_nd 19 (am_nd 11 (am_nd 5 (am_nd 1 (am_lf 0 (a_aload 0 1)) (am_nd 4 (am_lf 1 (a_get tT 5 0 4)) (am_lf 4 (a_istore 3 5)))) (am_nd 6 (am_lf 5 (a_iload 3 6)) (am_nd 8 (am_lf 6 (a_const (nI 8) 8)) (am_lf 8 (a_cmp (fun x y => x < y) 13 11))))) (am_nd 14 (am_nd 12 (am_lf 11 (a_const (-1) 12)) (am_nd 13 (am_lf 12 (a_iret)) (am_lf 13 (a_aload 0 14)))) (am_nd 17 (am_lf 14 (a_get tT 5 1 17)) (am_nd 18 (am_lf 17 (a_iload 3 18)) (am_lf 18 (a_iload 1 19)))))) (am_nd 27 (am_nd 24 (am_nd 20 (am_lf 19 (a_iast tT 20)) (am_nd 21 (am_lf 20 (a_aload 0 21)) (am_lf 21 (a_get tT 5 2 24)))) (am_nd 25 (am_lf 24 (a_iload 3 25)) (am_nd 26 (am_lf 25 (a_iload 2 26)) (am_lf 26 (a_iast tT 27))))) (am_nd 32 (am_nd 28 (am_lf 27 (a_aload 0 28)) (am_nd 31 (am_lf 28 (a_get tT 5 3 31)) (am_lf 31 (a_iload 3 32)))) (am_nd 33 (am_lf 32 (a_const (nI 0) 33)) (am_nd 34 (am_lf 33 (a_iast tT 34)) (am_lf 34 (a_aload 0 35))))))
theorem gX5_add_0 : am_Good tT mX5_add tX5_add_0 := am_nd_ok (am_nd_ok (am_nd_ok (am_nd_ok (am_lf_ok (fun _ => ok_aload_n dX5_add_0 rfl rfl)) (am_nd_ok (am_lf_ok (fun _ => ok_get (C := RX5) (TT := TX5) (N := 8) rfl inw_X5 (Nat.le_of_ble_eq_true rfl) wd_151 dX5_add_1 rfl)) (am_lf_ok (fun _ => ok_istore_n dX5_add_4 rfl (Nat.le_of_ble_eq_true rfl) rfl)))) (am_nd_ok (am_lf_ok (fun _ => ok_iload_n dX5_add_5 rfl rfl)) (am_nd_ok (am_lf_ok (fun _ => ok_bipush dX5_add_6 cv_bipush_8 rfl)) (am_lf_ok (fun _ => ok_cmp_lt dX5_add_8 rfl rfl))))) (am_nd_ok (am_nd_ok (am_lf_ok (fun _ => ok_iconst dX5_add_11 cv_iconst_m1 rfl)) (am_nd_ok (am_lf_ok (fun _ => ok_iret rfl dX5_add_12)) (am_lf_ok (fun _ => ok_aload_n dX5_add_13 rfl rfl)))) (am_nd_ok (am_lf_ok (fun _ => ok_get (C := RX5) (TT := TX5) (N := 8) rfl inw_X5 (Nat.le_of_ble_eq_true rfl) wd_152 dX5_add_14 rfl)) (am_nd_ok (am_lf_ok (fun _ => ok_iload_n dX5_add_17 rfl rfl)) (am_lf_ok (fun _ => ok_iload_n dX5_add_18 rfl rfl)))))) (am_nd_ok (am_nd_ok (am_nd_ok (am_lf_ok (fun _ => ok_iast dX5_add_19 rfl)) (am_nd_ok (am_lf_ok (fun _ => ok_aload_n dX5_add_20 rfl rfl)) (am_lf_ok (fun _ => ok_get (C := RX5) (TT := TX5) (N := 8) rfl inw_X5 (Nat.le_of_ble_eq_true rfl) wd_153 dX5_add_21 rfl)))) (am_nd_ok (am_lf_ok (fun _ => ok_iload_n dX5_add_24 rfl rfl)) (am_nd_ok (am_lf_ok (fun _ => ok_iload_n dX5_add_25 rfl rfl)) (am_lf_ok (fun _ => ok_iast dX5_add_26 rfl))))) (am_nd_ok (am_nd_ok (am_lf_ok (fun _ => ok_aload_n dX5_add_27 rfl rfl)) (am_nd_ok (am_lf_ok (fun _ => ok_get (C := RX5) (TT := TX5) (N := 8) rfl inw_X5 (Nat.le_of_ble_eq_true rfl) wd_154 dX5_add_28 rfl)) (am_lf_ok (fun _ => ok_iload_n dX5_add_31 rfl rfl)))) (am_nd_ok (am_lf_ok (fun _ => ok_iconst dX5_add_32 cv_iconst_0 rfl)) (am_nd_ok (am_lf_ok (fun _ => ok_iast dX5_add_33 rfl)) (am_lf_ok (fun _ => ok_aload_n dX5_add_34 rfl rfl))))))
def tX5_add_1 : Nat → Option am_Act := am_nd 49 (am_nd 42 (am_nd 39 (am_nd 38 (am_lf 35 (a_get tT 5 4 38)) (am_lf 38 (a_iload 3 39))) (am_nd 40 (am_lf 39 (a_const (nI 0) 40)) (am_nd 41 (am_lf 40 (a_iast tT 41)) (am_lf 41 (a_aload 0 42))))) (am_nd 46 (am_nd 45 (am_lf 42 (a_get tT 5 5 45)) (am_lf 45 (a_iload 3 46))) (am_nd 47 (am_lf 46 (a_const (nI 0) 47)) (am_nd 48 (am_lf 47 (a_iast tT 48)) (am_lf 48 (a_aload 0 49)))))) (am_nd 56 (am_nd 53 (am_nd 52 (am_lf 49 (a_get tT 5 6 52)) (am_lf 52 (a_iload 3 53))) (am_nd 54 (am_lf 53 (a_const (nI 0) 54)) (am_nd 55 (am_lf 54 (a_iast tT 55)) (am_lf 55 (a_aload 0 56))))) (am_nd 59 (am_nd 57 (am_lf 56 (a_iload 3 57)) (am_nd 58 (am_lf 57 (a_const (nI 1) 58)) (am_lf 58 (a_bin (fun x y => x + y) 59)))) (am_nd 62 (am_lf 59 (a_put tT 5 0 62)) (am_nd 63 (am_lf 62 (a_iload 3 63)) (am_lf 63 (a_iret))))))
theorem gX5_add_1 : am_Good tT mX5_add tX5_add_1 := am_nd_ok (am_nd_ok (am_nd_ok (am_nd_ok (am_lf_ok (fun _ => ok_get (C := RX5) (TT := TX5) (N := 8) rfl inw_X5 (Nat.le_of_ble_eq_true rfl) wd_155 dX5_add_35 rfl)) (am_lf_ok (fun _ => ok_iload_n dX5_add_38 rfl rfl))) (am_nd_ok (am_lf_ok (fun _ => ok_iconst dX5_add_39 cv_iconst_0 rfl)) (am_nd_ok (am_lf_ok (fun _ => ok_iast dX5_add_40 rfl)) (am_lf_ok (fun _ => ok_aload_n dX5_add_41 rfl rfl))))) (am_nd_ok (am_nd_ok (am_lf_ok (fun _ => ok_get (C := RX5) (TT := TX5) (N := 8) rfl inw_X5 (Nat.le_of_ble_eq_true rfl) wd_156 dX5_add_42 rfl)) (am_lf_ok (fun _ => ok_iload_n dX5_add_45 rfl rfl))) (am_nd_ok (am_lf_ok (fun _ => ok_iconst dX5_add_46 cv_iconst_0 rfl)) (am_nd_ok (am_lf_ok (fun _ => ok_iast dX5_add_47 rfl)) (am_lf_ok (fun _ => ok_aload_n dX5_add_48 rfl rfl)))))) (am_nd_ok (am_nd_ok (am_nd_ok (am_lf_ok (fun _ => ok_get (C := RX5) (TT := TX5) (N := 8) rfl inw_X5 (Nat.le_of_ble_eq_true rfl) wd_157 dX5_add_49 rfl)) (am_lf_ok (fun _ => ok_iload_n dX5_add_52 rfl rfl))) (am_nd_ok (am_lf_ok (fun _ => ok_iconst dX5_add_53 cv_iconst_0 rfl)) (am_nd_ok (am_lf_ok (fun _ => ok_iast dX5_add_54 rfl)) (am_lf_ok (fun _ => ok_aload_n dX5_add_55 rfl rfl))))) (am_nd_ok (am_nd_ok (am_lf_ok (fun _ => ok_iload_n dX5_add_56 rfl rfl)) (am_nd_ok (am_lf_ok (fun _ => ok_iconst dX5_add_57 cv_iconst_1 rfl)) (am_lf_ok (fun _ => ok_iadd dX5_add_58 rfl)))) (am_nd_ok (am_lf_ok (fun _ => ok_put (C := RX5) (TT := TX5) (N := 8) (ty0 := tyX5) rfl inw_X5 tyX5_ok nmX5 (Nat.le_of_ble_eq_true rfl) rfl rfl wd_151 dX5_add_59 rfl)) (am_nd_ok (am_lf_ok (fun _ => ok_iload_n dX5_add_62 rfl rfl)) (am_lf_ok (fun _ => ok_iret rfl dX5_add_63))))))
def tX5_add : Nat → Option am_Act := am_nd 35 (tX5_add_0) (tX5_add_1)
theorem gX5_add : am_Good tT mX5_add tX5_add := am_nd_ok (gX5_add_0) (gX5_add_1)
theorem dX5_nameAt_0 : decode cX5_nameAt 0 = .ok (.aload_n 0, 1) := by decide +kernel
theorem dX5_nameAt_1 : decode cX5_nameAt 1 = .ok (.getfield 30, 3) := by decide +kernel
theorem dX5_nameAt_4 : decode cX5_nameAt 4 = .ok (.iload_n 1, 1) := by decide +kernel
theorem dX5_nameAt_5 : decode cX5_nameAt 5 = .ok (.bipush 9, 2) := by decide +kernel
theorem dX5_nameAt_7 : decode cX5_nameAt 7 = .ok (.imul, 1) := by decide +kernel
theorem dX5_nameAt_8 : decode cX5_nameAt 8 = .ok (.iload_n 2, 1) := by decide +kernel
theorem dX5_nameAt_9 : decode cX5_nameAt 9 = .ok (.iadd, 1) := by decide +kernel
theorem dX5_nameAt_10 : decode cX5_nameAt 10 = .ok (.iaload, 1) := by decide +kernel
theorem dX5_nameAt_11 : decode cX5_nameAt 11 = .ok (.ireturn, 1) := by decide +kernel
def tX5_nameAt_0 : Nat → Option am_Act := am_nd 7 (am_nd 4 (am_nd 1 (am_lf 0 (a_aload 0 1)) (am_lf 1 (a_get tT 5 7 4))) (am_nd 5 (am_lf 4 (a_iload 1 5)) (am_lf 5 (a_const (nI 9) 7)))) (am_nd 9 (am_nd 8 (am_lf 7 (a_bin (fun x y => x * y) 8)) (am_lf 8 (a_iload 2 9))) (am_nd 10 (am_lf 9 (a_bin (fun x y => x + y) 10)) (am_nd 11 (am_lf 10 (a_iald tT 11)) (am_lf 11 (a_iret)))))
theorem gX5_nameAt_0 : am_Good tT mX5_nameAt tX5_nameAt_0 := am_nd_ok (am_nd_ok (am_nd_ok (am_lf_ok (fun _ => ok_aload_n dX5_nameAt_0 rfl rfl)) (am_lf_ok (fun _ => ok_get (C := RX5) (TT := TX5) (N := 8) rfl inw_X5 (Nat.le_of_ble_eq_true rfl) wd_158 dX5_nameAt_1 rfl))) (am_nd_ok (am_lf_ok (fun _ => ok_iload_n dX5_nameAt_4 rfl rfl)) (am_lf_ok (fun _ => ok_bipush dX5_nameAt_5 cv_bipush_9 rfl)))) (am_nd_ok (am_nd_ok (am_lf_ok (fun _ => ok_imul dX5_nameAt_7 rfl)) (am_lf_ok (fun _ => ok_iload_n dX5_nameAt_8 rfl rfl))) (am_nd_ok (am_lf_ok (fun _ => ok_iadd dX5_nameAt_9 rfl)) (am_nd_ok (am_lf_ok (fun _ => ok_iald dX5_nameAt_10 rfl)) (am_lf_ok (fun _ => ok_iret rfl dX5_nameAt_11)))))
def tX5_nameAt : Nat → Option am_Act := tX5_nameAt_0
theorem gX5_nameAt : am_Good tT mX5_nameAt tX5_nameAt := gX5_nameAt_0
theorem dX5_hasName_0 : decode cX5_hasName 0 = .ok (.aload_n 0, 1) := by decide +kernel
theorem dX5_hasName_1 : decode cX5_hasName 1 = .ok (.getfield 24, 3) := by decide +kernel
theorem dX5_hasName_4 : decode cX5_hasName 4 = .ok (.iload_n 1, 1) := by decide +kernel
theorem dX5_hasName_5 : decode cX5_hasName 5 = .ok (.iaload, 1) := by decide +kernel
theorem dX5_hasName_6 : decode cX5_hasName 6 = .ok (.iload_n 2, 1) := by decide +kernel
theorem dX5_hasName_7 : decode cX5_hasName 7 = .ok (.ishr, 1) := by decide +kernel
theorem dX5_hasName_8 : decode cX5_hasName 8 = .ok (.iconst 1, 1) := by decide +kernel
theorem dX5_hasName_9 : decode cX5_hasName 9 = .ok (.iand, 1) := by decide +kernel
theorem dX5_hasName_10 : decode cX5_hasName 10 = .ok (.ifCond .eq 7, 3) := by decide +kernel
theorem dX5_hasName_13 : decode cX5_hasName 13 = .ok (.iconst 1, 1) := by decide +kernel
theorem dX5_hasName_14 : decode cX5_hasName 14 = .ok (.goto 4, 3) := by decide +kernel
theorem dX5_hasName_17 : decode cX5_hasName 17 = .ok (.iconst 0, 1) := by decide +kernel
theorem dX5_hasName_18 : decode cX5_hasName 18 = .ok (.ireturn, 1) := by decide +kernel
def tX5_hasName_0 : Nat → Option am_Act := am_nd 8 (am_nd 5 (am_nd 1 (am_lf 0 (a_aload 0 1)) (am_nd 4 (am_lf 1 (a_get tT 5 5 4)) (am_lf 4 (a_iload 1 5)))) (am_nd 6 (am_lf 5 (a_iald tT 6)) (am_nd 7 (am_lf 6 (a_iload 2 7)) (am_lf 7 (a_bin (fun x y => x >>> (y &&& 31)) 8))))) (am_nd 13 (am_nd 9 (am_lf 8 (a_const (nI 1) 9)) (am_nd 10 (am_lf 9 (a_bin (fun x y => x &&& y) 10)) (am_lf 10 (a_if (fun x => x = nI 0) 17 13)))) (am_nd 17 (am_nd 14 (am_lf 13 (a_const (nI 1) 14)) (am_lf 14 (a_goto 18))) (am_nd 18 (am_lf 17 (a_const (nI 0) 18)) (am_lf 18 (a_zret)))))
theorem gX5_hasName_0 : am_Good tT mX5_hasName tX5_hasName_0 := am_nd_ok (am_nd_ok (am_nd_ok (am_lf_ok (fun _ => ok_aload_n dX5_hasName_0 rfl rfl)) (am_nd_ok (am_lf_ok (fun _ => ok_get (C := RX5) (TT := TX5) (N := 8) rfl inw_X5 (Nat.le_of_ble_eq_true rfl) wd_156 dX5_hasName_1 rfl)) (am_lf_ok (fun _ => ok_iload_n dX5_hasName_4 rfl rfl)))) (am_nd_ok (am_lf_ok (fun _ => ok_iald dX5_hasName_5 rfl)) (am_nd_ok (am_lf_ok (fun _ => ok_iload_n dX5_hasName_6 rfl rfl)) (am_lf_ok (fun _ => ok_ishr dX5_hasName_7 rfl))))) (am_nd_ok (am_nd_ok (am_lf_ok (fun _ => ok_iconst dX5_hasName_8 cv_iconst_1 rfl)) (am_nd_ok (am_lf_ok (fun _ => ok_iand dX5_hasName_9 rfl)) (am_lf_ok (fun _ => ok_if_eq dX5_hasName_10 rfl rfl)))) (am_nd_ok (am_nd_ok (am_lf_ok (fun _ => ok_iconst dX5_hasName_13 cv_iconst_1 rfl)) (am_lf_ok (fun _ => ok_goto dX5_hasName_14 rfl))) (am_nd_ok (am_lf_ok (fun _ => ok_iconst dX5_hasName_17 cv_iconst_0 rfl)) (am_lf_ok (fun _ => ok_zret rfl dX5_hasName_18)))))
def tX5_hasName : Nat → Option am_Act := tX5_hasName_0
theorem gX5_hasName : am_Good tT mX5_hasName tX5_hasName := gX5_hasName_0
theorem dX5_canGain_0 : decode cX5_canGain 0 = .ok (.aload_n 0, 1) := by decide +kernel
theorem dX5_canGain_1 : decode cX5_canGain 1 = .ok (.getfield 27, 3) := by decide +kernel
theorem dX5_canGain_4 : decode cX5_canGain 4 = .ok (.iload_n 1, 1) := by decide +kernel
theorem dX5_canGain_5 : decode cX5_canGain 5 = .ok (.iaload, 1) := by decide +kernel
theorem dX5_canGain_6 : decode cX5_canGain 6 = .ok (.bipush 9, 2) := by decide +kernel
theorem dX5_canGain_8 : decode cX5_canGain 8 = .ok (.if_icmp .ge 16, 3) := by decide +kernel
theorem dX5_canGain_11 : decode cX5_canGain 11 = .ok (.aload_n 0, 1) := by decide +kernel
theorem dX5_canGain_12 : decode cX5_canGain 12 = .ok (.iload_n 1, 1) := by decide +kernel
theorem dX5_canGain_13 : decode cX5_canGain 13 = .ok (.iload_n 2, 1) := by decide +kernel
theorem dX5_canGain_14 : decode cX5_canGain 14 = .ok (.invokevirtual 37, 3) := by decide +kernel
theorem dX5_canGain_17 : decode cX5_canGain 17 = .ok (.ifCond .ne 7, 3) := by decide +kernel
theorem dX5_canGain_20 : decode cX5_canGain 20 = .ok (.iconst 1, 1) := by decide +kernel
theorem dX5_canGain_21 : decode cX5_canGain 21 = .ok (.goto 4, 3) := by decide +kernel
theorem dX5_canGain_24 : decode cX5_canGain 24 = .ok (.iconst 0, 1) := by decide +kernel
theorem dX5_canGain_25 : decode cX5_canGain 25 = .ok (.ireturn, 1) := by decide +kernel
def tX5_canGain_0 : Nat → Option am_Act := am_nd 12 (am_nd 5 (am_nd 1 (am_lf 0 (a_aload 0 1)) (am_nd 4 (am_lf 1 (a_get tT 5 6 4)) (am_lf 4 (a_iload 1 5)))) (am_nd 8 (am_nd 6 (am_lf 5 (a_iald tT 6)) (am_lf 6 (a_const (nI 9) 8))) (am_nd 11 (am_lf 8 (a_cmp (fun x y => y ≤ x) 24 11)) (am_lf 11 (a_aload 0 12))))) (am_nd 20 (am_nd 14 (am_nd 13 (am_lf 12 (a_iload 1 13)) (am_lf 13 (a_iload 2 14))) (am_nd 17 (am_lf 14 (a_cvI tT mX5_hasName 5 2 17)) (am_lf 17 (a_if (fun x => x = nI 0) 20 24)))) (am_nd 24 (am_nd 21 (am_lf 20 (a_const (nI 1) 21)) (am_lf 21 (a_goto 25))) (am_nd 25 (am_lf 24 (a_const (nI 0) 25)) (am_lf 25 (a_zret)))))
theorem gX5_canGain_0 : am_Good tT mX5_canGain tX5_canGain_0 := am_nd_ok (am_nd_ok (am_nd_ok (am_lf_ok (fun _ => ok_aload_n dX5_canGain_0 rfl rfl)) (am_nd_ok (am_lf_ok (fun _ => ok_get (C := RX5) (TT := TX5) (N := 8) rfl inw_X5 (Nat.le_of_ble_eq_true rfl) wd_157 dX5_canGain_1 rfl)) (am_lf_ok (fun _ => ok_iload_n dX5_canGain_4 rfl rfl)))) (am_nd_ok (am_nd_ok (am_lf_ok (fun _ => ok_iald dX5_canGain_5 rfl)) (am_lf_ok (fun _ => ok_bipush dX5_canGain_6 cv_bipush_9 rfl))) (am_nd_ok (am_lf_ok (fun _ => ok_cmp_ge dX5_canGain_8 rfl rfl)) (am_lf_ok (fun _ => ok_aload_n dX5_canGain_11 rfl rfl))))) (am_nd_ok (am_nd_ok (am_nd_ok (am_lf_ok (fun _ => ok_iload_n dX5_canGain_12 rfl rfl)) (am_lf_ok (fun _ => ok_iload_n dX5_canGain_13 rfl rfl))) (am_nd_ok (am_lf_ok (fun _ => ok_cvI rfl mw_X5_hasName (ci := 5) rfl rfl wd_159 wd_160 wd_161 dX5_canGain_14 rfl)) (am_lf_ok (fun _ => ok_if_ne dX5_canGain_17 rfl rfl)))) (am_nd_ok (am_nd_ok (am_lf_ok (fun _ => ok_iconst dX5_canGain_20 cv_iconst_1 rfl)) (am_lf_ok (fun _ => ok_goto dX5_canGain_21 rfl))) (am_nd_ok (am_lf_ok (fun _ => ok_iconst dX5_canGain_24 cv_iconst_0 rfl)) (am_lf_ok (fun _ => ok_zret rfl dX5_canGain_25)))))
def tX5_canGain : Nat → Option am_Act := tX5_canGain_0
theorem gX5_canGain : am_Good tT mX5_canGain tX5_canGain := gX5_canGain_0
theorem dX5_append_0 : decode cX5_append 0 = .ok (.aload_n 0, 1) := by decide +kernel
theorem dX5_append_1 : decode cX5_append 1 = .ok (.iload_n 1, 1) := by decide +kernel
theorem dX5_append_2 : decode cX5_append 2 = .ok (.aload_n 0, 1) := by decide +kernel
theorem dX5_append_3 : decode cX5_append 3 = .ok (.getfield 27, 3) := by decide +kernel
theorem dX5_append_6 : decode cX5_append 6 = .ok (.iload_n 1, 1) := by decide +kernel
theorem dX5_append_7 : decode cX5_append 7 = .ok (.iaload, 1) := by decide +kernel
theorem dX5_append_8 : decode cX5_append 8 = .ok (.iload_n 2, 1) := by decide +kernel
theorem dX5_append_9 : decode cX5_append 9 = .ok (.invokevirtual 41, 3) := by decide +kernel
theorem dX5_append_12 : decode cX5_append 12 = .ok (.return_, 1) := by decide +kernel
def tX5_append_0 : Nat → Option am_Act := am_nd 6 (am_nd 2 (am_nd 1 (am_lf 0 (a_aload 0 1)) (am_lf 1 (a_iload 1 2))) (am_nd 3 (am_lf 2 (a_aload 0 3)) (am_lf 3 (a_get tT 5 6 6)))) (am_nd 8 (am_nd 7 (am_lf 6 (a_iload 1 7)) (am_lf 7 (a_iald tT 8))) (am_nd 9 (am_lf 8 (a_iload 2 9)) (am_nd 12 (am_lf 9 (a_cvV tT mX5_insert 5 3 12)) (am_lf 12 (a_ret)))))
theorem gX5_append_0 : am_Good tT mX5_append tX5_append_0 := am_nd_ok (am_nd_ok (am_nd_ok (am_lf_ok (fun _ => ok_aload_n dX5_append_0 rfl rfl)) (am_lf_ok (fun _ => ok_iload_n dX5_append_1 rfl rfl))) (am_nd_ok (am_lf_ok (fun _ => ok_aload_n dX5_append_2 rfl rfl)) (am_lf_ok (fun _ => ok_get (C := RX5) (TT := TX5) (N := 8) rfl inw_X5 (Nat.le_of_ble_eq_true rfl) wd_157 dX5_append_3 rfl)))) (am_nd_ok (am_nd_ok (am_lf_ok (fun _ => ok_iload_n dX5_append_6 rfl rfl)) (am_lf_ok (fun _ => ok_iald dX5_append_7 rfl))) (am_nd_ok (am_lf_ok (fun _ => ok_iload_n dX5_append_8 rfl rfl)) (am_nd_ok (am_lf_ok (fun _ => ok_cvV rfl mw_X5_insert (ci := 5) rfl rfl wd_162 wd_163 wd_164 dX5_append_9 rfl)) (am_lf_ok (fun _ => ok_ret rfl dX5_append_12)))))
def tX5_append : Nat → Option am_Act := tX5_append_0
theorem gX5_append : am_Good tT mX5_append tX5_append := gX5_append_0
theorem dX5_insert_0 : decode cX5_insert 0 = .ok (.aload_n 0, 1) := by decide +kernel
theorem dX5_insert_1 : decode cX5_insert 1 = .ok (.getfield 27, 3) := by decide +kernel
theorem dX5_insert_4 : decode cX5_insert 4 = .ok (.iload_n 1, 1) := by decide +kernel
theorem dX5_insert_5 : decode cX5_insert 5 = .ok (.iaload, 1) := by decide +kernel
theorem dX5_insert_6 : decode cX5_insert 6 = .ok (.istore 4, 2) := by decide +kernel
theorem dX5_insert_8 : decode cX5_insert 8 = .ok (.iload 4, 2) := by decide +kernel
theorem dX5_insert_10 : decode cX5_insert 10 = .ok (.bipush 9, 2) := by decide +kernel
theorem dX5_insert_12 : decode cX5_insert 12 = .ok (.if_icmp .ge 9, 3) := by decide +kernel
theorem dX5_insert_15 : decode cX5_insert 15 = .ok (.iload_n 2, 1) := by decide +kernel
theorem dX5_insert_16 : decode cX5_insert 16 = .ok (.iload 4, 2) := by decide +kernel
theorem dX5_insert_18 : decode cX5_insert 18 = .ok (.if_icmp .le 4, 3) := by decide +kernel
theorem dX5_insert_21 : decode cX5_insert 21 = .ok (.return_, 1) := by decide +kernel
theorem dX5_insert_22 : decode cX5_insert 22 = .ok (.iload_n 1, 1) := by decide +kernel
theorem dX5_insert_23 : decode cX5_insert 23 = .ok (.bipush 9, 2) := by decide +kernel
theorem dX5_insert_25 : decode cX5_insert 25 = .ok (.imul, 1) := by decide +kernel
theorem dX5_insert_26 : decode cX5_insert 26 = .ok (.iload_n 2, 1) := by decide +kernel
theorem dX5_insert_27 : decode cX5_insert 27 = .ok (.iadd, 1) := by decide +kernel
theorem dX5_insert_28 : decode cX5_insert 28 = .ok (.istore 5, 2) := by decide +kernel
theorem dX5_insert_30 : decode cX5_insert 30 = .ok (.aload_n 0, 1) := by decide +kernel
theorem dX5_insert_31 : decode cX5_insert 31 = .ok (.getfield 30, 3) := by decide +kernel
theorem dX5_insert_34 : decode cX5_insert 34 = .ok (.iload 5, 2) := by decide +kernel
theorem dX5_insert_36 : decode cX5_insert 36 = .ok (.aload_n 0, 1) := by decide +kernel
theorem dX5_insert_37 : decode cX5_insert 37 = .ok (.getfield 30, 3) := by decide +kernel
theorem dX5_insert_40 : decode cX5_insert 40 = .ok (.iload 5, 2) := by decide +kernel
theorem dX5_insert_42 : decode cX5_insert 42 = .ok (.iconst 1, 1) := by decide +kernel
theorem dX5_insert_43 : decode cX5_insert 43 = .ok (.iadd, 1) := by decide +kernel
theorem dX5_insert_44 : decode cX5_insert 44 = .ok (.iload 4, 2) := by decide +kernel
theorem dX5_insert_46 : decode cX5_insert 46 = .ok (.iload_n 2, 1) := by decide +kernel
theorem dX5_insert_47 : decode cX5_insert 47 = .ok (.isub, 1) := by decide +kernel
theorem dX5_insert_48 : decode cX5_insert 48 = .ok (.invokestatic 45, 3) := by decide +kernel
theorem dX5_insert_51 : decode cX5_insert 51 = .ok (.aload_n 0, 1) := by decide +kernel
theorem dX5_insert_52 : decode cX5_insert 52 = .ok (.getfield 30, 3) := by decide +kernel
theorem dX5_insert_55 : decode cX5_insert 55 = .ok (.iload 5, 2) := by decide +kernel
theorem dX5_insert_57 : decode cX5_insert 57 = .ok (.iload_n 3, 1) := by decide +kernel
theorem dX5_insert_58 : decode cX5_insert 58 = .ok (.iastore, 1) := by decide +kernel
theorem dX5_insert_59 : decode cX5_insert 59 = .ok (.aload_n 0, 1) := by decide +kernel
theorem dX5_insert_60 : decode cX5_insert 60 = .ok (.getfield 27, 3) := by decide +kernel
theorem dX5_insert_63 : decode cX5_insert 63 = .ok (.iload_n 1, 1) := by decide +kernel
theorem dX5_insert_64 : decode cX5_insert 64 = .ok (.iload 4, 2) := by decide +kernel
theorem dX5_insert_66 : decode cX5_insert 66 = .ok (.iconst 1, 1) := by decide +kernel
theorem dX5_insert_67 : decode cX5_insert 67 = .ok (.iadd, 1) := by decide +kernel
theorem dX5_insert_68 : decode cX5_insert 68 = .ok (.iastore, 1) := by decide +kernel
theorem dX5_insert_69 : decode cX5_insert 69 = .ok (.aload_n 0, 1) := by decide +kernel
theorem dX5_insert_70 : decode cX5_insert 70 = .ok (.getfield 24, 3) := by decide +kernel
theorem dX5_insert_73 : decode cX5_insert 73 = .ok (.iload_n 1, 1) := by decide +kernel
theorem dX5_insert_74 : decode cX5_insert 74 = .ok (.dup2, 1) := by decide +kernel
theorem dX5_insert_75 : decode cX5_insert 75 = .ok (.iaload, 1) := by decide +kernel
theorem dX5_insert_76 : decode cX5_insert 76 = .ok (.iconst 1, 1) := by decide +kernel
theorem dX5_insert_77 : decode cX5_insert 77 = .ok (.iload_n 3, 1) := by decide +kernel
theorem dX5_insert_78 : decode cX5_insert 78 = .ok (.ishl, 1) := by decide +kernel
theorem dX5_insert_79 : decode cX5_insert 79 = .ok (.ior, 1) := by decide +kernel
theorem dX5_insert_80 : decode cX5_insert 80 = .ok (.iastore, 1) := by decide +kernel
theorem dX5_insert_81 : decode cX5_insert 81 = .ok (.return_, 1) := by decide +kernel
def tX5_insert_0 : Nat → Option am_Act := am_nd 22 (am_nd 10 (am_nd 5 (am_nd 1 (am_lf 0 (a_aload 0 1)) (am_nd 4 (am_lf 1 (a_get tT 5 6 4)) (am_lf 4 (a_iload 1 5)))) (am_nd 6 (am_lf 5 (a_iald tT 6)) (am_nd 8 (am_lf 6 (a_istore 4 8)) (am_lf 8 (a_iload 4 10))))) (am_nd 16 (am_nd 12 (am_lf 10 (a_const (nI 9) 12)) (am_nd 15 (am_lf 12 (a_cmp (fun x y => y ≤ x) 21 15)) (am_lf 15 (a_iload 2 16)))) (am_nd 18 (am_lf 16 (a_iload 4 18)) (am_nd 21 (am_lf 18 (a_cmp (fun x y => x ≤ y) 22 21)) (am_lf 21 (a_ret)))))) (am_nd 30 (am_nd 26 (am_nd 23 (am_lf 22 (a_iload 1 23)) (am_nd 25 (am_lf 23 (a_const (nI 9) 25)) (am_lf 25 (a_bin (fun x y => x * y) 26)))) (am_nd 27 (am_lf 26 (a_iload 2 27)) (am_nd 28 (am_lf 27 (a_bin (fun x y => x + y) 28)) (am_lf 28 (a_istore 5 30))))) (am_nd 36 (am_nd 31 (am_lf 30 (a_aload 0 31)) (am_nd 34 (am_lf 31 (a_get tT 5 7 34)) (am_lf 34 (a_iload 5 36)))) (am_nd 37 (am_lf 36 (a_aload 0 37)) (am_nd 40 (am_lf 37 (a_get tT 5 7 40)) (am_lf 40 (a_iload 5 42))))))
theorem gX5_insert_0 : am_Good tT mX5_insert tX5_insert_0 := am_nd_ok (am_nd_ok (am_nd_ok (am_nd_ok (am_lf_ok (fun _ => ok_aload_n dX5_insert_0 rfl rfl)) (am_nd_ok (am_lf_ok (fun _ => ok_get (C := RX5) (TT := TX5) (N := 8) rfl inw_X5 (Nat.le_of_ble_eq_true rfl) wd_157 dX5_insert_1 rfl)) (am_lf_ok (fun _ => ok_iload_n dX5_insert_4 rfl rfl)))) (am_nd_ok (am_lf_ok (fun _ => ok_iald dX5_insert_5 rfl)) (am_nd_ok (am_lf_ok (fun _ => ok_istore dX5_insert_6 (Nat.le_of_ble_eq_true rfl) rfl)) (am_lf_ok (fun _ => ok_iload dX5_insert_8 rfl))))) (am_nd_ok (am_nd_ok (am_lf_ok (fun _ => ok_bipush dX5_insert_10 cv_bipush_9 rfl)) (am_nd_ok (am_lf_ok (fun _ => ok_cmp_ge dX5_insert_12 rfl rfl)) (am_lf_ok (fun _ => ok_iload_n dX5_insert_15 rfl rfl)))) (am_nd_ok (am_lf_ok (fun _ => ok_iload dX5_insert_16 rfl)) (am_nd_ok (am_lf_ok (fun _ => ok_cmp_le dX5_insert_18 rfl rfl)) (am_lf_ok (fun _ => ok_ret rfl dX5_insert_21)))))) (am_nd_ok (am_nd_ok (am_nd_ok (am_lf_ok (fun _ => ok_iload_n dX5_insert_22 rfl rfl)) (am_nd_ok (am_lf_ok (fun _ => ok_bipush dX5_insert_23 cv_bipush_9 rfl)) (am_lf_ok (fun _ => ok_imul dX5_insert_25 rfl)))) (am_nd_ok (am_lf_ok (fun _ => ok_iload_n dX5_insert_26 rfl rfl)) (am_nd_ok (am_lf_ok (fun _ => ok_iadd dX5_insert_27 rfl)) (am_lf_ok (fun _ => ok_istore dX5_insert_28 (Nat.le_of_ble_eq_true rfl) rfl))))) (am_nd_ok (am_nd_ok (am_lf_ok (fun _ => ok_aload_n dX5_insert_30 rfl rfl)) (am_nd_ok (am_lf_ok (fun _ => ok_get (C := RX5) (TT := TX5) (N := 8) rfl inw_X5 (Nat.le_of_ble_eq_true rfl) wd_158 dX5_insert_31 rfl)) (am_lf_ok (fun _ => ok_iload dX5_insert_34 rfl)))) (am_nd_ok (am_lf_ok (fun _ => ok_aload_n dX5_insert_36 rfl rfl)) (am_nd_ok (am_lf_ok (fun _ => ok_get (C := RX5) (TT := TX5) (N := 8) rfl inw_X5 (Nat.le_of_ble_eq_true rfl) wd_158 dX5_insert_37 rfl)) (am_lf_ok (fun _ => ok_iload dX5_insert_40 rfl))))))
def tX5_insert_1 : Nat → Option am_Act := am_nd 60 (am_nd 51 (am_nd 46 (am_nd 43 (am_lf 42 (a_const (nI 1) 43)) (am_nd 44 (am_lf 43 (a_bin (fun x y => x + y) 44)) (am_lf 44 (a_iload 4 46)))) (am_nd 47 (am_lf 46 (a_iload 2 47)) (am_nd 48 (am_lf 47 (a_bin (fun x y => x - y) 48)) (am_lf 48 (a_copy tT 51))))) (am_nd 57 (am_nd 52 (am_lf 51 (a_aload 0 52)) (am_nd 55 (am_lf 52 (a_get tT 5 7 55)) (am_lf 55 (a_iload 5 57)))) (am_nd 58 (am_lf 57 (a_iload 3 58)) (am_nd 59 (am_lf 58 (a_iast tT 59)) (am_lf 59 (a_aload 0 60)))))) (am_nd 69 (am_nd 66 (am_nd 63 (am_lf 60 (a_get tT 5 6 63)) (am_nd 64 (am_lf 63 (a_iload 1 64)) (am_lf 64 (a_iload 4 66)))) (am_nd 67 (am_lf 66 (a_const (nI 1) 67)) (am_nd 68 (am_lf 67 (a_bin (fun x y => x + y) 68)) (am_lf 68 (a_iast tT 69))))) (am_nd 74 (am_nd 70 (am_lf 69 (a_aload 0 70)) (am_nd 73 (am_lf 70 (a_get tT 5 5 73)) (am_lf 73 (a_iload 1 74)))) (am_nd 75 (am_lf 74 (a_dup2 75)) (am_nd 76 (am_lf 75 (a_iald tT 76)) (am_lf 76 (a_const (nI 1) 77))))))
theorem gX5_insert_1 : am_Good tT mX5_insert tX5_insert_1 := am_nd_ok (am_nd_ok (am_nd_ok (am_nd_ok (am_lf_ok (fun _ => ok_iconst dX5_insert_42 cv_iconst_1 rfl)) (am_nd_ok (am_lf_ok (fun _ => ok_iadd dX5_insert_43 rfl)) (am_lf_ok (fun _ => ok_iload dX5_insert_44 rfl)))) (am_nd_ok (am_lf_ok (fun _ => ok_iload_n dX5_insert_46 rfl rfl)) (am_nd_ok (am_lf_ok (fun _ => ok_isub dX5_insert_47 rfl)) (am_lf_ok (fun _ => ok_copy wd_165 wd_31 wd_32 wd_33 dX5_insert_48 rfl))))) (am_nd_ok (am_nd_ok (am_lf_ok (fun _ => ok_aload_n dX5_insert_51 rfl rfl)) (am_nd_ok (am_lf_ok (fun _ => ok_get (C := RX5) (TT := TX5) (N := 8) rfl inw_X5 (Nat.le_of_ble_eq_true rfl) wd_158 dX5_insert_52 rfl)) (am_lf_ok (fun _ => ok_iload dX5_insert_55 rfl)))) (am_nd_ok (am_lf_ok (fun _ => ok_iload_n dX5_insert_57 rfl rfl)) (am_nd_ok (am_lf_ok (fun _ => ok_iast dX5_insert_58 rfl)) (am_lf_ok (fun _ => ok_aload_n dX5_insert_59 rfl rfl)))))) (am_nd_ok (am_nd_ok (am_nd_ok (am_lf_ok (fun _ => ok_get (C := RX5) (TT := TX5) (N := 8) rfl inw_X5 (Nat.le_of_ble_eq_true rfl) wd_157 dX5_insert_60 rfl)) (am_nd_ok (am_lf_ok (fun _ => ok_iload_n dX5_insert_63 rfl rfl)) (am_lf_ok (fun _ => ok_iload dX5_insert_64 rfl)))) (am_nd_ok (am_lf_ok (fun _ => ok_iconst dX5_insert_66 cv_iconst_1 rfl)) (am_nd_ok (am_lf_ok (fun _ => ok_iadd dX5_insert_67 rfl)) (am_lf_ok (fun _ => ok_iast dX5_insert_68 rfl))))) (am_nd_ok (am_nd_ok (am_lf_ok (fun _ => ok_aload_n dX5_insert_69 rfl rfl)) (am_nd_ok (am_lf_ok (fun _ => ok_get (C := RX5) (TT := TX5) (N := 8) rfl inw_X5 (Nat.le_of_ble_eq_true rfl) wd_156 dX5_insert_70 rfl)) (am_lf_ok (fun _ => ok_iload_n dX5_insert_73 rfl rfl)))) (am_nd_ok (am_lf_ok (fun _ => ok_dup2 dX5_insert_74 rfl)) (am_nd_ok (am_lf_ok (fun _ => ok_iald dX5_insert_75 rfl)) (am_lf_ok (fun _ => ok_iconst dX5_insert_76 cv_iconst_1 rfl))))))
def tX5_insert_2 : Nat → Option am_Act := am_nd 79 (am_nd 78 (am_lf 77 (a_iload 3 78)) (am_lf 78 (a_bin (fun x y => x <<< (y &&& 31)) 79))) (am_nd 80 (am_lf 79 (a_bin (fun x y => x ||| y) 80)) (am_nd 81 (am_lf 80 (a_iast tT 81)) (am_lf 81 (a_ret))))
theorem gX5_insert_2 : am_Good tT mX5_insert tX5_insert_2 := am_nd_ok (am_nd_ok (am_lf_ok (fun _ => ok_iload_n dX5_insert_77 rfl rfl)) (am_lf_ok (fun _ => ok_ishl dX5_insert_78 rfl))) (am_nd_ok (am_lf_ok (fun _ => ok_ior dX5_insert_79 rfl)) (am_nd_ok (am_lf_ok (fun _ => ok_iast dX5_insert_80 rfl)) (am_lf_ok (fun _ => ok_ret rfl dX5_insert_81))))
def tX5_insert : Nat → Option am_Act := am_nd 42 (tX5_insert_0) (am_nd 77 (tX5_insert_1) (tX5_insert_2))
theorem gX5_insert : am_Good tT mX5_insert tX5_insert := am_nd_ok (gX5_insert_0) (am_nd_ok (gX5_insert_1) (gX5_insert_2))
theorem dX5_remove_0 : decode cX5_remove 0 = .ok (.aload_n 0, 1) := by decide +kernel
theorem dX5_remove_1 : decode cX5_remove 1 = .ok (.getfield 27, 3) := by decide +kernel
theorem dX5_remove_4 : decode cX5_remove 4 = .ok (.iload_n 1, 1) := by decide +kernel
theorem dX5_remove_5 : decode cX5_remove 5 = .ok (.iaload, 1) := by decide +kernel
theorem dX5_remove_6 : decode cX5_remove 6 = .ok (.istore_n 3, 1) := by decide +kernel
theorem dX5_remove_7 : decode cX5_remove 7 = .ok (.iload_n 2, 1) := by decide +kernel
theorem dX5_remove_8 : decode cX5_remove 8 = .ok (.ifCond .lt 8, 3) := by decide +kernel
theorem dX5_remove_11 : decode cX5_remove 11 = .ok (.iload_n 2, 1) := by decide +kernel
theorem dX5_remove_12 : decode cX5_remove 12 = .ok (.iload_n 3, 1) := by decide +kernel
theorem dX5_remove_13 : decode cX5_remove 13 = .ok (.if_icmp .lt 4, 3) := by decide +kernel
theorem dX5_remove_16 : decode cX5_remove 16 = .ok (.return_, 1) := by decide +kernel
theorem dX5_remove_17 : decode cX5_remove 17 = .ok (.iload_n 1, 1) := by decide +kernel
theorem dX5_remove_18 : decode cX5_remove 18 = .ok (.bipush 9, 2) := by decide +kernel
theorem dX5_remove_20 : decode cX5_remove 20 = .ok (.imul, 1) := by decide +kernel
theorem dX5_remove_21 : decode cX5_remove 21 = .ok (.iload_n 2, 1) := by decide +kernel
theorem dX5_remove_22 : decode cX5_remove 22 = .ok (.iadd, 1) := by decide +kernel
theorem dX5_remove_23 : decode cX5_remove 23 = .ok (.istore 4, 2) := by decide +kernel
theorem dX5_remove_25 : decode cX5_remove 25 = .ok (.aload_n 0, 1) := by decide +kernel
theorem dX5_remove_26 : decode cX5_remove 26 = .ok (.getfield 24, 3) := by decide +kernel
theorem dX5_remove_29 : decode cX5_remove 29 = .ok (.iload_n 1, 1) := by decide +kernel
theorem dX5_remove_30 : decode cX5_remove 30 = .ok (.dup2, 1) := by decide +kernel
theorem dX5_remove_31 : decode cX5_remove 31 = .ok (.iaload, 1) := by decide +kernel
theorem dX5_remove_32 : decode cX5_remove 32 = .ok (.iconst 1, 1) := by decide +kernel
theorem dX5_remove_33 : decode cX5_remove 33 = .ok (.aload_n 0, 1) := by decide +kernel
theorem dX5_remove_34 : decode cX5_remove 34 = .ok (.getfield 30, 3) := by decide +kernel
theorem dX5_remove_37 : decode cX5_remove 37 = .ok (.iload 4, 2) := by decide +kernel
theorem dX5_remove_39 : decode cX5_remove 39 = .ok (.iaload, 1) := by decide +kernel
theorem dX5_remove_40 : decode cX5_remove 40 = .ok (.ishl, 1) := by decide +kernel
theorem dX5_remove_41 : decode cX5_remove 41 = .ok (.iconst (-1), 1) := by decide +kernel
theorem dX5_remove_42 : decode cX5_remove 42 = .ok (.ixor, 1) := by decide +kernel
theorem dX5_remove_43 : decode cX5_remove 43 = .ok (.iand, 1) := by decide +kernel
theorem dX5_remove_44 : decode cX5_remove 44 = .ok (.iastore, 1) := by decide +kernel
theorem dX5_remove_45 : decode cX5_remove 45 = .ok (.aload_n 0, 1) := by decide +kernel
theorem dX5_remove_46 : decode cX5_remove 46 = .ok (.getfield 30, 3) := by decide +kernel
theorem dX5_remove_49 : decode cX5_remove 49 = .ok (.iload 4, 2) := by decide +kernel
theorem dX5_remove_51 : decode cX5_remove 51 = .ok (.iconst 1, 1) := by decide +kernel
theorem dX5_remove_52 : decode cX5_remove 52 = .ok (.iadd, 1) := by decide +kernel
theorem dX5_remove_53 : decode cX5_remove 53 = .ok (.aload_n 0, 1) := by decide +kernel
theorem dX5_remove_54 : decode cX5_remove 54 = .ok (.getfield 30, 3) := by decide +kernel
theorem dX5_remove_57 : decode cX5_remove 57 = .ok (.iload 4, 2) := by decide +kernel
theorem dX5_remove_59 : decode cX5_remove 59 = .ok (.iload_n 3, 1) := by decide +kernel
theorem dX5_remove_60 : decode cX5_remove 60 = .ok (.iload_n 2, 1) := by decide +kernel
theorem dX5_remove_61 : decode cX5_remove 61 = .ok (.isub, 1) := by decide +kernel
theorem dX5_remove_62 : decode cX5_remove 62 = .ok (.iconst 1, 1) := by decide +kernel
theorem dX5_remove_63 : decode cX5_remove 63 = .ok (.isub, 1) := by decide +kernel
theorem dX5_remove_64 : decode cX5_remove 64 = .ok (.invokestatic 45, 3) := by decide +kernel
theorem dX5_remove_67 : decode cX5_remove 67 = .ok (.aload_n 0, 1) := by decide +kernel
theorem dX5_remove_68 : decode cX5_remove 68 = .ok (.getfield 27, 3) := by decide +kernel
theorem dX5_remove_71 : decode cX5_remove 71 = .ok (.iload_n 1, 1) := by decide +kernel
theorem dX5_remove_72 : decode cX5_remove 72 = .ok (.iload_n 3, 1) := by decide +kernel
theorem dX5_remove_73 : decode cX5_remove 73 = .ok (.iconst 1, 1) := by decide +kernel
theorem dX5_remove_74 : decode cX5_remove 74 = .ok (.isub, 1) := by decide +kernel
theorem dX5_remove_75 : decode cX5_remove 75 = .ok (.iastore, 1) := by decide +kernel
theorem dX5_remove_76 : decode cX5_remove 76 = .ok (.return_, 1) := by decide +kernel
def tX5_remove_0 : Nat → Option am_Act := am_nd 18 (am_nd 8 (am_nd 5 (am_nd 1 (am_lf 0 (a_aload 0 1)) (am_nd 4 (am_lf 1 (a_get tT 5 6 4)) (am_lf 4 (a_iload 1 5)))) (am_nd 6 (am_lf 5 (a_iald tT 6)) (am_nd 7 (am_lf 6 (a_istore 3 7)) (am_lf 7 (a_iload 2 8))))) (am_nd 13 (am_nd 11 (am_lf 8 (a_if (fun x => x < nI 0) 16 11)) (am_nd 12 (am_lf 11 (a_iload 2 12)) (am_lf 12 (a_iload 3 13)))) (am_nd 16 (am_lf 13 (a_cmp (fun x y => x < y) 17 16)) (am_nd 17 (am_lf 16 (a_ret)) (am_lf 17 (a_iload 1 18)))))) (am_nd 26 (am_nd 22 (am_nd 20 (am_lf 18 (a_const (nI 9) 20)) (am_nd 21 (am_lf 20 (a_bin (fun x y => x * y) 21)) (am_lf 21 (a_iload 2 22)))) (am_nd 23 (am_lf 22 (a_bin (fun x y => x + y) 23)) (am_nd 25 (am_lf 23 (a_istore 4 25)) (am_lf 25 (a_aload 0 26))))) (am_nd 31 (am_nd 29 (am_lf 26 (a_get tT 5 5 29)) (am_nd 30 (am_lf 29 (a_iload 1 30)) (am_lf 30 (a_dup2 31)))) (am_nd 32 (am_lf 31 (a_iald tT 32)) (am_nd 33 (am_lf 32 (a_const (nI 1) 33)) (am_lf 33 (a_aload 0 34))))))
theorem gX5_remove_0 : am_Good tT mX5_remove tX5_remove_0 := am_nd_ok (am_nd_ok (am_nd_ok (am_nd_ok (am_lf_ok (fun _ => ok_aload_n dX5_remove_0 rfl rfl)) (am_nd_ok (am_lf_ok (fun _ => ok_get (C := RX5) (TT := TX5) (N := 8) rfl inw_X5 (Nat.le_of_ble_eq_true rfl) wd_157 dX5_remove_1 rfl)) (am_lf_ok (fun _ => ok_iload_n dX5_remove_4 rfl rfl)))) (am_nd_ok (am_lf_ok (fun _ => ok_iald dX5_remove_5 rfl)) (am_nd_ok (am_lf_ok (fun _ => ok_istore_n dX5_remove_6 rfl (Nat.le_of_ble_eq_true rfl) rfl)) (am_lf_ok (fun _ => ok_iload_n dX5_remove_7 rfl rfl))))) (am_nd_ok (am_nd_ok (am_lf_ok (fun _ => ok_if_lt dX5_remove_8 rfl rfl)) (am_nd_ok (am_lf_ok (fun _ => ok_iload_n dX5_remove_11 rfl rfl)) (am_lf_ok (fun _ => ok_iload_n dX5_remove_12 rfl rfl)))) (am_nd_ok (am_lf_ok (fun _ => ok_cmp_lt dX5_remove_13 rfl rfl)) (am_nd_ok (am_lf_ok (fun _ => ok_ret rfl dX5_remove_16)) (am_lf_ok (fun _ => ok_iload_n dX5_remove_17 rfl rfl)))))) (am_nd_ok (am_nd_ok (am_nd_ok (am_lf_ok (fun _ => ok_bipush dX5_remove_18 cv_bipush_9 rfl)) (am_nd_ok (am_lf_ok (fun _ => ok_imul dX5_remove_20 rfl)) (am_lf_ok (fun _ => ok_iload_n dX5_remove_21 rfl rfl)))) (am_nd_ok (am_lf_ok (fun _ => ok_iadd dX5_remove_22 rfl)) (am_nd_ok (am_lf_ok (fun _ => ok_istore dX5_remove_23 (Nat.le_of_ble_eq_true rfl) rfl)) (am_lf_ok (fun _ => ok_aload_n dX5_remove_25 rfl rfl))))) (am_nd_ok (am_nd_ok (am_lf_ok (fun _ => ok_get (C := RX5) (TT := TX5) (N := 8) rfl inw_X5 (Nat.le_of_ble_eq_true rfl) wd_156 dX5_remove_26 rfl)) (am_nd_ok (am_lf_ok (fun _ => ok_iload_n dX5_remove_29 rfl rfl)) (am_lf_ok (fun _ => ok_dup2 dX5_remove_30 rfl)))) (am_nd_ok (am_lf_ok (fun _ => ok_iald dX5_remove_31 rfl)) (am_nd_ok (am_lf_ok (fun _ => ok_iconst dX5_remove_32 cv_iconst_1 rfl)) (am_lf_ok (fun _ => ok_aload_n dX5_remove_33 rfl rfl))))))
def tX5_remove_1 : Nat → Option am_Act := am_nd 52 (am_nd 43 (am_nd 40 (am_nd 37 (am_lf 34 (a_get tT 5 7 37)) (am_nd 39 (am_lf 37 (a_iload 4 39)) (am_lf 39 (a_iald tT 40)))) (am_nd 41 (am_lf 40 (a_bin (fun x y => x <<< (y &&& 31)) 41)) (am_nd 42 (am_lf 41 (a_const (-1) 42)) (am_lf 42 (a_bin (fun x y => x ^^^ y) 43))))) (am_nd 46 (am_nd 44 (am_lf 43 (a_bin (fun x y => x &&& y) 44)) (am_nd 45 (am_lf 44 (a_iast tT 45)) (am_lf 45 (a_aload 0 46)))) (am_nd 49 (am_lf 46 (a_get tT 5 7 49)) (am_nd 51 (am_lf 49 (a_iload 4 51)) (am_lf 51 (a_const (nI 1) 52)))))) (am_nd 61 (am_nd 57 (am_nd 53 (am_lf 52 (a_bin (fun x y => x + y) 53)) (am_nd 54 (am_lf 53 (a_aload 0 54)) (am_lf 54 (a_get tT 5 7 57)))) (am_nd 59 (am_lf 57 (a_iload 4 59)) (am_nd 60 (am_lf 59 (a_iload 3 60)) (am_lf 60 (a_iload 2 61))))) (am_nd 64 (am_nd 62 (am_lf 61 (a_bin (fun x y => x - y) 62)) (am_nd 63 (am_lf 62 (a_const (nI 1) 63)) (am_lf 63 (a_bin (fun x y => x - y) 64)))) (am_nd 67 (am_lf 64 (a_copy tT 67)) (am_nd 68 (am_lf 67 (a_aload 0 68)) (am_lf 68 (a_get tT 5 6 71))))))
theorem gX5_remove_1 : am_Good tT mX5_remove tX5_remove_1 := am_nd_ok (am_nd_ok (am_nd_ok (am_nd_ok (am_lf_ok (fun _ => ok_get (C := RX5) (TT := TX5) (N := 8) rfl inw_X5 (Nat.le_of_ble_eq_true rfl) wd_158 dX5_remove_34 rfl)) (am_nd_ok (am_lf_ok (fun _ => ok_iload dX5_remove_37 rfl)) (am_lf_ok (fun _ => ok_iald dX5_remove_39 rfl)))) (am_nd_ok (am_lf_ok (fun _ => ok_ishl dX5_remove_40 rfl)) (am_nd_ok (am_lf_ok (fun _ => ok_iconst dX5_remove_41 cv_iconst_m1 rfl)) (am_lf_ok (fun _ => ok_ixor dX5_remove_42 rfl))))) (am_nd_ok (am_nd_ok (am_lf_ok (fun _ => ok_iand dX5_remove_43 rfl)) (am_nd_ok (am_lf_ok (fun _ => ok_iast dX5_remove_44 rfl)) (am_lf_ok (fun _ => ok_aload_n dX5_remove_45 rfl rfl)))) (am_nd_ok (am_lf_ok (fun _ => ok_get (C := RX5) (TT := TX5) (N := 8) rfl inw_X5 (Nat.le_of_ble_eq_true rfl) wd_158 dX5_remove_46 rfl)) (am_nd_ok (am_lf_ok (fun _ => ok_iload dX5_remove_49 rfl)) (am_lf_ok (fun _ => ok_iconst dX5_remove_51 cv_iconst_1 rfl)))))) (am_nd_ok (am_nd_ok (am_nd_ok (am_lf_ok (fun _ => ok_iadd dX5_remove_52 rfl)) (am_nd_ok (am_lf_ok (fun _ => ok_aload_n dX5_remove_53 rfl rfl)) (am_lf_ok (fun _ => ok_get (C := RX5) (TT := TX5) (N := 8) rfl inw_X5 (Nat.le_of_ble_eq_true rfl) wd_158 dX5_remove_54 rfl)))) (am_nd_ok (am_lf_ok (fun _ => ok_iload dX5_remove_57 rfl)) (am_nd_ok (am_lf_ok (fun _ => ok_iload_n dX5_remove_59 rfl rfl)) (am_lf_ok (fun _ => ok_iload_n dX5_remove_60 rfl rfl))))) (am_nd_ok (am_nd_ok (am_lf_ok (fun _ => ok_isub dX5_remove_61 rfl)) (am_nd_ok (am_lf_ok (fun _ => ok_iconst dX5_remove_62 cv_iconst_1 rfl)) (am_lf_ok (fun _ => ok_isub dX5_remove_63 rfl)))) (am_nd_ok (am_lf_ok (fun _ => ok_copy wd_165 wd_31 wd_32 wd_33 dX5_remove_64 rfl)) (am_nd_ok (am_lf_ok (fun _ => ok_aload_n dX5_remove_67 rfl rfl)) (am_lf_ok (fun _ => ok_get (C := RX5) (TT := TX5) (N := 8) rfl inw_X5 (Nat.le_of_ble_eq_true rfl) wd_157 dX5_remove_68 rfl))))))
def tX5_remove_2 : Nat → Option am_Act := am_nd 74 (am_nd 72 (am_lf 71 (a_iload 1 72)) (am_nd 73 (am_lf 72 (a_iload 3 73)) (am_lf 73 (a_const (nI 1) 74)))) (am_nd 75 (am_lf 74 (a_bin (fun x y => x - y) 75)) (am_nd 76 (am_lf 75 (a_iast tT 76)) (am_lf 76 (a_ret))))
theorem gX5_remove_2 : am_Good tT mX5_remove tX5_remove_2 := am_nd_ok (am_nd_ok (am_lf_ok (fun _ => ok_iload_n dX5_remove_71 rfl rfl)) (am_nd_ok (am_lf_ok (fun _ => ok_iload_n dX5_remove_72 rfl rfl)) (am_lf_ok (fun _ => ok_iconst dX5_remove_73 cv_iconst_1 rfl)))) (am_nd_ok (am_lf_ok (fun _ => ok_isub dX5_remove_74 rfl)) (am_nd_ok (am_lf_ok (fun _ => ok_iast dX5_remove_75 rfl)) (am_lf_ok (fun _ => ok_ret rfl dX5_remove_76))))
def tX5_remove : Nat → Option am_Act := am_nd 34 (tX5_remove_0) (am_nd 71 (tX5_remove_1) (tX5_remove_2))
theorem gX5_remove : am_Good tT mX5_remove tX5_remove := am_nd_ok (gX5_remove_0) (am_nd_ok (gX5_remove_1) (gX5_remove_2))
theorem dX5_othersWith_0 : decode cX5_othersWith 0 = .ok (.iconst 0, 1) := by decide +kernel
theorem dX5_othersWith_1 : decode cX5_othersWith 1 = .ok (.istore_n 3, 1) := by decide +kernel
theorem dX5_othersWith_2 : decode cX5_othersWith 2 = .ok (.iconst 0, 1) := by decide +kernel
theorem dX5_othersWith_3 : decode cX5_othersWith 3 = .ok (.istore 4, 2) := by decide +kernel
theorem dX5_othersWith_5 : decode cX5_othersWith 5 = .ok (.iload 4, 2) := by decide +kernel
theorem dX5_othersWith_7 : decode cX5_othersWith 7 = .ok (.aload_n 0, 1) := by decide +kernel
theorem dX5_othersWith_8 : decode cX5_othersWith 8 = .ok (.getfield 33, 3) := by decide +kernel
theorem dX5_othersWith_11 : decode cX5_othersWith 11 = .ok (.if_icmp .ge 28, 3) := by decide +kernel
theorem dX5_othersWith_14 : decode cX5_othersWith 14 = .ok (.iload 4, 2) := by decide +kernel
theorem dX5_othersWith_16 : decode cX5_othersWith 16 = .ok (.iload_n 1, 1) := by decide +kernel
theorem dX5_othersWith_17 : decode cX5_othersWith 17 = .ok (.if_icmp .eq 16, 3) := by decide +kernel
theorem dX5_othersWith_20 : decode cX5_othersWith 20 = .ok (.aload_n 0, 1) := by decide +kernel
theorem dX5_othersWith_21 : decode cX5_othersWith 21 = .ok (.iload 4, 2) := by decide +kernel
theorem dX5_othersWith_23 : decode cX5_othersWith 23 = .ok (.iload_n 2, 1) := by decide +kernel
theorem dX5_othersWith_24 : decode cX5_othersWith 24 = .ok (.invokevirtual 37, 3) := by decide +kernel
theorem dX5_othersWith_27 : decode cX5_othersWith 27 = .ok (.ifCond .eq 6, 3) := by decide +kernel
theorem dX5_othersWith_30 : decode cX5_othersWith 30 = .ok (.iinc 3 1, 3) := by decide +kernel
theorem dX5_othersWith_33 : decode cX5_othersWith 33 = .ok (.iinc 4 1, 3) := by decide +kernel
theorem dX5_othersWith_36 : decode cX5_othersWith 36 = .ok (.goto (-31), 3) := by decide +kernel
theorem dX5_othersWith_39 : decode cX5_othersWith 39 = .ok (.iload_n 3, 1) := by decide +kernel
theorem dX5_othersWith_40 : decode cX5_othersWith 40 = .ok (.ireturn, 1) := by decide +kernel
def tX5_othersWith_0 : Nat → Option am_Act := am_nd 17 (am_nd 7 (am_nd 2 (am_nd 1 (am_lf 0 (a_const (nI 0) 1)) (am_lf 1 (a_istore 3 2))) (am_nd 3 (am_lf 2 (a_const (nI 0) 3)) (am_nd 5 (am_lf 3 (a_istore 4 5)) (am_lf 5 (a_iload 4 7))))) (am_nd 11 (am_nd 8 (am_lf 7 (a_aload 0 8)) (am_lf 8 (a_get tT 5 0 11))) (am_nd 14 (am_lf 11 (a_cmp (fun x y => y ≤ x) 39 14)) (am_nd 16 (am_lf 14 (a_iload 4 16)) (am_lf 16 (a_iload 1 17)))))) (am_nd 27 (am_nd 21 (am_nd 20 (am_lf 17 (a_cmp (fun x y => x = y) 33 20)) (am_lf 20 (a_aload 0 21))) (am_nd 23 (am_lf 21 (a_iload 4 23)) (am_nd 24 (am_lf 23 (a_iload 2 24)) (am_lf 24 (a_cvI tT mX5_hasName 5 2 27))))) (am_nd 36 (am_nd 30 (am_lf 27 (a_if (fun x => x = nI 0) 33 30)) (am_nd 33 (am_lf 30 (a_iinc 3 (nI 1) 33)) (am_lf 33 (a_iinc 4 (nI 1) 36)))) (am_nd 39 (am_lf 36 (a_goto 5)) (am_nd 40 (am_lf 39 (a_iload 3 40)) (am_lf 40 (a_iret))))))
theorem gX5_othersWith_0 : am_Good tT mX5_othersWith tX5_othersWith_0 := am_nd_ok (am_nd_ok (am_nd_ok (am_nd_ok (am_lf_ok (fun _ => ok_iconst dX5_othersWith_0 cv_iconst_0 rfl)) (am_lf_ok (fun _ => ok_istore_n dX5_othersWith_1 rfl (Nat.le_of_ble_eq_true rfl) rfl))) (am_nd_ok (am_lf_ok (fun _ => ok_iconst dX5_othersWith_2 cv_iconst_0 rfl)) (am_nd_ok (am_lf_ok (fun _ => ok_istore dX5_othersWith_3 (Nat.le_of_ble_eq_true rfl) rfl)) (am_lf_ok (fun _ => ok_iload dX5_othersWith_5 rfl))))) (am_nd_ok (am_nd_ok (am_lf_ok (fun _ => ok_aload_n dX5_othersWith_7 rfl rfl)) (am_lf_ok (fun _ => ok_get (C := RX5) (TT := TX5) (N := 8) rfl inw_X5 (Nat.le_of_ble_eq_true rfl) wd_151 dX5_othersWith_8 rfl))) (am_nd_ok (am_lf_ok (fun _ => ok_cmp_ge dX5_othersWith_11 rfl rfl)) (am_nd_ok (am_lf_ok (fun _ => ok_iload dX5_othersWith_14 rfl)) (am_lf_ok (fun _ => ok_iload_n dX5_othersWith_16 rfl rfl)))))) (am_nd_ok (am_nd_ok (am_nd_ok (am_lf_ok (fun _ => ok_cmp_eq dX5_othersWith_17 rfl rfl)) (am_lf_ok (fun _ => ok_aload_n dX5_othersWith_20 rfl rfl))) (am_nd_ok (am_lf_ok (fun _ => ok_iload dX5_othersWith_21 rfl)) (am_nd_ok (am_lf_ok (fun _ => ok_iload_n dX5_othersWith_23 rfl rfl)) (am_lf_ok (fun _ => ok_cvI rfl mw_X5_hasName (ci := 5) rfl rfl wd_159 wd_160 wd_161 dX5_othersWith_24 rfl))))) (am_nd_ok (am_nd_ok (am_lf_ok (fun _ => ok_if_eq dX5_othersWith_27 rfl rfl)) (am_nd_ok (am_lf_ok (fun _ => ok_iinc dX5_othersWith_30 cv_iconst_1 (Nat.le_of_ble_eq_true rfl) rfl)) (am_lf_ok (fun _ => ok_iinc dX5_othersWith_33 cv_iconst_1 (Nat.le_of_ble_eq_true rfl) rfl)))) (am_nd_ok (am_lf_ok (fun _ => ok_goto dX5_othersWith_36 rfl)) (am_nd_ok (am_lf_ok (fun _ => ok_iload_n dX5_othersWith_39 rfl rfl)) (am_lf_ok (fun _ => ok_iret rfl dX5_othersWith_40))))))
def tX5_othersWith : Nat → Option am_Act := tX5_othersWith_0
theorem gX5_othersWith : am_Good tT mX5_othersWith tX5_othersWith := gX5_othersWith_0
theorem dX5_at_0 : decode cX5_at 0 = .ok (.iconst 0, 1) := by decide +kernel
theorem dX5_at_1 : decode cX5_at 1 = .ok (.istore_n 2, 1) := by decide +kernel
theorem dX5_at_2 : decode cX5_at 2 = .ok (.iconst 0, 1) := by decide +kernel
theorem dX5_at_3 : decode cX5_at 3 = .ok (.istore_n 3, 1) := by decide +kernel
theorem dX5_at_4 : decode cX5_at 4 = .ok (.iload_n 3, 1) := by decide +kernel
theorem dX5_at_5 : decode cX5_at 5 = .ok (.aload_n 0, 1) := by decide +kernel
theorem dX5_at_6 : decode cX5_at 6 = .ok (.getfield 33, 3) := by decide +kernel
theorem dX5_at_9 : decode cX5_at 9 = .ok (.if_icmp .ge 25, 3) := by decide +kernel
theorem dX5_at_12 : decode cX5_at 12 = .ok (.aload_n 0, 1) := by decide +kernel
theorem dX5_at_13 : decode cX5_at 13 = .ok (.getfield 9, 3) := by decide +kernel
theorem dX5_at_16 : decode cX5_at 16 = .ok (.iload_n 3, 1) := by decide +kernel
theorem dX5_at_17 : decode cX5_at 17 = .ok (.iaload, 1) := by decide +kernel
theorem dX5_at_18 : decode cX5_at 18 = .ok (.iload_n 1, 1) := by decide +kernel
theorem dX5_at_19 : decode cX5_at 19 = .ok (.if_icmp .ne 9, 3) := by decide +kernel
theorem dX5_at_22 : decode cX5_at 22 = .ok (.iload_n 2, 1) := by decide +kernel
theorem dX5_at_23 : decode cX5_at 23 = .ok (.iconst 1, 1) := by decide +kernel
theorem dX5_at_24 : decode cX5_at 24 = .ok (.iload_n 3, 1) := by decide +kernel
theorem dX5_at_25 : decode cX5_at 25 = .ok (.ishl, 1) := by decide +kernel
theorem dX5_at_26 : decode cX5_at 26 = .ok (.ior, 1) := by decide +kernel
theorem dX5_at_27 : decode cX5_at 27 = .ok (.istore_n 2, 1) := by decide +kernel
theorem dX5_at_28 : decode cX5_at 28 = .ok (.iinc 3 1, 3) := by decide +kernel
theorem dX5_at_31 : decode cX5_at 31 = .ok (.goto (-27), 3) := by decide +kernel
theorem dX5_at_34 : decode cX5_at 34 = .ok (.iload_n 2, 1) := by decide +kernel
theorem dX5_at_35 : decode cX5_at 35 = .ok (.ireturn, 1) := by decide +kernel
def tX5_at_0 : Nat → Option am_Act := am_nd 18 (am_nd 6 (am_nd 3 (am_nd 1 (am_lf 0 (a_const (nI 0) 1)) (am_nd 2 (am_lf 1 (a_istore 2 2)) (am_lf 2 (a_const (nI 0) 3)))) (am_nd 4 (am_lf 3 (a_istore 3 4)) (am_nd 5 (am_lf 4 (a_iload 3 5)) (am_lf 5 (a_aload 0 6))))) (am_nd 13 (am_nd 9 (am_lf 6 (a_get tT 5 0 9)) (am_nd 12 (am_lf 9 (a_cmp (fun x y => y ≤ x) 34 12)) (am_lf 12 (a_aload 0 13)))) (am_nd 16 (am_lf 13 (a_get tT 5 1 16)) (am_nd 17 (am_lf 16 (a_iload 3 17)) (am_lf 17 (a_iald tT 18)))))) (am_nd 26 (am_nd 23 (am_nd 19 (am_lf 18 (a_iload 1 19)) (am_nd 22 (am_lf 19 (a_cmp (fun x y => x = y) 22 28)) (am_lf 22 (a_iload 2 23)))) (am_nd 24 (am_lf 23 (a_const (nI 1) 24)) (am_nd 25 (am_lf 24 (a_iload 3 25)) (am_lf 25 (a_bin (fun x y => x <<< (y &&& 31)) 26))))) (am_nd 31 (am_nd 27 (am_lf 26 (a_bin (fun x y => x ||| y) 27)) (am_nd 28 (am_lf 27 (a_istore 2 28)) (am_lf 28 (a_iinc 3 (nI 1) 31)))) (am_nd 34 (am_lf 31 (a_goto 4)) (am_nd 35 (am_lf 34 (a_iload 2 35)) (am_lf 35 (a_iret))))))
theorem gX5_at_0 : am_Good tT mX5_at tX5_at_0 := am_nd_ok (am_nd_ok (am_nd_ok (am_nd_ok (am_lf_ok (fun _ => ok_iconst dX5_at_0 cv_iconst_0 rfl)) (am_nd_ok (am_lf_ok (fun _ => ok_istore_n dX5_at_1 rfl (Nat.le_of_ble_eq_true rfl) rfl)) (am_lf_ok (fun _ => ok_iconst dX5_at_2 cv_iconst_0 rfl)))) (am_nd_ok (am_lf_ok (fun _ => ok_istore_n dX5_at_3 rfl (Nat.le_of_ble_eq_true rfl) rfl)) (am_nd_ok (am_lf_ok (fun _ => ok_iload_n dX5_at_4 rfl rfl)) (am_lf_ok (fun _ => ok_aload_n dX5_at_5 rfl rfl))))) (am_nd_ok (am_nd_ok (am_lf_ok (fun _ => ok_get (C := RX5) (TT := TX5) (N := 8) rfl inw_X5 (Nat.le_of_ble_eq_true rfl) wd_151 dX5_at_6 rfl)) (am_nd_ok (am_lf_ok (fun _ => ok_cmp_ge dX5_at_9 rfl rfl)) (am_lf_ok (fun _ => ok_aload_n dX5_at_12 rfl rfl)))) (am_nd_ok (am_lf_ok (fun _ => ok_get (C := RX5) (TT := TX5) (N := 8) rfl inw_X5 (Nat.le_of_ble_eq_true rfl) wd_152 dX5_at_13 rfl)) (am_nd_ok (am_lf_ok (fun _ => ok_iload_n dX5_at_16 rfl rfl)) (am_lf_ok (fun _ => ok_iald dX5_at_17 rfl)))))) (am_nd_ok (am_nd_ok (am_nd_ok (am_lf_ok (fun _ => ok_iload_n dX5_at_18 rfl rfl)) (am_nd_ok (am_lf_ok (fun _ => ok_cmp_ne dX5_at_19 rfl rfl)) (am_lf_ok (fun _ => ok_iload_n dX5_at_22 rfl rfl)))) (am_nd_ok (am_lf_ok (fun _ => ok_iconst dX5_at_23 cv_iconst_1 rfl)) (am_nd_ok (am_lf_ok (fun _ => ok_iload_n dX5_at_24 rfl rfl)) (am_lf_ok (fun _ => ok_ishl dX5_at_25 rfl))))) (am_nd_ok (am_nd_ok (am_lf_ok (fun _ => ok_ior dX5_at_26 rfl)) (am_nd_ok (am_lf_ok (fun _ => ok_istore_n dX5_at_27 rfl (Nat.le_of_ble_eq_true rfl) rfl)) (am_lf_ok (fun _ => ok_iinc dX5_at_28 cv_iconst_1 (Nat.le_of_ble_eq_true rfl) rfl)))) (am_nd_ok (am_lf_ok (fun _ => ok_goto dX5_at_31 rfl)) (am_nd_ok (am_lf_ok (fun _ => ok_iload_n dX5_at_34 rfl rfl)) (am_lf_ok (fun _ => ok_iret rfl dX5_at_35))))))
def tX5_at : Nat → Option am_Act := tX5_at_0
theorem gX5_at : am_Good tT mX5_at tX5_at := gX5_at_0
theorem dX5_aloneAmong_0 : decode cX5_aloneAmong 0 = .ok (.iconst 0, 1) := by decide +kernel
theorem dX5_aloneAmong_1 : decode cX5_aloneAmong 1 = .ok (.istore_n 2, 1) := by decide +kernel
theorem dX5_aloneAmong_2 : decode cX5_aloneAmong 2 = .ok (.iconst 0, 1) := by decide +kernel
theorem dX5_aloneAmong_3 : decode cX5_aloneAmong 3 = .ok (.istore_n 3, 1) := by decide +kernel
theorem dX5_aloneAmong_4 : decode cX5_aloneAmong 4 = .ok (.iconst 0, 1) := by decide +kernel
theorem dX5_aloneAmong_5 : decode cX5_aloneAmong 5 = .ok (.istore 4, 2) := by decide +kernel
theorem dX5_aloneAmong_7 : decode cX5_aloneAmong 7 = .ok (.iload 4, 2) := by decide +kernel
theorem dX5_aloneAmong_9 : decode cX5_aloneAmong 9 = .ok (.aload_n 0, 1) := by decide +kernel
theorem dX5_aloneAmong_10 : decode cX5_aloneAmong 10 = .ok (.getfield 33, 3) := by decide +kernel
theorem dX5_aloneAmong_13 : decode cX5_aloneAmong 13 = .ok (.if_icmp .ge 40, 3) := by decide +kernel
theorem dX5_aloneAmong_16 : decode cX5_aloneAmong 16 = .ok (.iload_n 1, 1) := by decide +kernel
theorem dX5_aloneAmong_17 : decode cX5_aloneAmong 17 = .ok (.iload 4, 2) := by decide +kernel
theorem dX5_aloneAmong_19 : decode cX5_aloneAmong 19 = .ok (.ishr, 1) := by decide +kernel
theorem dX5_aloneAmong_20 : decode cX5_aloneAmong 20 = .ok (.iconst 1, 1) := by decide +kernel
theorem dX5_aloneAmong_21 : decode cX5_aloneAmong 21 = .ok (.iand, 1) := by decide +kernel
theorem dX5_aloneAmong_22 : decode cX5_aloneAmong 22 = .ok (.ifCond .eq 25, 3) := by decide +kernel
theorem dX5_aloneAmong_25 : decode cX5_aloneAmong 25 = .ok (.iload_n 3, 1) := by decide +kernel
theorem dX5_aloneAmong_26 : decode cX5_aloneAmong 26 = .ok (.iload_n 2, 1) := by decide +kernel
theorem dX5_aloneAmong_27 : decode cX5_aloneAmong 27 = .ok (.aload_n 0, 1) := by decide +kernel
theorem dX5_aloneAmong_28 : decode cX5_aloneAmong 28 = .ok (.getfield 24, 3) := by decide +kernel
theorem dX5_aloneAmong_31 : decode cX5_aloneAmong 31 = .ok (.iload 4, 2) := by decide +kernel
theorem dX5_aloneAmong_33 : decode cX5_aloneAmong 33 = .ok (.iaload, 1) := by decide +kernel
theorem dX5_aloneAmong_34 : decode cX5_aloneAmong 34 = .ok (.iand, 1) := by decide +kernel
theorem dX5_aloneAmong_35 : decode cX5_aloneAmong 35 = .ok (.ior, 1) := by decide +kernel
theorem dX5_aloneAmong_36 : decode cX5_aloneAmong 36 = .ok (.istore_n 3, 1) := by decide +kernel
theorem dX5_aloneAmong_37 : decode cX5_aloneAmong 37 = .ok (.iload_n 2, 1) := by decide +kernel
theorem dX5_aloneAmong_38 : decode cX5_aloneAmong 38 = .ok (.aload_n 0, 1) := by decide +kernel
theorem dX5_aloneAmong_39 : decode cX5_aloneAmong 39 = .ok (.getfield 24, 3) := by decide +kernel
theorem dX5_aloneAmong_42 : decode cX5_aloneAmong 42 = .ok (.iload 4, 2) := by decide +kernel
theorem dX5_aloneAmong_44 : decode cX5_aloneAmong 44 = .ok (.iaload, 1) := by decide +kernel
theorem dX5_aloneAmong_45 : decode cX5_aloneAmong 45 = .ok (.ior, 1) := by decide +kernel
theorem dX5_aloneAmong_46 : decode cX5_aloneAmong 46 = .ok (.istore_n 2, 1) := by decide +kernel
theorem dX5_aloneAmong_47 : decode cX5_aloneAmong 47 = .ok (.iinc 4 1, 3) := by decide +kernel
theorem dX5_aloneAmong_50 : decode cX5_aloneAmong 50 = .ok (.goto (-43), 3) := by decide +kernel
theorem dX5_aloneAmong_53 : decode cX5_aloneAmong 53 = .ok (.iconst 0, 1) := by decide +kernel
theorem dX5_aloneAmong_54 : decode cX5_aloneAmong 54 = .ok (.istore 4, 2) := by decide +kernel
theorem dX5_aloneAmong_56 : decode cX5_aloneAmong 56 = .ok (.iconst 0, 1) := by decide +kernel
theorem dX5_aloneAmong_57 : decode cX5_aloneAmong 57 = .ok (.istore 5, 2) := by decide +kernel
theorem dX5_aloneAmong_59 : decode cX5_aloneAmong 59 = .ok (.iload 5, 2) := by decide +kernel
theorem dX5_aloneAmong_61 : decode cX5_aloneAmong 61 = .ok (.aload_n 0, 1) := by decide +kernel
theorem dX5_aloneAmong_62 : decode cX5_aloneAmong 62 = .ok (.getfield 33, 3) := by decide +kernel
theorem dX5_aloneAmong_65 : decode cX5_aloneAmong 65 = .ok (.if_icmp .ge 41, 3) := by decide +kernel
theorem dX5_aloneAmong_68 : decode cX5_aloneAmong 68 = .ok (.iload_n 1, 1) := by decide +kernel
theorem dX5_aloneAmong_69 : decode cX5_aloneAmong 69 = .ok (.iload 5, 2) := by decide +kernel
theorem dX5_aloneAmong_71 : decode cX5_aloneAmong 71 = .ok (.ishr, 1) := by decide +kernel
theorem dX5_aloneAmong_72 : decode cX5_aloneAmong 72 = .ok (.iconst 1, 1) := by decide +kernel
theorem dX5_aloneAmong_73 : decode cX5_aloneAmong 73 = .ok (.iand, 1) := by decide +kernel
theorem dX5_aloneAmong_74 : decode cX5_aloneAmong 74 = .ok (.ifCond .eq 26, 3) := by decide +kernel
theorem dX5_aloneAmong_77 : decode cX5_aloneAmong 77 = .ok (.aload_n 0, 1) := by decide +kernel
theorem dX5_aloneAmong_78 : decode cX5_aloneAmong 78 = .ok (.getfield 24, 3) := by decide +kernel
theorem dX5_aloneAmong_81 : decode cX5_aloneAmong 81 = .ok (.iload 5, 2) := by decide +kernel
theorem dX5_aloneAmong_83 : decode cX5_aloneAmong 83 = .ok (.iaload, 1) := by decide +kernel
theorem dX5_aloneAmong_84 : decode cX5_aloneAmong 84 = .ok (.iload_n 3, 1) := by decide +kernel
theorem dX5_aloneAmong_85 : decode cX5_aloneAmong 85 = .ok (.iconst (-1), 1) := by decide +kernel
theorem dX5_aloneAmong_86 : decode cX5_aloneAmong 86 = .ok (.ixor, 1) := by decide +kernel
theorem dX5_aloneAmong_87 : decode cX5_aloneAmong 87 = .ok (.iand, 1) := by decide +kernel
theorem dX5_aloneAmong_88 : decode cX5_aloneAmong 88 = .ok (.ifCond .eq 12, 3) := by decide +kernel
theorem dX5_aloneAmong_91 : decode cX5_aloneAmong 91 = .ok (.iload 4, 2) := by decide +kernel
theorem dX5_aloneAmong_93 : decode cX5_aloneAmong 93 = .ok (.iconst 1, 1) := by decide +kernel
theorem dX5_aloneAmong_94 : decode cX5_aloneAmong 94 = .ok (.iload 5, 2) := by decide +kernel
theorem dX5_aloneAmong_96 : decode cX5_aloneAmong 96 = .ok (.ishl, 1) := by decide +kernel
theorem dX5_aloneAmong_97 : decode cX5_aloneAmong 97 = .ok (.ior, 1) := by decide +kernel
theorem dX5_aloneAmong_98 : decode cX5_aloneAmong 98 = .ok (.istore 4, 2) := by decide +kernel
theorem dX5_aloneAmong_100 : decode cX5_aloneAmong 100 = .ok (.iinc 5 1, 3) := by decide +kernel
theorem dX5_aloneAmong_103 : decode cX5_aloneAmong 103 = .ok (.goto (-44), 3) := by decide +kernel
theorem dX5_aloneAmong_106 : decode cX5_aloneAmong 106 = .ok (.iload 4, 2) := by decide +kernel
theorem dX5_aloneAmong_108 : decode cX5_aloneAmong 108 = .ok (.ireturn, 1) := by decide +kernel
def tX5_aloneAmong_0 : Nat → Option am_Act := am_nd 19 (am_nd 7 (am_nd 3 (am_nd 1 (am_lf 0 (a_const (nI 0) 1)) (am_nd 2 (am_lf 1 (a_istore 2 2)) (am_lf 2 (a_const (nI 0) 3)))) (am_nd 4 (am_lf 3 (a_istore 3 4)) (am_nd 5 (am_lf 4 (a_const (nI 0) 5)) (am_lf 5 (a_istore 4 7))))) (am_nd 13 (am_nd 9 (am_lf 7 (a_iload 4 9)) (am_nd 10 (am_lf 9 (a_aload 0 10)) (am_lf 10 (a_get tT 5 0 13)))) (am_nd 16 (am_lf 13 (a_cmp (fun x y => y ≤ x) 53 16)) (am_nd 17 (am_lf 16 (a_iload 1 17)) (am_lf 17 (a_iload 4 19)))))) (am_nd 27 (am_nd 22 (am_nd 20 (am_lf 19 (a_bin (fun x y => x >>> (y &&& 31)) 20)) (am_nd 21 (am_lf 20 (a_const (nI 1) 21)) (am_lf 21 (a_bin (fun x y => x &&& y) 22)))) (am_nd 25 (am_lf 22 (a_if (fun x => x = nI 0) 47 25)) (am_nd 26 (am_lf 25 (a_iload 3 26)) (am_lf 26 (a_iload 2 27))))) (am_nd 33 (am_nd 28 (am_lf 27 (a_aload 0 28)) (am_nd 31 (am_lf 28 (a_get tT 5 5 31)) (am_lf 31 (a_iload 4 33)))) (am_nd 34 (am_lf 33 (a_iald tT 34)) (am_nd 35 (am_lf 34 (a_bin (fun x y => x &&& y) 35)) (am_lf 35 (a_bin (fun x y => x ||| y) 36))))))
theorem gX5_aloneAmong_0 : am_Good tT mX5_aloneAmong tX5_aloneAmong_0 := am_nd_ok (am_nd_ok (am_nd_ok (am_nd_ok (am_lf_ok (fun _ => ok_iconst dX5_aloneAmong_0 cv_iconst_0 rfl)) (am_nd_ok (am_lf_ok (fun _ => ok_istore_n dX5_aloneAmong_1 rfl (Nat.le_of_ble_eq_true rfl) rfl)) (am_lf_ok (fun _ => ok_iconst dX5_aloneAmong_2 cv_iconst_0 rfl)))) (am_nd_ok (am_lf_ok (fun _ => ok_istore_n dX5_aloneAmong_3 rfl (Nat.le_of_ble_eq_true rfl) rfl)) (am_nd_ok (am_lf_ok (fun _ => ok_iconst dX5_aloneAmong_4 cv_iconst_0 rfl)) (am_lf_ok (fun _ => ok_istore dX5_aloneAmong_5 (Nat.le_of_ble_eq_true rfl) rfl))))) (am_nd_ok (am_nd_ok (am_lf_ok (fun _ => ok_iload dX5_aloneAmong_7 rfl)) (am_nd_ok (am_lf_ok (fun _ => ok_aload_n dX5_aloneAmong_9 rfl rfl)) (am_lf_ok (fun _ => ok_get (C := RX5) (TT := TX5) (N := 8) rfl inw_X5 (Nat.le_of_ble_eq_true rfl) wd_151 dX5_aloneAmong_10 rfl)))) (am_nd_ok (am_lf_ok (fun _ => ok_cmp_ge dX5_aloneAmong_13 rfl rfl)) (am_nd_ok (am_lf_ok (fun _ => ok_iload_n dX5_aloneAmong_16 rfl rfl)) (am_lf_ok (fun _ => ok_iload dX5_aloneAmong_17 rfl)))))) (am_nd_ok (am_nd_ok (am_nd_ok (am_lf_ok (fun _ => ok_ishr dX5_aloneAmong_19 rfl)) (am_nd_ok (am_lf_ok (fun _ => ok_iconst dX5_aloneAmong_20 cv_iconst_1 rfl)) (am_lf_ok (fun _ => ok_iand dX5_aloneAmong_21 rfl)))) (am_nd_ok (am_lf_ok (fun _ => ok_if_eq dX5_aloneAmong_22 rfl rfl)) (am_nd_ok (am_lf_ok (fun _ => ok_iload_n dX5_aloneAmong_25 rfl rfl)) (am_lf_ok (fun _ => ok_iload_n dX5_aloneAmong_26 rfl rfl))))) (am_nd_ok (am_nd_ok (am_lf_ok (fun _ => ok_aload_n dX5_aloneAmong_27 rfl rfl)) (am_nd_ok (am_lf_ok (fun _ => ok_get (C := RX5) (TT := TX5) (N := 8) rfl inw_X5 (Nat.le_of_ble_eq_true rfl) wd_156 dX5_aloneAmong_28 rfl)) (am_lf_ok (fun _ => ok_iload dX5_aloneAmong_31 rfl)))) (am_nd_ok (am_lf_ok (fun _ => ok_iald dX5_aloneAmong_33 rfl)) (am_nd_ok (am_lf_ok (fun _ => ok_iand dX5_aloneAmong_34 rfl)) (am_lf_ok (fun _ => ok_ior dX5_aloneAmong_35 rfl))))))
def tX5_aloneAmong_1 : Nat → Option am_Act := am_nd 56 (am_nd 45 (am_nd 39 (am_nd 37 (am_lf 36 (a_istore 3 37)) (am_nd 38 (am_lf 37 (a_iload 2 38)) (am_lf 38 (a_aload 0 39)))) (am_nd 42 (am_lf 39 (a_get tT 5 5 42)) (am_nd 44 (am_lf 42 (a_iload 4 44)) (am_lf 44 (a_iald tT 45))))) (am_nd 50 (am_nd 46 (am_lf 45 (a_bin (fun x y => x ||| y) 46)) (am_nd 47 (am_lf 46 (a_istore 2 47)) (am_lf 47 (a_iinc 4 (nI 1) 50)))) (am_nd 53 (am_lf 50 (a_goto 7)) (am_nd 54 (am_lf 53 (a_const (nI 0) 54)) (am_lf 54 (a_istore 4 56)))))) (am_nd 68 (am_nd 61 (am_nd 57 (am_lf 56 (a_const (nI 0) 57)) (am_nd 59 (am_lf 57 (a_istore 5 59)) (am_lf 59 (a_iload 5 61)))) (am_nd 62 (am_lf 61 (a_aload 0 62)) (am_nd 65 (am_lf 62 (a_get tT 5 0 65)) (am_lf 65 (a_cmp (fun x y => y ≤ x) 106 68))))) (am_nd 72 (am_nd 69 (am_lf 68 (a_iload 1 69)) (am_nd 71 (am_lf 69 (a_iload 5 71)) (am_lf 71 (a_bin (fun x y => x >>> (y &&& 31)) 72)))) (am_nd 73 (am_lf 72 (a_const (nI 1) 73)) (am_nd 74 (am_lf 73 (a_bin (fun x y => x &&& y) 74)) (am_lf 74 (a_if (fun x => x = nI 0) 100 77))))))
theorem gX5_aloneAmong_1 : am_Good tT mX5_aloneAmong tX5_aloneAmong_1 := am_nd_ok (am_nd_ok (am_nd_ok (am_nd_ok (am_lf_ok (fun _ => ok_istore_n dX5_aloneAmong_36 rfl (Nat.le_of_ble_eq_true rfl) rfl)) (am_nd_ok (am_lf_ok (fun _ => ok_iload_n dX5_aloneAmong_37 rfl rfl)) (am_lf_ok (fun _ => ok_aload_n dX5_aloneAmong_38 rfl rfl)))) (am_nd_ok (am_lf_ok (fun _ => ok_get (C := RX5) (TT := TX5) (N := 8) rfl inw_X5 (Nat.le_of_ble_eq_true rfl) wd_156 dX5_aloneAmong_39 rfl)) (am_nd_ok (am_lf_ok (fun _ => ok_iload dX5_aloneAmong_42 rfl)) (am_lf_ok (fun _ => ok_iald dX5_aloneAmong_44 rfl))))) (am_nd_ok (am_nd_ok (am_lf_ok (fun _ => ok_ior dX5_aloneAmong_45 rfl)) (am_nd_ok (am_lf_ok (fun _ => ok_istore_n dX5_aloneAmong_46 rfl (Nat.le_of_ble_eq_true rfl) rfl)) (am_lf_ok (fun _ => ok_iinc dX5_aloneAmong_47 cv_iconst_1 (Nat.le_of_ble_eq_true rfl) rfl)))) (am_nd_ok (am_lf_ok (fun _ => ok_goto dX5_aloneAmong_50 rfl)) (am_nd_ok (am_lf_ok (fun _ => ok_iconst dX5_aloneAmong_53 cv_iconst_0 rfl)) (am_lf_ok (fun _ => ok_istore dX5_aloneAmong_54 (Nat.le_of_ble_eq_true rfl) rfl)))))) (am_nd_ok (am_nd_ok (am_nd_ok (am_lf_ok (fun _ => ok_iconst dX5_aloneAmong_56 cv_iconst_0 rfl)) (am_nd_ok (am_lf_ok (fun _ => ok_istore dX5_aloneAmong_57 (Nat.le_of_ble_eq_true rfl) rfl)) (am_lf_ok (fun _ => ok_iload dX5_aloneAmong_59 rfl)))) (am_nd_ok (am_lf_ok (fun _ => ok_aload_n dX5_aloneAmong_61 rfl rfl)) (am_nd_ok (am_lf_ok (fun _ => ok_get (C := RX5) (TT := TX5) (N := 8) rfl inw_X5 (Nat.le_of_ble_eq_true rfl) wd_151 dX5_aloneAmong_62 rfl)) (am_lf_ok (fun _ => ok_cmp_ge dX5_aloneAmong_65 rfl rfl))))) (am_nd_ok (am_nd_ok (am_lf_ok (fun _ => ok_iload_n dX5_aloneAmong_68 rfl rfl)) (am_nd_ok (am_lf_ok (fun _ => ok_iload dX5_aloneAmong_69 rfl)) (am_lf_ok (fun _ => ok_ishr dX5_aloneAmong_71 rfl)))) (am_nd_ok (am_lf_ok (fun _ => ok_iconst dX5_aloneAmong_72 cv_iconst_1 rfl)) (am_nd_ok (am_lf_ok (fun _ => ok_iand dX5_aloneAmong_73 rfl)) (am_lf_ok (fun _ => ok_if_eq dX5_aloneAmong_74 rfl rfl))))))
def tX5_aloneAmong_2 : Nat → Option am_Act := am_nd 91 (am_nd 84 (am_nd 81 (am_nd 78 (am_lf 77 (a_aload 0 78)) (am_lf 78 (a_get tT 5 5 81))) (am_nd 83 (am_lf 81 (a_iload 5 83)) (am_lf 83 (a_iald tT 84)))) (am_nd 86 (am_nd 85 (am_lf 84 (a_iload 3 85)) (am_lf 85 (a_const (-1) 86))) (am_nd 87 (am_lf 86 (a_bin (fun x y => x ^^^ y) 87)) (am_nd 88 (am_lf 87 (a_bin (fun x y => x &&& y) 88)) (am_lf 88 (a_if (fun x => x = nI 0) 100 91)))))) (am_nd 98 (am_nd 94 (am_nd 93 (am_lf 91 (a_iload 4 93)) (am_lf 93 (a_const (nI 1) 94))) (am_nd 96 (am_lf 94 (a_iload 5 96)) (am_nd 97 (am_lf 96 (a_bin (fun x y => x <<< (y &&& 31)) 97)) (am_lf 97 (a_bin (fun x y => x ||| y) 98))))) (am_nd 103 (am_nd 100 (am_lf 98 (a_istore 4 100)) (am_lf 100 (a_iinc 5 (nI 1) 103))) (am_nd 106 (am_lf 103 (a_goto 59)) (am_nd 108 (am_lf 106 (a_iload 4 108)) (am_lf 108 (a_iret))))))
theorem gX5_aloneAmong_2 : am_Good tT mX5_aloneAmong tX5_aloneAmong_2 := am_nd_ok (am_nd_ok (am_nd_ok (am_nd_ok (am_lf_ok (fun _ => ok_aload_n dX5_aloneAmong_77 rfl rfl)) (am_lf_ok (fun _ => ok_get (C := RX5) (TT := TX5) (N := 8) rfl inw_X5 (Nat.le_of_ble_eq_true rfl) wd_156 dX5_aloneAmong_78 rfl))) (am_nd_ok (am_lf_ok (fun _ => ok_iload dX5_aloneAmong_81 rfl)) (am_lf_ok (fun _ => ok_iald dX5_aloneAmong_83 rfl)))) (am_nd_ok (am_nd_ok (am_lf_ok (fun _ => ok_iload_n dX5_aloneAmong_84 rfl rfl)) (am_lf_ok (fun _ => ok_iconst dX5_aloneAmong_85 cv_iconst_m1 rfl))) (am_nd_ok (am_lf_ok (fun _ => ok_ixor dX5_aloneAmong_86 rfl)) (am_nd_ok (am_lf_ok (fun _ => ok_iand dX5_aloneAmong_87 rfl)) (am_lf_ok (fun _ => ok_if_eq dX5_aloneAmong_88 rfl rfl)))))) (am_nd_ok (am_nd_ok (am_nd_ok (am_lf_ok (fun _ => ok_iload dX5_aloneAmong_91 rfl)) (am_lf_ok (fun _ => ok_iconst dX5_aloneAmong_93 cv_iconst_1 rfl))) (am_nd_ok (am_lf_ok (fun _ => ok_iload dX5_aloneAmong_94 rfl)) (am_nd_ok (am_lf_ok (fun _ => ok_ishl dX5_aloneAmong_96 rfl)) (am_lf_ok (fun _ => ok_ior dX5_aloneAmong_97 rfl))))) (am_nd_ok (am_nd_ok (am_lf_ok (fun _ => ok_istore dX5_aloneAmong_98 (Nat.le_of_ble_eq_true rfl) rfl)) (am_lf_ok (fun _ => ok_iinc dX5_aloneAmong_100 cv_iconst_1 (Nat.le_of_ble_eq_true rfl) rfl))) (am_nd_ok (am_lf_ok (fun _ => ok_goto dX5_aloneAmong_103 rfl)) (am_nd_ok (am_lf_ok (fun _ => ok_iload dX5_aloneAmong_106 rfl)) (am_lf_ok (fun _ => ok_iret rfl dX5_aloneAmong_108))))))
def tX5_aloneAmong : Nat → Option am_Act := am_nd 36 (tX5_aloneAmong_0) (am_nd 77 (tX5_aloneAmong_1) (tX5_aloneAmong_2))
theorem gX5_aloneAmong : am_Good tT mX5_aloneAmong tX5_aloneAmong := am_nd_ok (gX5_aloneAmong_0) (am_nd_ok (gX5_aloneAmong_1) (gX5_aloneAmong_2))
theorem dX5_cousinsOf_0 : decode cX5_cousinsOf 0 = .ok (.iconst 1, 1) := by decide +kernel
theorem dX5_cousinsOf_1 : decode cX5_cousinsOf 1 = .ok (.iload_n 1, 1) := by decide +kernel
theorem dX5_cousinsOf_2 : decode cX5_cousinsOf 2 = .ok (.ishl, 1) := by decide +kernel
theorem dX5_cousinsOf_3 : decode cX5_cousinsOf 3 = .ok (.istore_n 2, 1) := by decide +kernel
theorem dX5_cousinsOf_4 : decode cX5_cousinsOf 4 = .ok (.aload_n 0, 1) := by decide +kernel
theorem dX5_cousinsOf_5 : decode cX5_cousinsOf 5 = .ok (.getfield 21, 3) := by decide +kernel
theorem dX5_cousinsOf_8 : decode cX5_cousinsOf 8 = .ok (.iload_n 1, 1) := by decide +kernel
theorem dX5_cousinsOf_9 : decode cX5_cousinsOf 9 = .ok (.iaload, 1) := by decide +kernel
theorem dX5_cousinsOf_10 : decode cX5_cousinsOf 10 = .ok (.istore_n 3, 1) := by decide +kernel
theorem dX5_cousinsOf_11 : decode cX5_cousinsOf 11 = .ok (.iconst 0, 1) := by decide +kernel
theorem dX5_cousinsOf_12 : decode cX5_cousinsOf 12 = .ok (.istore 4, 2) := by decide +kernel
theorem dX5_cousinsOf_14 : decode cX5_cousinsOf 14 = .ok (.iload 4, 2) := by decide +kernel
theorem dX5_cousinsOf_16 : decode cX5_cousinsOf 16 = .ok (.aload_n 0, 1) := by decide +kernel
theorem dX5_cousinsOf_17 : decode cX5_cousinsOf 17 = .ok (.getfield 33, 3) := by decide +kernel
theorem dX5_cousinsOf_20 : decode cX5_cousinsOf 20 = .ok (.if_icmp .ge 56, 3) := by decide +kernel
theorem dX5_cousinsOf_23 : decode cX5_cousinsOf 23 = .ok (.iconst 0, 1) := by decide +kernel
theorem dX5_cousinsOf_24 : decode cX5_cousinsOf 24 = .ok (.istore 5, 2) := by decide +kernel
theorem dX5_cousinsOf_26 : decode cX5_cousinsOf 26 = .ok (.iload 5, 2) := by decide +kernel
theorem dX5_cousinsOf_28 : decode cX5_cousinsOf 28 = .ok (.aload_n 0, 1) := by decide +kernel
theorem dX5_cousinsOf_29 : decode cX5_cousinsOf 29 = .ok (.getfield 33, 3) := by decide +kernel
theorem dX5_cousinsOf_32 : decode cX5_cousinsOf 32 = .ok (.if_icmp .ge 38, 3) := by decide +kernel
theorem dX5_cousinsOf_35 : decode cX5_cousinsOf 35 = .ok (.aload_n 0, 1) := by decide +kernel
theorem dX5_cousinsOf_36 : decode cX5_cousinsOf 36 = .ok (.getfield 21, 3) := by decide +kernel
theorem dX5_cousinsOf_39 : decode cX5_cousinsOf 39 = .ok (.iload 5, 2) := by decide +kernel
theorem dX5_cousinsOf_41 : decode cX5_cousinsOf 41 = .ok (.iaload, 1) := by decide +kernel
theorem dX5_cousinsOf_42 : decode cX5_cousinsOf 42 = .ok (.iload_n 3, 1) := by decide +kernel
theorem dX5_cousinsOf_43 : decode cX5_cousinsOf 43 = .ok (.iand, 1) := by decide +kernel
theorem dX5_cousinsOf_44 : decode cX5_cousinsOf 44 = .ok (.ifCond .eq 20, 3) := by decide +kernel
theorem dX5_cousinsOf_47 : decode cX5_cousinsOf 47 = .ok (.iload_n 2, 1) := by decide +kernel
theorem dX5_cousinsOf_48 : decode cX5_cousinsOf 48 = .ok (.iconst 1, 1) := by decide +kernel
theorem dX5_cousinsOf_49 : decode cX5_cousinsOf 49 = .ok (.iload 5, 2) := by decide +kernel
theorem dX5_cousinsOf_51 : decode cX5_cousinsOf 51 = .ok (.ishl, 1) := by decide +kernel
theorem dX5_cousinsOf_52 : decode cX5_cousinsOf 52 = .ok (.ior, 1) := by decide +kernel
theorem dX5_cousinsOf_53 : decode cX5_cousinsOf 53 = .ok (.istore_n 2, 1) := by decide +kernel
theorem dX5_cousinsOf_54 : decode cX5_cousinsOf 54 = .ok (.iload_n 3, 1) := by decide +kernel
theorem dX5_cousinsOf_55 : decode cX5_cousinsOf 55 = .ok (.aload_n 0, 1) := by decide +kernel
theorem dX5_cousinsOf_56 : decode cX5_cousinsOf 56 = .ok (.getfield 21, 3) := by decide +kernel
theorem dX5_cousinsOf_59 : decode cX5_cousinsOf 59 = .ok (.iload 5, 2) := by decide +kernel
theorem dX5_cousinsOf_61 : decode cX5_cousinsOf 61 = .ok (.iaload, 1) := by decide +kernel
theorem dX5_cousinsOf_62 : decode cX5_cousinsOf 62 = .ok (.ior, 1) := by decide +kernel
theorem dX5_cousinsOf_63 : decode cX5_cousinsOf 63 = .ok (.istore_n 3, 1) := by decide +kernel
theorem dX5_cousinsOf_64 : decode cX5_cousinsOf 64 = .ok (.iinc 5 1, 3) := by decide +kernel
theorem dX5_cousinsOf_67 : decode cX5_cousinsOf 67 = .ok (.goto (-41), 3) := by decide +kernel
theorem dX5_cousinsOf_70 : decode cX5_cousinsOf 70 = .ok (.iinc 4 1, 3) := by decide +kernel
theorem dX5_cousinsOf_73 : decode cX5_cousinsOf 73 = .ok (.goto (-59), 3) := by decide +kernel
theorem dX5_cousinsOf_76 : decode cX5_cousinsOf 76 = .ok (.iload_n 2, 1) := by decide +kernel
theorem dX5_cousinsOf_77 : decode cX5_cousinsOf 77 = .ok (.iconst 1, 1) := by decide +kernel
theorem dX5_cousinsOf_78 : decode cX5_cousinsOf 78 = .ok (.iload_n 1, 1) := by decide +kernel
theorem dX5_cousinsOf_79 : decode cX5_cousinsOf 79 = .ok (.ishl, 1) := by decide +kernel
theorem dX5_cousinsOf_80 : decode cX5_cousinsOf 80 = .ok (.iconst (-1), 1) := by decide +kernel
theorem dX5_cousinsOf_81 : decode cX5_cousinsOf 81 = .ok (.ixor, 1) := by decide +kernel
theorem dX5_cousinsOf_82 : decode cX5_cousinsOf 82 = .ok (.iand, 1) := by decide +kernel
theorem dX5_cousinsOf_83 : decode cX5_cousinsOf 83 = .ok (.ireturn, 1) := by decide +kernel
def tX5_cousinsOf_0 : Nat → Option am_Act := am_nd 16 (am_nd 8 (am_nd 3 (am_nd 1 (am_lf 0 (a_const (nI 1) 1)) (am_nd 2 (am_lf 1 (a_iload 1 2)) (am_lf 2 (a_bin (fun x y => x <<< (y &&& 31)) 3)))) (am_nd 4 (am_lf 3 (a_istore 2 4)) (am_nd 5 (am_lf 4 (a_aload 0 5)) (am_lf 5 (a_get tT 5 4 8))))) (am_nd 11 (am_nd 9 (am_lf 8 (a_iload 1 9)) (am_nd 10 (am_lf 9 (a_iald tT 10)) (am_lf 10 (a_istore 3 11)))) (am_nd 12 (am_lf 11 (a_const (nI 0) 12)) (am_nd 14 (am_lf 12 (a_istore 4 14)) (am_lf 14 (a_iload 4 16)))))) (am_nd 28 (am_nd 23 (am_nd 17 (am_lf 16 (a_aload 0 17)) (am_nd 20 (am_lf 17 (a_get tT 5 0 20)) (am_lf 20 (a_cmp (fun x y => y ≤ x) 76 23)))) (am_nd 24 (am_lf 23 (a_const (nI 0) 24)) (am_nd 26 (am_lf 24 (a_istore 5 26)) (am_lf 26 (a_iload 5 28))))) (am_nd 35 (am_nd 29 (am_lf 28 (a_aload 0 29)) (am_nd 32 (am_lf 29 (a_get tT 5 0 32)) (am_lf 32 (a_cmp (fun x y => y ≤ x) 70 35)))) (am_nd 36 (am_lf 35 (a_aload 0 36)) (am_nd 39 (am_lf 36 (a_get tT 5 4 39)) (am_lf 39 (a_iload 5 41))))))
theorem gX5_cousinsOf_0 : am_Good tT mX5_cousinsOf tX5_cousinsOf_0 := am_nd_ok (am_nd_ok (am_nd_ok (am_nd_ok (am_lf_ok (fun _ => ok_iconst dX5_cousinsOf_0 cv_iconst_1 rfl)) (am_nd_ok (am_lf_ok (fun _ => ok_iload_n dX5_cousinsOf_1 rfl rfl)) (am_lf_ok (fun _ => ok_ishl dX5_cousinsOf_2 rfl)))) (am_nd_ok (am_lf_ok (fun _ => ok_istore_n dX5_cousinsOf_3 rfl (Nat.le_of_ble_eq_true rfl) rfl)) (am_nd_ok (am_lf_ok (fun _ => ok_aload_n dX5_cousinsOf_4 rfl rfl)) (am_lf_ok (fun _ => ok_get (C := RX5) (TT := TX5) (N := 8) rfl inw_X5 (Nat.le_of_ble_eq_true rfl) wd_155 dX5_cousinsOf_5 rfl))))) (am_nd_ok (am_nd_ok (am_lf_ok (fun _ => ok_iload_n dX5_cousinsOf_8 rfl rfl)) (am_nd_ok (am_lf_ok (fun _ => ok_iald dX5_cousinsOf_9 rfl)) (am_lf_ok (fun _ => ok_istore_n dX5_cousinsOf_10 rfl (Nat.le_of_ble_eq_true rfl) rfl)))) (am_nd_ok (am_lf_ok (fun _ => ok_iconst dX5_cousinsOf_11 cv_iconst_0 rfl)) (am_nd_ok (am_lf_ok (fun _ => ok_istore dX5_cousinsOf_12 (Nat.le_of_ble_eq_true rfl) rfl)) (am_lf_ok (fun _ => ok_iload dX5_cousinsOf_14 rfl)))))) (am_nd_ok (am_nd_ok (am_nd_ok (am_lf_ok (fun _ => ok_aload_n dX5_cousinsOf_16 rfl rfl)) (am_nd_ok (am_lf_ok (fun _ => ok_get (C := RX5) (TT := TX5) (N := 8) rfl inw_X5 (Nat.le_of_ble_eq_true rfl) wd_151 dX5_cousinsOf_17 rfl)) (am_lf_ok (fun _ => ok_cmp_ge dX5_cousinsOf_20 rfl rfl)))) (am_nd_ok (am_lf_ok (fun _ => ok_iconst dX5_cousinsOf_23 cv_iconst_0 rfl)) (am_nd_ok (am_lf_ok (fun _ => ok_istore dX5_cousinsOf_24 (Nat.le_of_ble_eq_true rfl) rfl)) (am_lf_ok (fun _ => ok_iload dX5_cousinsOf_26 rfl))))) (am_nd_ok (am_nd_ok (am_lf_ok (fun _ => ok_aload_n dX5_cousinsOf_28 rfl rfl)) (am_nd_ok (am_lf_ok (fun _ => ok_get (C := RX5) (TT := TX5) (N := 8) rfl inw_X5 (Nat.le_of_ble_eq_true rfl) wd_151 dX5_cousinsOf_29 rfl)) (am_lf_ok (fun _ => ok_cmp_ge dX5_cousinsOf_32 rfl rfl)))) (am_nd_ok (am_lf_ok (fun _ => ok_aload_n dX5_cousinsOf_35 rfl rfl)) (am_nd_ok (am_lf_ok (fun _ => ok_get (C := RX5) (TT := TX5) (N := 8) rfl inw_X5 (Nat.le_of_ble_eq_true rfl) wd_155 dX5_cousinsOf_36 rfl)) (am_lf_ok (fun _ => ok_iload dX5_cousinsOf_39 rfl))))))
def tX5_cousinsOf_1 : Nat → Option am_Act := am_nd 56 (am_nd 49 (am_nd 44 (am_nd 42 (am_lf 41 (a_iald tT 42)) (am_nd 43 (am_lf 42 (a_iload 3 43)) (am_lf 43 (a_bin (fun x y => x &&& y) 44)))) (am_nd 47 (am_lf 44 (a_if (fun x => x = nI 0) 64 47)) (am_nd 48 (am_lf 47 (a_iload 2 48)) (am_lf 48 (a_const (nI 1) 49))))) (am_nd 53 (am_nd 51 (am_lf 49 (a_iload 5 51)) (am_nd 52 (am_lf 51 (a_bin (fun x y => x <<< (y &&& 31)) 52)) (am_lf 52 (a_bin (fun x y => x ||| y) 53)))) (am_nd 54 (am_lf 53 (a_istore 2 54)) (am_nd 55 (am_lf 54 (a_iload 3 55)) (am_lf 55 (a_aload 0 56)))))) (am_nd 67 (am_nd 62 (am_nd 59 (am_lf 56 (a_get tT 5 4 59)) (am_nd 61 (am_lf 59 (a_iload 5 61)) (am_lf 61 (a_iald tT 62)))) (am_nd 63 (am_lf 62 (a_bin (fun x y => x ||| y) 63)) (am_nd 64 (am_lf 63 (a_istore 3 64)) (am_lf 64 (a_iinc 5 (nI 1) 67))))) (am_nd 76 (am_nd 70 (am_lf 67 (a_goto 26)) (am_nd 73 (am_lf 70 (a_iinc 4 (nI 1) 73)) (am_lf 73 (a_goto 14)))) (am_nd 77 (am_lf 76 (a_iload 2 77)) (am_nd 78 (am_lf 77 (a_const (nI 1) 78)) (am_lf 78 (a_iload 1 79))))))
theorem gX5_cousinsOf_1 : am_Good tT mX5_cousinsOf tX5_cousinsOf_1 := am_nd_ok (am_nd_ok (am_nd_ok (am_nd_ok (am_lf_ok (fun _ => ok_iald dX5_cousinsOf_41 rfl)) (am_nd_ok (am_lf_ok (fun _ => ok_iload_n dX5_cousinsOf_42 rfl rfl)) (am_lf_ok (fun _ => ok_iand dX5_cousinsOf_43 rfl)))) (am_nd_ok (am_lf_ok (fun _ => ok_if_eq dX5_cousinsOf_44 rfl rfl)) (am_nd_ok (am_lf_ok (fun _ => ok_iload_n dX5_cousinsOf_47 rfl rfl)) (am_lf_ok (fun _ => ok_iconst dX5_cousinsOf_48 cv_iconst_1 rfl))))) (am_nd_ok (am_nd_ok (am_lf_ok (fun _ => ok_iload dX5_cousinsOf_49 rfl)) (am_nd_ok (am_lf_ok (fun _ => ok_ishl dX5_cousinsOf_51 rfl)) (am_lf_ok (fun _ => ok_ior dX5_cousinsOf_52 rfl)))) (am_nd_ok (am_lf_ok (fun _ => ok_istore_n dX5_cousinsOf_53 rfl (Nat.le_of_ble_eq_true rfl) rfl)) (am_nd_ok (am_lf_ok (fun _ => ok_iload_n dX5_cousinsOf_54 rfl rfl)) (am_lf_ok (fun _ => ok_aload_n dX5_cousinsOf_55 rfl rfl)))))) (am_nd_ok (am_nd_ok (am_nd_ok (am_lf_ok (fun _ => ok_get (C := RX5) (TT := TX5) (N := 8) rfl inw_X5 (Nat.le_of_ble_eq_true rfl) wd_155 dX5_cousinsOf_56 rfl)) (am_nd_ok (am_lf_ok (fun _ => ok_iload dX5_cousinsOf_59 rfl)) (am_lf_ok (fun _ => ok_iald dX5_cousinsOf_61 rfl)))) (am_nd_ok (am_lf_ok (fun _ => ok_ior dX5_cousinsOf_62 rfl)) (am_nd_ok (am_lf_ok (fun _ => ok_istore_n dX5_cousinsOf_63 rfl (Nat.le_of_ble_eq_true rfl) rfl)) (am_lf_ok (fun _ => ok_iinc dX5_cousinsOf_64 cv_iconst_1 (Nat.le_of_ble_eq_true rfl) rfl))))) (am_nd_ok (am_nd_ok (am_lf_ok (fun _ => ok_goto dX5_cousinsOf_67 rfl)) (am_nd_ok (am_lf_ok (fun _ => ok_iinc dX5_cousinsOf_70 cv_iconst_1 (Nat.le_of_ble_eq_true rfl) rfl)) (am_lf_ok (fun _ => ok_goto dX5_cousinsOf_73 rfl)))) (am_nd_ok (am_lf_ok (fun _ => ok_iload_n dX5_cousinsOf_76 rfl rfl)) (am_nd_ok (am_lf_ok (fun _ => ok_iconst dX5_cousinsOf_77 cv_iconst_1 rfl)) (am_lf_ok (fun _ => ok_iload_n dX5_cousinsOf_78 rfl rfl))))))
def tX5_cousinsOf_2 : Nat → Option am_Act := am_nd 81 (am_nd 80 (am_lf 79 (a_bin (fun x y => x <<< (y &&& 31)) 80)) (am_lf 80 (a_const (-1) 81))) (am_nd 82 (am_lf 81 (a_bin (fun x y => x ^^^ y) 82)) (am_nd 83 (am_lf 82 (a_bin (fun x y => x &&& y) 83)) (am_lf 83 (a_iret))))
theorem gX5_cousinsOf_2 : am_Good tT mX5_cousinsOf tX5_cousinsOf_2 := am_nd_ok (am_nd_ok (am_lf_ok (fun _ => ok_ishl dX5_cousinsOf_79 rfl)) (am_lf_ok (fun _ => ok_iconst dX5_cousinsOf_80 cv_iconst_m1 rfl))) (am_nd_ok (am_lf_ok (fun _ => ok_ixor dX5_cousinsOf_81 rfl)) (am_nd_ok (am_lf_ok (fun _ => ok_iand dX5_cousinsOf_82 rfl)) (am_lf_ok (fun _ => ok_iret rfl dX5_cousinsOf_83))))
def tX5_cousinsOf : Nat → Option am_Act := am_nd 41 (tX5_cousinsOf_0) (am_nd 79 (tX5_cousinsOf_1) (tX5_cousinsOf_2))
theorem gX5_cousinsOf : am_Good tT mX5_cousinsOf tX5_cousinsOf := am_nd_ok (gX5_cousinsOf_0) (am_nd_ok (gX5_cousinsOf_1) (gX5_cousinsOf_2))
theorem dX5_copyFrom_0 : decode cX5_copyFrom 0 = .ok (.aload_n 0, 1) := by decide +kernel
theorem dX5_copyFrom_1 : decode cX5_copyFrom 1 = .ok (.aload_n 1, 1) := by decide +kernel
theorem dX5_copyFrom_2 : decode cX5_copyFrom 2 = .ok (.getfield 33, 3) := by decide +kernel
theorem dX5_copyFrom_5 : decode cX5_copyFrom 5 = .ok (.putfield 33, 3) := by decide +kernel
theorem dX5_copyFrom_8 : decode cX5_copyFrom 8 = .ok (.aload_n 1, 1) := by decide +kernel
theorem dX5_copyFrom_9 : decode cX5_copyFrom 9 = .ok (.getfield 9, 3) := by decide +kernel
theorem dX5_copyFrom_12 : decode cX5_copyFrom 12 = .ok (.iconst 0, 1) := by decide +kernel
theorem dX5_copyFrom_13 : decode cX5_copyFrom 13 = .ok (.aload_n 0, 1) := by decide +kernel
theorem dX5_copyFrom_14 : decode cX5_copyFrom 14 = .ok (.getfield 9, 3) := by decide +kernel
theorem dX5_copyFrom_17 : decode cX5_copyFrom 17 = .ok (.iconst 0, 1) := by decide +kernel
theorem dX5_copyFrom_18 : decode cX5_copyFrom 18 = .ok (.bipush 8, 2) := by decide +kernel
theorem dX5_copyFrom_20 : decode cX5_copyFrom 20 = .ok (.invokestatic 45, 3) := by decide +kernel
theorem dX5_copyFrom_23 : decode cX5_copyFrom 23 = .ok (.aload_n 1, 1) := by decide +kernel
theorem dX5_copyFrom_24 : decode cX5_copyFrom 24 = .ok (.getfield 15, 3) := by decide +kernel
theorem dX5_copyFrom_27 : decode cX5_copyFrom 27 = .ok (.iconst 0, 1) := by decide +kernel
theorem dX5_copyFrom_28 : decode cX5_copyFrom 28 = .ok (.aload_n 0, 1) := by decide +kernel
theorem dX5_copyFrom_29 : decode cX5_copyFrom 29 = .ok (.getfield 15, 3) := by decide +kernel
theorem dX5_copyFrom_32 : decode cX5_copyFrom 32 = .ok (.iconst 0, 1) := by decide +kernel
theorem dX5_copyFrom_33 : decode cX5_copyFrom 33 = .ok (.bipush 8, 2) := by decide +kernel
theorem dX5_copyFrom_35 : decode cX5_copyFrom 35 = .ok (.invokestatic 45, 3) := by decide +kernel
theorem dX5_copyFrom_38 : decode cX5_copyFrom 38 = .ok (.aload_n 1, 1) := by decide +kernel
theorem dX5_copyFrom_39 : decode cX5_copyFrom 39 = .ok (.getfield 18, 3) := by decide +kernel
theorem dX5_copyFrom_42 : decode cX5_copyFrom 42 = .ok (.iconst 0, 1) := by decide +kernel
theorem dX5_copyFrom_43 : decode cX5_copyFrom 43 = .ok (.aload_n 0, 1) := by decide +kernel
theorem dX5_copyFrom_44 : decode cX5_copyFrom 44 = .ok (.getfield 18, 3) := by decide +kernel
theorem dX5_copyFrom_47 : decode cX5_copyFrom 47 = .ok (.iconst 0, 1) := by decide +kernel
theorem dX5_copyFrom_48 : decode cX5_copyFrom 48 = .ok (.bipush 8, 2) := by decide +kernel
theorem dX5_copyFrom_50 : decode cX5_copyFrom 50 = .ok (.invokestatic 45, 3) := by decide +kernel
theorem dX5_copyFrom_53 : decode cX5_copyFrom 53 = .ok (.aload_n 1, 1) := by decide +kernel
theorem dX5_copyFrom_54 : decode cX5_copyFrom 54 = .ok (.getfield 21, 3) := by decide +kernel
theorem dX5_copyFrom_57 : decode cX5_copyFrom 57 = .ok (.iconst 0, 1) := by decide +kernel
theorem dX5_copyFrom_58 : decode cX5_copyFrom 58 = .ok (.aload_n 0, 1) := by decide +kernel
theorem dX5_copyFrom_59 : decode cX5_copyFrom 59 = .ok (.getfield 21, 3) := by decide +kernel
theorem dX5_copyFrom_62 : decode cX5_copyFrom 62 = .ok (.iconst 0, 1) := by decide +kernel
theorem dX5_copyFrom_63 : decode cX5_copyFrom 63 = .ok (.bipush 8, 2) := by decide +kernel
theorem dX5_copyFrom_65 : decode cX5_copyFrom 65 = .ok (.invokestatic 45, 3) := by decide +kernel
theorem dX5_copyFrom_68 : decode cX5_copyFrom 68 = .ok (.aload_n 1, 1) := by decide +kernel
theorem dX5_copyFrom_69 : decode cX5_copyFrom 69 = .ok (.getfield 24, 3) := by decide +kernel
theorem dX5_copyFrom_72 : decode cX5_copyFrom 72 = .ok (.iconst 0, 1) := by decide +kernel
theorem dX5_copyFrom_73 : decode cX5_copyFrom 73 = .ok (.aload_n 0, 1) := by decide +kernel
theorem dX5_copyFrom_74 : decode cX5_copyFrom 74 = .ok (.getfield 24, 3) := by decide +kernel
theorem dX5_copyFrom_77 : decode cX5_copyFrom 77 = .ok (.iconst 0, 1) := by decide +kernel
theorem dX5_copyFrom_78 : decode cX5_copyFrom 78 = .ok (.bipush 8, 2) := by decide +kernel
theorem dX5_copyFrom_80 : decode cX5_copyFrom 80 = .ok (.invokestatic 45, 3) := by decide +kernel
theorem dX5_copyFrom_83 : decode cX5_copyFrom 83 = .ok (.aload_n 1, 1) := by decide +kernel
theorem dX5_copyFrom_84 : decode cX5_copyFrom 84 = .ok (.getfield 27, 3) := by decide +kernel
theorem dX5_copyFrom_87 : decode cX5_copyFrom 87 = .ok (.iconst 0, 1) := by decide +kernel
theorem dX5_copyFrom_88 : decode cX5_copyFrom 88 = .ok (.aload_n 0, 1) := by decide +kernel
theorem dX5_copyFrom_89 : decode cX5_copyFrom 89 = .ok (.getfield 27, 3) := by decide +kernel
theorem dX5_copyFrom_92 : decode cX5_copyFrom 92 = .ok (.iconst 0, 1) := by decide +kernel
theorem dX5_copyFrom_93 : decode cX5_copyFrom 93 = .ok (.bipush 8, 2) := by decide +kernel
theorem dX5_copyFrom_95 : decode cX5_copyFrom 95 = .ok (.invokestatic 45, 3) := by decide +kernel
theorem dX5_copyFrom_98 : decode cX5_copyFrom 98 = .ok (.aload_n 1, 1) := by decide +kernel
theorem dX5_copyFrom_99 : decode cX5_copyFrom 99 = .ok (.getfield 30, 3) := by decide +kernel
theorem dX5_copyFrom_102 : decode cX5_copyFrom 102 = .ok (.iconst 0, 1) := by decide +kernel
theorem dX5_copyFrom_103 : decode cX5_copyFrom 103 = .ok (.aload_n 0, 1) := by decide +kernel
theorem dX5_copyFrom_104 : decode cX5_copyFrom 104 = .ok (.getfield 30, 3) := by decide +kernel
theorem dX5_copyFrom_107 : decode cX5_copyFrom 107 = .ok (.iconst 0, 1) := by decide +kernel
theorem dX5_copyFrom_108 : decode cX5_copyFrom 108 = .ok (.bipush 72, 2) := by decide +kernel
theorem dX5_copyFrom_110 : decode cX5_copyFrom 110 = .ok (.invokestatic 45, 3) := by decide +kernel
theorem dX5_copyFrom_113 : decode cX5_copyFrom 113 = .ok (.return_, 1) := by decide +kernel
def tX5_copyFrom_0 : Nat → Option am_Act := am_nd 23 (am_nd 12 (am_nd 5 (am_nd 1 (am_lf 0 (a_aload 0 1)) (am_nd 2 (am_lf 1 (a_aload 1 2)) (am_lf 2 (a_get tT 5 0 5)))) (am_nd 8 (am_lf 5 (a_put tT 5 0 8)) (am_nd 9 (am_lf 8 (a_aload 1 9)) (am_lf 9 (a_get tT 5 1 12))))) (am_nd 17 (am_nd 13 (am_lf 12 (a_const (nI 0) 13)) (am_nd 14 (am_lf 13 (a_aload 0 14)) (am_lf 14 (a_get tT 5 1 17)))) (am_nd 18 (am_lf 17 (a_const (nI 0) 18)) (am_nd 20 (am_lf 18 (a_const (nI 8) 20)) (am_lf 20 (a_copy tT 23)))))) (am_nd 33 (am_nd 28 (am_nd 24 (am_lf 23 (a_aload 1 24)) (am_nd 27 (am_lf 24 (a_get tT 5 2 27)) (am_lf 27 (a_const (nI 0) 28)))) (am_nd 29 (am_lf 28 (a_aload 0 29)) (am_nd 32 (am_lf 29 (a_get tT 5 2 32)) (am_lf 32 (a_const (nI 0) 33))))) (am_nd 39 (am_nd 35 (am_lf 33 (a_const (nI 8) 35)) (am_nd 38 (am_lf 35 (a_copy tT 38)) (am_lf 38 (a_aload 1 39)))) (am_nd 42 (am_lf 39 (a_get tT 5 3 42)) (am_nd 43 (am_lf 42 (a_const (nI 0) 43)) (am_lf 43 (a_aload 0 44))))))
theorem gX5_copyFrom_0 : am_Good tT mX5_copyFrom tX5_copyFrom_0 := am_nd_ok (am_nd_ok (am_nd_ok (am_nd_ok (am_lf_ok (fun _ => ok_aload_n dX5_copyFrom_0 rfl rfl)) (am_nd_ok (am_lf_ok (fun _ => ok_aload_n dX5_copyFrom_1 rfl rfl)) (am_lf_ok (fun _ => ok_get (C := RX5) (TT := TX5) (N := 8) rfl inw_X5 (Nat.le_of_ble_eq_true rfl) wd_151 dX5_copyFrom_2 rfl)))) (am_nd_ok (am_lf_ok (fun _ => ok_put (C := RX5) (TT := TX5) (N := 8) (ty0 := tyX5) rfl inw_X5 tyX5_ok nmX5 (Nat.le_of_ble_eq_true rfl) rfl rfl wd_151 dX5_copyFrom_5 rfl)) (am_nd_ok (am_lf_ok (fun _ => ok_aload_n dX5_copyFrom_8 rfl rfl)) (am_lf_ok (fun _ => ok_get (C := RX5) (TT := TX5) (N := 8) rfl inw_X5 (Nat.le_of_ble_eq_true rfl) wd_152 dX5_copyFrom_9 rfl))))) (am_nd_ok (am_nd_ok (am_lf_ok (fun _ => ok_iconst dX5_copyFrom_12 cv_iconst_0 rfl)) (am_nd_ok (am_lf_ok (fun _ => ok_aload_n dX5_copyFrom_13 rfl rfl)) (am_lf_ok (fun _ => ok_get (C := RX5) (TT := TX5) (N := 8) rfl inw_X5 (Nat.le_of_ble_eq_true rfl) wd_152 dX5_copyFrom_14 rfl)))) (am_nd_ok (am_lf_ok (fun _ => ok_iconst dX5_copyFrom_17 cv_iconst_0 rfl)) (am_nd_ok (am_lf_ok (fun _ => ok_bipush dX5_copyFrom_18 cv_bipush_8 rfl)) (am_lf_ok (fun _ => ok_copy wd_165 wd_31 wd_32 wd_33 dX5_copyFrom_20 rfl)))))) (am_nd_ok (am_nd_ok (am_nd_ok (am_lf_ok (fun _ => ok_aload_n dX5_copyFrom_23 rfl rfl)) (am_nd_ok (am_lf_ok (fun _ => ok_get (C := RX5) (TT := TX5) (N := 8) rfl inw_X5 (Nat.le_of_ble_eq_true rfl) wd_153 dX5_copyFrom_24 rfl)) (am_lf_ok (fun _ => ok_iconst dX5_copyFrom_27 cv_iconst_0 rfl)))) (am_nd_ok (am_lf_ok (fun _ => ok_aload_n dX5_copyFrom_28 rfl rfl)) (am_nd_ok (am_lf_ok (fun _ => ok_get (C := RX5) (TT := TX5) (N := 8) rfl inw_X5 (Nat.le_of_ble_eq_true rfl) wd_153 dX5_copyFrom_29 rfl)) (am_lf_ok (fun _ => ok_iconst dX5_copyFrom_32 cv_iconst_0 rfl))))) (am_nd_ok (am_nd_ok (am_lf_ok (fun _ => ok_bipush dX5_copyFrom_33 cv_bipush_8 rfl)) (am_nd_ok (am_lf_ok (fun _ => ok_copy wd_165 wd_31 wd_32 wd_33 dX5_copyFrom_35 rfl)) (am_lf_ok (fun _ => ok_aload_n dX5_copyFrom_38 rfl rfl)))) (am_nd_ok (am_lf_ok (fun _ => ok_get (C := RX5) (TT := TX5) (N := 8) rfl inw_X5 (Nat.le_of_ble_eq_true rfl) wd_154 dX5_copyFrom_39 rfl)) (am_nd_ok (am_lf_ok (fun _ => ok_iconst dX5_copyFrom_42 cv_iconst_0 rfl)) (am_lf_ok (fun _ => ok_aload_n dX5_copyFrom_43 rfl rfl))))))
def tX5_copyFrom_1 : Nat → Option am_Act := am_nd 68 (am_nd 57 (am_nd 50 (am_nd 47 (am_lf 44 (a_get tT 5 3 47)) (am_nd 48 (am_lf 47 (a_const (nI 0) 48)) (am_lf 48 (a_const (nI 8) 50)))) (am_nd 53 (am_lf 50 (a_copy tT 53)) (am_nd 54 (am_lf 53 (a_aload 1 54)) (am_lf 54 (a_get tT 5 4 57))))) (am_nd 62 (am_nd 58 (am_lf 57 (a_const (nI 0) 58)) (am_nd 59 (am_lf 58 (a_aload 0 59)) (am_lf 59 (a_get tT 5 4 62)))) (am_nd 63 (am_lf 62 (a_const (nI 0) 63)) (am_nd 65 (am_lf 63 (a_const (nI 8) 65)) (am_lf 65 (a_copy tT 68)))))) (am_nd 78 (am_nd 73 (am_nd 69 (am_lf 68 (a_aload 1 69)) (am_nd 72 (am_lf 69 (a_get tT 5 5 72)) (am_lf 72 (a_const (nI 0) 73)))) (am_nd 74 (am_lf 73 (a_aload 0 74)) (am_nd 77 (am_lf 74 (a_get tT 5 5 77)) (am_lf 77 (a_const (nI 0) 78))))) (am_nd 84 (am_nd 80 (am_lf 78 (a_const (nI 8) 80)) (am_nd 83 (am_lf 80 (a_copy tT 83)) (am_lf 83 (a_aload 1 84)))) (am_nd 87 (am_lf 84 (a_get tT 5 6 87)) (am_nd 88 (am_lf 87 (a_const (nI 0) 88)) (am_lf 88 (a_aload 0 89))))))
theorem gX5_copyFrom_1 : am_Good tT mX5_copyFrom tX5_copyFrom_1 := am_nd_ok (am_nd_ok (am_nd_ok (am_nd_ok (am_lf_ok (fun _ => ok_get (C := RX5) (TT := TX5) (N := 8) rfl inw_X5 (Nat.le_of_ble_eq_true rfl) wd_154 dX5_copyFrom_44 rfl)) (am_nd_ok (am_lf_ok (fun _ => ok_iconst dX5_copyFrom_47 cv_iconst_0 rfl)) (am_lf_ok (fun _ => ok_bipush dX5_copyFrom_48 cv_bipush_8 rfl)))) (am_nd_ok (am_lf_ok (fun _ => ok_copy wd_165 wd_31 wd_32 wd_33 dX5_copyFrom_50 rfl)) (am_nd_ok (am_lf_ok (fun _ => ok_aload_n dX5_copyFrom_53 rfl rfl)) (am_lf_ok (fun _ => ok_get (C := RX5) (TT := TX5) (N := 8) rfl inw_X5 (Nat.le_of_ble_eq_true rfl) wd_155 dX5_copyFrom_54 rfl))))) (am_nd_ok (am_nd_ok (am_lf_ok (fun _ => ok_iconst dX5_copyFrom_57 cv_iconst_0 rfl)) (am_nd_ok (am_lf_ok (fun _ => ok_aload_n dX5_copyFrom_58 rfl rfl)) (am_lf_ok (fun _ => ok_get (C := RX5) (TT := TX5) (N := 8) rfl inw_X5 (Nat.le_of_ble_eq_true rfl) wd_155 dX5_copyFrom_59 rfl)))) (am_nd_ok (am_lf_ok (fun _ => ok_iconst dX5_copyFrom_62 cv_iconst_0 rfl)) (am_nd_ok (am_lf_ok (fun _ => ok_bipush dX5_copyFrom_63 cv_bipush_8 rfl)) (am_lf_ok (fun _ => ok_copy wd_165 wd_31 wd_32 wd_33 dX5_copyFrom_65 rfl)))))) (am_nd_ok (am_nd_ok (am_nd_ok (am_lf_ok (fun _ => ok_aload_n dX5_copyFrom_68 rfl rfl)) (am_nd_ok (am_lf_ok (fun _ => ok_get (C := RX5) (TT := TX5) (N := 8) rfl inw_X5 (Nat.le_of_ble_eq_true rfl) wd_156 dX5_copyFrom_69 rfl)) (am_lf_ok (fun _ => ok_iconst dX5_copyFrom_72 cv_iconst_0 rfl)))) (am_nd_ok (am_lf_ok (fun _ => ok_aload_n dX5_copyFrom_73 rfl rfl)) (am_nd_ok (am_lf_ok (fun _ => ok_get (C := RX5) (TT := TX5) (N := 8) rfl inw_X5 (Nat.le_of_ble_eq_true rfl) wd_156 dX5_copyFrom_74 rfl)) (am_lf_ok (fun _ => ok_iconst dX5_copyFrom_77 cv_iconst_0 rfl))))) (am_nd_ok (am_nd_ok (am_lf_ok (fun _ => ok_bipush dX5_copyFrom_78 cv_bipush_8 rfl)) (am_nd_ok (am_lf_ok (fun _ => ok_copy wd_165 wd_31 wd_32 wd_33 dX5_copyFrom_80 rfl)) (am_lf_ok (fun _ => ok_aload_n dX5_copyFrom_83 rfl rfl)))) (am_nd_ok (am_lf_ok (fun _ => ok_get (C := RX5) (TT := TX5) (N := 8) rfl inw_X5 (Nat.le_of_ble_eq_true rfl) wd_157 dX5_copyFrom_84 rfl)) (am_nd_ok (am_lf_ok (fun _ => ok_iconst dX5_copyFrom_87 cv_iconst_0 rfl)) (am_lf_ok (fun _ => ok_aload_n dX5_copyFrom_88 rfl rfl))))))
def tX5_copyFrom_2 : Nat → Option am_Act := am_nd 102 (am_nd 95 (am_nd 92 (am_lf 89 (a_get tT 5 6 92)) (am_nd 93 (am_lf 92 (a_const (nI 0) 93)) (am_lf 93 (a_const (nI 8) 95)))) (am_nd 98 (am_lf 95 (a_copy tT 98)) (am_nd 99 (am_lf 98 (a_aload 1 99)) (am_lf 99 (a_get tT 5 7 102))))) (am_nd 107 (am_nd 103 (am_lf 102 (a_const (nI 0) 103)) (am_nd 104 (am_lf 103 (a_aload 0 104)) (am_lf 104 (a_get tT 5 7 107)))) (am_nd 110 (am_nd 108 (am_lf 107 (a_const (nI 0) 108)) (am_lf 108 (a_const (nI 72) 110))) (am_nd 113 (am_lf 110 (a_copy tT 113)) (am_lf 113 (a_ret)))))
theorem gX5_copyFrom_2 : am_Good tT mX5_copyFrom tX5_copyFrom_2 := am_nd_ok (am_nd_ok (am_nd_ok (am_lf_ok (fun _ => ok_get (C := RX5) (TT := TX5) (N := 8) rfl inw_X5 (Nat.le_of_ble_eq_true rfl) wd_157 dX5_copyFrom_89 rfl)) (am_nd_ok (am_lf_ok (fun _ => ok_iconst dX5_copyFrom_92 cv_iconst_0 rfl)) (am_lf_ok (fun _ => ok_bipush dX5_copyFrom_93 cv_bipush_8 rfl)))) (am_nd_ok (am_lf_ok (fun _ => ok_copy wd_165 wd_31 wd_32 wd_33 dX5_copyFrom_95 rfl)) (am_nd_ok (am_lf_ok (fun _ => ok_aload_n dX5_copyFrom_98 rfl rfl)) (am_lf_ok (fun _ => ok_get (C := RX5) (TT := TX5) (N := 8) rfl inw_X5 (Nat.le_of_ble_eq_true rfl) wd_158 dX5_copyFrom_99 rfl))))) (am_nd_ok (am_nd_ok (am_lf_ok (fun _ => ok_iconst dX5_copyFrom_102 cv_iconst_0 rfl)) (am_nd_ok (am_lf_ok (fun _ => ok_aload_n dX5_copyFrom_103 rfl rfl)) (am_lf_ok (fun _ => ok_get (C := RX5) (TT := TX5) (N := 8) rfl inw_X5 (Nat.le_of_ble_eq_true rfl) wd_158 dX5_copyFrom_104 rfl)))) (am_nd_ok (am_nd_ok (am_lf_ok (fun _ => ok_iconst dX5_copyFrom_107 cv_iconst_0 rfl)) (am_lf_ok (fun _ => ok_bipush dX5_copyFrom_108 cv_bipush_72 rfl))) (am_nd_ok (am_lf_ok (fun _ => ok_copy wd_165 wd_31 wd_32 wd_33 dX5_copyFrom_110 rfl)) (am_lf_ok (fun _ => ok_ret rfl dX5_copyFrom_113)))))
def tX5_copyFrom : Nat → Option am_Act := am_nd 44 (tX5_copyFrom_0) (am_nd 89 (tX5_copyFrom_1) (tX5_copyFrom_2))
theorem gX5_copyFrom : am_Good tT mX5_copyFrom tX5_copyFrom := am_nd_ok (gX5_copyFrom_0) (am_nd_ok (gX5_copyFrom_1) (gX5_copyFrom_2))
