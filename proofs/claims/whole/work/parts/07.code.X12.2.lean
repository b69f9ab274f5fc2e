/-! ===== code of TollOfNamesModel ===== -/
theorem dX12_lay_0 : decode cX12_lay 0 = .ok (.aload_n 0, 1) := by decide +kernel
theorem dX12_lay_1 : decode cX12_lay 1 = .ok (.getfield 25, 3) := by decide +kernel
theorem dX12_lay_4 : decode cX12_lay 4 = .ok (.iconst 2, 1) := by decide +kernel
theorem dX12_lay_5 : decode cX12_lay 5 = .ok (.aload_n 0, 1) := by decide +kernel
theorem dX12_lay_6 : decode cX12_lay 6 = .ok (.getfield 181, 3) := by decide +kernel
theorem dX12_lay_9 : decode cX12_lay 9 = .ok (.imul, 1) := by decide +kernel
theorem dX12_lay_10 : decode cX12_lay 10 = .ok (.iload_n 1, 1) := by decide +kernel
theorem dX12_lay_11 : decode cX12_lay 11 = .ok (.iastore, 1) := by decide +kernel
theorem dX12_lay_12 : decode cX12_lay 12 = .ok (.aload_n 0, 1) := by decide +kernel
theorem dX12_lay_13 : decode cX12_lay 13 = .ok (.getfield 25, 3) := by decide +kernel
theorem dX12_lay_16 : decode cX12_lay 16 = .ok (.iconst 2, 1) := by decide +kernel
theorem dX12_lay_17 : decode cX12_lay 17 = .ok (.aload_n 0, 1) := by decide +kernel
theorem dX12_lay_18 : decode cX12_lay 18 = .ok (.getfield 181, 3) := by decide +kernel
theorem dX12_lay_21 : decode cX12_lay 21 = .ok (.imul, 1) := by decide +kernel
theorem dX12_lay_22 : decode cX12_lay 22 = .ok (.iconst 1, 1) := by decide +kernel
theorem dX12_lay_23 : decode cX12_lay 23 = .ok (.iadd, 1) := by decide +kernel
theorem dX12_lay_24 : decode cX12_lay 24 = .ok (.iload_n 2, 1) := by decide +kernel
theorem dX12_lay_25 : decode cX12_lay 25 = .ok (.iastore, 1) := by decide +kernel
theorem dX12_lay_26 : decode cX12_lay 26 = .ok (.aload_n 0, 1) := by decide +kernel
theorem dX12_lay_27 : decode cX12_lay 27 = .ok (.dup, 1) := by decide +kernel
theorem dX12_lay_28 : decode cX12_lay 28 = .ok (.getfield 181, 3) := by decide +kernel
theorem dX12_lay_31 : decode cX12_lay 31 = .ok (.iconst 1, 1) := by decide +kernel
theorem dX12_lay_32 : decode cX12_lay 32 = .ok (.iadd, 1) := by decide +kernel
theorem dX12_lay_33 : decode cX12_lay 33 = .ok (.putfield 181, 3) := by decide +kernel
theorem dX12_lay_36 : decode cX12_lay 36 = .ok (.return_, 1) := by decide +kernel
def tX12_lay_0 : Nat → Option am_Act := am_nd 18 (am_nd 10 (am_nd 5 (am_nd 1 (am_lf 0 (a_aload 0 1)) (am_nd 4 (am_lf 1 (a_get tT 12 7 4)) (am_lf 4 (a_const (nI 2) 5)))) (am_nd 6 (am_lf 5 (a_aload 0 6)) (am_nd 9 (am_lf 6 (a_get tT 12 12 9)) (am_lf 9 (a_bin (fun x y => x * y) 10))))) (am_nd 13 (am_nd 11 (am_lf 10 (a_iload 1 11)) (am_nd 12 (am_lf 11 (a_iast tT 12)) (am_lf 12 (a_aload 0 13)))) (am_nd 16 (am_lf 13 (a_get tT 12 7 16)) (am_nd 17 (am_lf 16 (a_const (nI 2) 17)) (am_lf 17 (a_aload 0 18)))))) (am_nd 26 (am_nd 23 (am_nd 21 (am_lf 18 (a_get tT 12 12 21)) (am_nd 22 (am_lf 21 (a_bin (fun x y => x * y) 22)) (am_lf 22 (a_const (nI 1) 23)))) (am_nd 24 (am_lf 23 (a_bin (fun x y => x + y) 24)) (am_nd 25 (am_lf 24 (a_iload 2 25)) (am_lf 25 (a_iast tT 26))))) (am_nd 31 (am_nd 27 (am_lf 26 (a_aload 0 27)) (am_nd 28 (am_lf 27 (a_dup 28)) (am_lf 28 (a_get tT 12 12 31)))) (am_nd 32 (am_lf 31 (a_const (nI 1) 32)) (am_nd 33 (am_lf 32 (a_bin (fun x y => x + y) 33)) (am_lf 33 (a_put tT 12 12 36))))))
theorem gX12_lay_0 : am_Good tT mX12_lay tX12_lay_0 := am_nd_ok (am_nd_ok (am_nd_ok (am_nd_ok (am_lf_ok (fun _ => ok_aload_n dX12_lay_0 rfl rfl)) (am_nd_ok (am_lf_ok (fun _ => ok_get (C := RX12) (TT := TX12) (N := 31) rfl inw_X12 (Nat.le_of_ble_eq_true rfl) wd_512 dX12_lay_1 rfl)) (am_lf_ok (fun _ => ok_iconst dX12_lay_4 cv_iconst_2 rfl)))) (am_nd_ok (am_lf_ok (fun _ => ok_aload_n dX12_lay_5 rfl rfl)) (am_nd_ok (am_lf_ok (fun _ => ok_get (C := RX12) (TT := TX12) (N := 31) rfl inw_X12 (Nat.le_of_ble_eq_true rfl) wd_513 dX12_lay_6 rfl)) (am_lf_ok (fun _ => ok_imul dX12_lay_9 rfl))))) (am_nd_ok (am_nd_ok (am_lf_ok (fun _ => ok_iload_n dX12_lay_10 rfl rfl)) (am_nd_ok (am_lf_ok (fun _ => ok_iast dX12_lay_11 rfl)) (am_lf_ok (fun _ => ok_aload_n dX12_lay_12 rfl rfl)))) (am_nd_ok (am_lf_ok (fun _ => ok_get (C := RX12) (TT := TX12) (N := 31) rfl inw_X12 (Nat.le_of_ble_eq_true rfl) wd_512 dX12_lay_13 rfl)) (am_nd_ok (am_lf_ok (fun _ => ok_iconst dX12_lay_16 cv_iconst_2 rfl)) (am_lf_ok (fun _ => ok_aload_n dX12_lay_17 rfl rfl)))))) (am_nd_ok (am_nd_ok (am_nd_ok (am_lf_ok (fun _ => ok_get (C := RX12) (TT := TX12) (N := 31) rfl inw_X12 (Nat.le_of_ble_eq_true rfl) wd_513 dX12_lay_18 rfl)) (am_nd_ok (am_lf_ok (fun _ => ok_imul dX12_lay_21 rfl)) (am_lf_ok (fun _ => ok_iconst dX12_lay_22 cv_iconst_1 rfl)))) (am_nd_ok (am_lf_ok (fun _ => ok_iadd dX12_lay_23 rfl)) (am_nd_ok (am_lf_ok (fun _ => ok_iload_n dX12_lay_24 rfl rfl)) (am_lf_ok (fun _ => ok_iast dX12_lay_25 rfl))))) (am_nd_ok (am_nd_ok (am_lf_ok (fun _ => ok_aload_n dX12_lay_26 rfl rfl)) (am_nd_ok (am_lf_ok (fun _ => ok_dup dX12_lay_27 rfl)) (am_lf_ok (fun _ => ok_get (C := RX12) (TT := TX12) (N := 31) rfl inw_X12 (Nat.le_of_ble_eq_true rfl) wd_513 dX12_lay_28 rfl)))) (am_nd_ok (am_lf_ok (fun _ => ok_iconst dX12_lay_31 cv_iconst_1 rfl)) (am_nd_ok (am_lf_ok (fun _ => ok_iadd dX12_lay_32 rfl)) (am_lf_ok (fun _ => ok_put (C := RX12) (TT := TX12) (N := 31) (ty0 := tyX12) rfl inw_X12 tyX12_ok nmX12 (Nat.le_of_ble_eq_true rfl) rfl rfl wd_513 dX12_lay_33 rfl))))))
def tX12_lay_1 : Nat → Option am_Act := am_lf 36 (a_ret)
theorem gX12_lay_1 : am_Good tT mX12_lay tX12_lay_1 := am_lf_ok (fun _ => ok_ret rfl dX12_lay_36)
def tX12_lay : Nat → Option am_Act := am_nd 36 (tX12_lay_0) (tX12_lay_1)
theorem gX12_lay : am_Good tT mX12_lay tX12_lay := am_nd_ok (gX12_lay_0) (gX12_lay_1)
theorem dX12_opens_0 : decode cX12_opens 0 = .ok (.aload_n 0, 1) := by decide +kernel
theorem dX12_opens_1 : decode cX12_opens 1 = .ok (.getfield 184, 3) := by decide +kernel
theorem dX12_opens_4 : decode cX12_opens 4 = .ok (.bipush 8, 2) := by decide +kernel
theorem dX12_opens_6 : decode cX12_opens 6 = .ok (.if_icmp .ne 9, 3) := by decide +kernel
theorem dX12_opens_9 : decode cX12_opens 9 = .ok (.aload_n 0, 1) := by decide +kernel
theorem dX12_opens_10 : decode cX12_opens 10 = .ok (.iconst 3, 1) := by decide +kernel
theorem dX12_opens_11 : decode cX12_opens 11 = .ok (.invokevirtual 175, 3) := by decide +kernel
theorem dX12_opens_14 : decode cX12_opens 14 = .ok (.ireturn, 1) := by decide +kernel
theorem dX12_opens_15 : decode cX12_opens 15 = .ok (.aload_n 0, 1) := by decide +kernel
theorem dX12_opens_16 : decode cX12_opens 16 = .ok (.dup, 1) := by decide +kernel
theorem dX12_opens_17 : decode cX12_opens 17 = .ok (.getfield 184, 3) := by decide +kernel
theorem dX12_opens_20 : decode cX12_opens 20 = .ok (.iconst 1, 1) := by decide +kernel
theorem dX12_opens_21 : decode cX12_opens 21 = .ok (.iadd, 1) := by decide +kernel
theorem dX12_opens_22 : decode cX12_opens 22 = .ok (.putfield 184, 3) := by decide +kernel
theorem dX12_opens_25 : decode cX12_opens 25 = .ok (.aload_n 0, 1) := by decide +kernel
theorem dX12_opens_26 : decode cX12_opens 26 = .ok (.invokevirtual 178, 3) := by decide +kernel
theorem dX12_opens_29 : decode cX12_opens 29 = .ok (.iconst 1, 1) := by decide +kernel
theorem dX12_opens_30 : decode cX12_opens 30 = .ok (.ireturn, 1) := by decide +kernel
def tX12_opens_0 : Nat → Option am_Act := am_nd 16 (am_nd 9 (am_nd 4 (am_nd 1 (am_lf 0 (a_aload 0 1)) (am_lf 1 (a_get tT 12 21 4))) (am_nd 6 (am_lf 4 (a_const (nI 8) 6)) (am_lf 6 (a_cmp (fun x y => x = y) 9 15)))) (am_nd 11 (am_nd 10 (am_lf 9 (a_aload 0 10)) (am_lf 10 (a_const (nI 3) 11))) (am_nd 14 (am_lf 11 (a_cvI tT mX12_bad 12 1 14)) (am_nd 15 (am_lf 14 (a_zret)) (am_lf 15 (a_aload 0 16)))))) (am_nd 22 (am_nd 20 (am_nd 17 (am_lf 16 (a_dup 17)) (am_lf 17 (a_get tT 12 21 20))) (am_nd 21 (am_lf 20 (a_const (nI 1) 21)) (am_lf 21 (a_bin (fun x y => x + y) 22)))) (am_nd 26 (am_nd 25 (am_lf 22 (a_put tT 12 21 25)) (am_lf 25 (a_aload 0 26))) (am_nd 29 (am_lf 26 (a_cvV tT mX12_next0 12 0 29)) (am_nd 30 (am_lf 29 (a_const (nI 1) 30)) (am_lf 30 (a_zret))))))
theorem gX12_opens_0 : am_Good tT mX12_opens tX12_opens_0 := am_nd_ok (am_nd_ok (am_nd_ok (am_nd_ok (am_lf_ok (fun _ => ok_aload_n dX12_opens_0 rfl rfl)) (am_lf_ok (fun _ => ok_get (C := RX12) (TT := TX12) (N := 31) rfl inw_X12 (Nat.le_of_ble_eq_true rfl) wd_514 dX12_opens_1 rfl))) (am_nd_ok (am_lf_ok (fun _ => ok_bipush dX12_opens_4 cv_bipush_8 rfl)) (am_lf_ok (fun _ => ok_cmp_ne dX12_opens_6 rfl rfl)))) (am_nd_ok (am_nd_ok (am_lf_ok (fun _ => ok_aload_n dX12_opens_9 rfl rfl)) (am_lf_ok (fun _ => ok_iconst dX12_opens_10 cv_iconst_3 rfl))) (am_nd_ok (am_lf_ok (fun _ => ok_cvI rfl mw_X12_bad (ci := 12) rfl rfl wd_506 wd_507 wd_508 dX12_opens_11 rfl)) (am_nd_ok (am_lf_ok (fun _ => ok_zret rfl dX12_opens_14)) (am_lf_ok (fun _ => ok_aload_n dX12_opens_15 rfl rfl)))))) (am_nd_ok (am_nd_ok (am_nd_ok (am_lf_ok (fun _ => ok_dup dX12_opens_16 rfl)) (am_lf_ok (fun _ => ok_get (C := RX12) (TT := TX12) (N := 31) rfl inw_X12 (Nat.le_of_ble_eq_true rfl) wd_514 dX12_opens_17 rfl))) (am_nd_ok (am_lf_ok (fun _ => ok_iconst dX12_opens_20 cv_iconst_1 rfl)) (am_lf_ok (fun _ => ok_iadd dX12_opens_21 rfl)))) (am_nd_ok (am_nd_ok (am_lf_ok (fun _ => ok_put (C := RX12) (TT := TX12) (N := 31) (ty0 := tyX12) rfl inw_X12 tyX12_ok nmX12 (Nat.le_of_ble_eq_true rfl) rfl rfl wd_514 dX12_opens_22 rfl)) (am_lf_ok (fun _ => ok_aload_n dX12_opens_25 rfl rfl))) (am_nd_ok (am_lf_ok (fun _ => ok_cvV rfl mw_X12_next0 (ci := 12) rfl rfl wd_509 wd_510 wd_511 dX12_opens_26 rfl)) (am_nd_ok (am_lf_ok (fun _ => ok_iconst dX12_opens_29 cv_iconst_1 rfl)) (am_lf_ok (fun _ => ok_zret rfl dX12_opens_30))))))
def tX12_opens : Nat → Option am_Act := tX12_opens_0
theorem gX12_opens : am_Good tT mX12_opens tX12_opens := gX12_opens_0
theorem dX12_sumUp_0 : decode cX12_sumUp 0 = .ok (.aload_n 0, 1) := by decide +kernel
theorem dX12_sumUp_1 : decode cX12_sumUp 1 = .ok (.invokevirtual 187, 3) := by decide +kernel
theorem dX12_sumUp_4 : decode cX12_sumUp 4 = .ok (.ifCond .ne 5, 3) := by decide +kernel
theorem dX12_sumUp_7 : decode cX12_sumUp 7 = .ok (.iconst 0, 1) := by decide +kernel
theorem dX12_sumUp_8 : decode cX12_sumUp 8 = .ok (.ireturn, 1) := by decide +kernel
theorem dX12_sumUp_9 : decode cX12_sumUp 9 = .ok (.aload_n 0, 1) := by decide +kernel
theorem dX12_sumUp_10 : decode cX12_sumUp 10 = .ok (.getfield 154, 3) := by decide +kernel
theorem dX12_sumUp_13 : decode cX12_sumUp 13 = .ok (.sipush 143, 3) := by decide +kernel
theorem dX12_sumUp_16 : decode cX12_sumUp 16 = .ok (.if_icmp .eq 13, 3) := by decide +kernel
theorem dX12_sumUp_19 : decode cX12_sumUp 19 = .ok (.aload_n 0, 1) := by decide +kernel
theorem dX12_sumUp_20 : decode cX12_sumUp 20 = .ok (.getfield 154, 3) := by decide +kernel
theorem dX12_sumUp_23 : decode cX12_sumUp 23 = .ok (.sipush 145, 3) := by decide +kernel
theorem dX12_sumUp_26 : decode cX12_sumUp 26 = .ok (.if_icmp .ne 43, 3) := by decide +kernel
theorem dX12_sumUp_29 : decode cX12_sumUp 29 = .ok (.aload_n 0, 1) := by decide +kernel
theorem dX12_sumUp_30 : decode cX12_sumUp 30 = .ok (.getfield 154, 3) := by decide +kernel
theorem dX12_sumUp_33 : decode cX12_sumUp 33 = .ok (.sipush 143, 3) := by decide +kernel
theorem dX12_sumUp_36 : decode cX12_sumUp 36 = .ok (.if_icmp .ne 8, 3) := by decide +kernel
theorem dX12_sumUp_39 : decode cX12_sumUp 39 = .ok (.bipush 13, 2) := by decide +kernel
theorem dX12_sumUp_41 : decode cX12_sumUp 41 = .ok (.goto 5, 3) := by decide +kernel
theorem dX12_sumUp_44 : decode cX12_sumUp 44 = .ok (.bipush 14, 2) := by decide +kernel
theorem dX12_sumUp_46 : decode cX12_sumUp 46 = .ok (.istore_n 1, 1) := by decide +kernel
theorem dX12_sumUp_47 : decode cX12_sumUp 47 = .ok (.aload_n 0, 1) := by decide +kernel
theorem dX12_sumUp_48 : decode cX12_sumUp 48 = .ok (.invokevirtual 178, 3) := by decide +kernel
theorem dX12_sumUp_51 : decode cX12_sumUp 51 = .ok (.aload_n 0, 1) := by decide +kernel
theorem dX12_sumUp_52 : decode cX12_sumUp 52 = .ok (.invokevirtual 187, 3) := by decide +kernel
theorem dX12_sumUp_55 : decode cX12_sumUp 55 = .ok (.ifCond .ne 5, 3) := by decide +kernel
theorem dX12_sumUp_58 : decode cX12_sumUp 58 = .ok (.iconst 0, 1) := by decide +kernel
theorem dX12_sumUp_59 : decode cX12_sumUp 59 = .ok (.ireturn, 1) := by decide +kernel
theorem dX12_sumUp_60 : decode cX12_sumUp 60 = .ok (.aload_n 0, 1) := by decide +kernel
theorem dX12_sumUp_61 : decode cX12_sumUp 61 = .ok (.iload_n 1, 1) := by decide +kernel
theorem dX12_sumUp_62 : decode cX12_sumUp 62 = .ok (.iconst 0, 1) := by decide +kernel
theorem dX12_sumUp_63 : decode cX12_sumUp 63 = .ok (.invokevirtual 191, 3) := by decide +kernel
theorem dX12_sumUp_66 : decode cX12_sumUp 66 = .ok (.goto (-57), 3) := by decide +kernel
theorem dX12_sumUp_69 : decode cX12_sumUp 69 = .ok (.iconst 1, 1) := by decide +kernel
theorem dX12_sumUp_70 : decode cX12_sumUp 70 = .ok (.ireturn, 1) := by decide +kernel
def tX12_sumUp_0 : Nat → Option am_Act := am_nd 26 (am_nd 10 (am_nd 7 (am_nd 1 (am_lf 0 (a_aload 0 1)) (am_nd 4 (am_lf 1 (a_cvI tT mX12_product 12 0 4)) (am_lf 4 (a_if (fun x => x = nI 0) 7 9)))) (am_nd 8 (am_lf 7 (a_const (nI 0) 8)) (am_nd 9 (am_lf 8 (a_zret)) (am_lf 9 (a_aload 0 10))))) (am_nd 19 (am_nd 13 (am_lf 10 (a_get tT 12 15 13)) (am_nd 16 (am_lf 13 (a_const (nI 143) 16)) (am_lf 16 (a_cmp (fun x y => x = y) 29 19)))) (am_nd 20 (am_lf 19 (a_aload 0 20)) (am_nd 23 (am_lf 20 (a_get tT 12 15 23)) (am_lf 23 (a_const (nI 145) 26)))))) (am_nd 41 (am_nd 33 (am_nd 29 (am_lf 26 (a_cmp (fun x y => x = y) 29 69)) (am_nd 30 (am_lf 29 (a_aload 0 30)) (am_lf 30 (a_get tT 12 15 33)))) (am_nd 36 (am_lf 33 (a_const (nI 143) 36)) (am_nd 39 (am_lf 36 (a_cmp (fun x y => x = y) 39 44)) (am_lf 39 (a_const (nI 13) 41))))) (am_nd 47 (am_nd 44 (am_lf 41 (a_goto 46)) (am_nd 46 (am_lf 44 (a_const (nI 14) 46)) (am_lf 46 (a_istore 1 47)))) (am_nd 48 (am_lf 47 (a_aload 0 48)) (am_nd 51 (am_lf 48 (a_cvV tT mX12_next0 12 0 51)) (am_lf 51 (a_aload 0 52))))))
theorem gX12_sumUp_0 : am_Good tT mX12_sumUp tX12_sumUp_0 := am_nd_ok (am_nd_ok (am_nd_ok (am_nd_ok (am_lf_ok (fun _ => ok_aload_n dX12_sumUp_0 rfl rfl)) (am_nd_ok (am_lf_ok (fun _ => ok_cvI rfl mw_X12_product (ci := 12) rfl rfl wd_515 wd_516 wd_517 dX12_sumUp_1 rfl)) (am_lf_ok (fun _ => ok_if_ne dX12_sumUp_4 rfl rfl)))) (am_nd_ok (am_lf_ok (fun _ => ok_iconst dX12_sumUp_7 cv_iconst_0 rfl)) (am_nd_ok (am_lf_ok (fun _ => ok_zret rfl dX12_sumUp_8)) (am_lf_ok (fun _ => ok_aload_n dX12_sumUp_9 rfl rfl))))) (am_nd_ok (am_nd_ok (am_lf_ok (fun _ => ok_get (C := RX12) (TT := TX12) (N := 31) rfl inw_X12 (Nat.le_of_ble_eq_true rfl) wd_495 dX12_sumUp_10 rfl)) (am_nd_ok (am_lf_ok (fun _ => ok_sipush dX12_sumUp_13 cv_sipush_143 rfl)) (am_lf_ok (fun _ => ok_cmp_eq dX12_sumUp_16 rfl rfl)))) (am_nd_ok (am_lf_ok (fun _ => ok_aload_n dX12_sumUp_19 rfl rfl)) (am_nd_ok (am_lf_ok (fun _ => ok_get (C := RX12) (TT := TX12) (N := 31) rfl inw_X12 (Nat.le_of_ble_eq_true rfl) wd_495 dX12_sumUp_20 rfl)) (am_lf_ok (fun _ => ok_sipush dX12_sumUp_23 cv_sipush_145 rfl)))))) (am_nd_ok (am_nd_ok (am_nd_ok (am_lf_ok (fun _ => ok_cmp_ne dX12_sumUp_26 rfl rfl)) (am_nd_ok (am_lf_ok (fun _ => ok_aload_n dX12_sumUp_29 rfl rfl)) (am_lf_ok (fun _ => ok_get (C := RX12) (TT := TX12) (N := 31) rfl inw_X12 (Nat.le_of_ble_eq_true rfl) wd_495 dX12_sumUp_30 rfl)))) (am_nd_ok (am_lf_ok (fun _ => ok_sipush dX12_sumUp_33 cv_sipush_143 rfl)) (am_nd_ok (am_lf_ok (fun _ => ok_cmp_ne dX12_sumUp_36 rfl rfl)) (am_lf_ok (fun _ => ok_bipush dX12_sumUp_39 cv_bipush_13 rfl))))) (am_nd_ok (am_nd_ok (am_lf_ok (fun _ => ok_goto dX12_sumUp_41 rfl)) (am_nd_ok (am_lf_ok (fun _ => ok_bipush dX12_sumUp_44 cv_bipush_14 rfl)) (am_lf_ok (fun _ => ok_istore_n dX12_sumUp_46 rfl (Nat.le_of_ble_eq_true rfl) rfl)))) (am_nd_ok (am_lf_ok (fun _ => ok_aload_n dX12_sumUp_47 rfl rfl)) (am_nd_ok (am_lf_ok (fun _ => ok_cvV rfl mw_X12_next0 (ci := 12) rfl rfl wd_509 wd_510 wd_511 dX12_sumUp_48 rfl)) (am_lf_ok (fun _ => ok_aload_n dX12_sumUp_51 rfl rfl))))))
def tX12_sumUp_1 : Nat → Option am_Act := am_nd 61 (am_nd 58 (am_nd 55 (am_lf 52 (a_cvI tT mX12_product 12 0 55)) (am_lf 55 (a_if (fun x => x = nI 0) 58 60))) (am_nd 59 (am_lf 58 (a_const (nI 0) 59)) (am_nd 60 (am_lf 59 (a_zret)) (am_lf 60 (a_aload 0 61))))) (am_nd 66 (am_nd 62 (am_lf 61 (a_iload 1 62)) (am_nd 63 (am_lf 62 (a_const (nI 0) 63)) (am_lf 63 (a_cvV tT mX12_lay 12 2 66)))) (am_nd 69 (am_lf 66 (a_goto 9)) (am_nd 70 (am_lf 69 (a_const (nI 1) 70)) (am_lf 70 (a_zret)))))
theorem gX12_sumUp_1 : am_Good tT mX12_sumUp tX12_sumUp_1 := am_nd_ok (am_nd_ok (am_nd_ok (am_lf_ok (fun _ => ok_cvI rfl mw_X12_product (ci := 12) rfl rfl wd_515 wd_516 wd_517 dX12_sumUp_52 rfl)) (am_lf_ok (fun _ => ok_if_ne dX12_sumUp_55 rfl rfl))) (am_nd_ok (am_lf_ok (fun _ => ok_iconst dX12_sumUp_58 cv_iconst_0 rfl)) (am_nd_ok (am_lf_ok (fun _ => ok_zret rfl dX12_sumUp_59)) (am_lf_ok (fun _ => ok_aload_n dX12_sumUp_60 rfl rfl))))) (am_nd_ok (am_nd_ok (am_lf_ok (fun _ => ok_iload_n dX12_sumUp_61 rfl rfl)) (am_nd_ok (am_lf_ok (fun _ => ok_iconst dX12_sumUp_62 cv_iconst_0 rfl)) (am_lf_ok (fun _ => ok_cvV rfl mw_X12_lay (ci := 12) rfl rfl wd_518 wd_519 wd_520 dX12_sumUp_63 rfl)))) (am_nd_ok (am_lf_ok (fun _ => ok_goto dX12_sumUp_66 rfl)) (am_nd_ok (am_lf_ok (fun _ => ok_iconst dX12_sumUp_69 cv_iconst_1 rfl)) (am_lf_ok (fun _ => ok_zret rfl dX12_sumUp_70)))))
def tX12_sumUp : Nat → Option am_Act := am_nd 52 (tX12_sumUp_0) (tX12_sumUp_1)
theorem gX12_sumUp : am_Good tT mX12_sumUp tX12_sumUp := am_nd_ok (gX12_sumUp_0) (gX12_sumUp_1)
theorem dX12_product_0 : decode cX12_product 0 = .ok (.aload_n 0, 1) := by decide +kernel
theorem dX12_product_1 : decode cX12_product 1 = .ok (.invokevirtual 194, 3) := by decide +kernel
theorem dX12_product_4 : decode cX12_product 4 = .ok (.ifCond .ne 5, 3) := by decide +kernel
theorem dX12_product_7 : decode cX12_product 7 = .ok (.iconst 0, 1) := by decide +kernel
theorem dX12_product_8 : decode cX12_product 8 = .ok (.ireturn, 1) := by decide +kernel
theorem dX12_product_9 : decode cX12_product 9 = .ok (.aload_n 0, 1) := by decide +kernel
theorem dX12_product_10 : decode cX12_product 10 = .ok (.getfield 154, 3) := by decide +kernel
theorem dX12_product_13 : decode cX12_product 13 = .ok (.sipush 142, 3) := by decide +kernel
theorem dX12_product_16 : decode cX12_product 16 = .ok (.if_icmp .eq 13, 3) := by decide +kernel
theorem dX12_product_19 : decode cX12_product 19 = .ok (.aload_n 0, 1) := by decide +kernel
theorem dX12_product_20 : decode cX12_product 20 = .ok (.getfield 154, 3) := by decide +kernel
theorem dX12_product_23 : decode cX12_product 23 = .ok (.sipush 147, 3) := by decide +kernel
theorem dX12_product_26 : decode cX12_product 26 = .ok (.if_icmp .ne 89, 3) := by decide +kernel
theorem dX12_product_29 : decode cX12_product 29 = .ok (.aload_n 0, 1) := by decide +kernel
theorem dX12_product_30 : decode cX12_product 30 = .ok (.getfield 154, 3) := by decide +kernel
theorem dX12_product_33 : decode cX12_product 33 = .ok (.sipush 147, 3) := by decide +kernel
theorem dX12_product_36 : decode cX12_product 36 = .ok (.if_icmp .ne 7, 3) := by decide +kernel
theorem dX12_product_39 : decode cX12_product 39 = .ok (.iconst 1, 1) := by decide +kernel
theorem dX12_product_40 : decode cX12_product 40 = .ok (.goto 4, 3) := by decide +kernel
theorem dX12_product_43 : decode cX12_product 43 = .ok (.iconst 0, 1) := by decide +kernel
theorem dX12_product_44 : decode cX12_product 44 = .ok (.istore_n 1, 1) := by decide +kernel
theorem dX12_product_45 : decode cX12_product 45 = .ok (.aload_n 0, 1) := by decide +kernel
theorem dX12_product_46 : decode cX12_product 46 = .ok (.invokevirtual 178, 3) := by decide +kernel
theorem dX12_product_49 : decode cX12_product 49 = .ok (.iload_n 1, 1) := by decide +kernel
theorem dX12_product_50 : decode cX12_product 50 = .ok (.ifCond .eq 46, 3) := by decide +kernel
theorem dX12_product_53 : decode cX12_product 53 = .ok (.aload_n 0, 1) := by decide +kernel
theorem dX12_product_54 : decode cX12_product 54 = .ok (.getfield 166, 3) := by decide +kernel
theorem dX12_product_57 : decode cX12_product 57 = .ok (.istore_n 2, 1) := by decide +kernel
theorem dX12_product_58 : decode cX12_product 58 = .ok (.aload_n 0, 1) := by decide +kernel
theorem dX12_product_59 : decode cX12_product 59 = .ok (.getfield 154, 3) := by decide +kernel
theorem dX12_product_62 : decode cX12_product 62 = .ok (.iconst 2, 1) := by decide +kernel
theorem dX12_product_63 : decode cX12_product 63 = .ok (.if_icmp .eq 9, 3) := by decide +kernel
theorem dX12_product_66 : decode cX12_product 66 = .ok (.aload_n 0, 1) := by decide +kernel
theorem dX12_product_67 : decode cX12_product 67 = .ok (.iconst 1, 1) := by decide +kernel
theorem dX12_product_68 : decode cX12_product 68 = .ok (.invokevirtual 175, 3) := by decide +kernel
theorem dX12_product_71 : decode cX12_product 71 = .ok (.ireturn, 1) := by decide +kernel
theorem dX12_product_72 : decode cX12_product 72 = .ok (.iload_n 2, 1) := by decide +kernel
theorem dX12_product_73 : decode cX12_product 73 = .ok (.ifCond .ne 9, 3) := by decide +kernel
theorem dX12_product_76 : decode cX12_product 76 = .ok (.aload_n 0, 1) := by decide +kernel
theorem dX12_product_77 : decode cX12_product 77 = .ok (.iconst 2, 1) := by decide +kernel
theorem dX12_product_78 : decode cX12_product 78 = .ok (.invokevirtual 175, 3) := by decide +kernel
theorem dX12_product_81 : decode cX12_product 81 = .ok (.ireturn, 1) := by decide +kernel
theorem dX12_product_82 : decode cX12_product 82 = .ok (.aload_n 0, 1) := by decide +kernel
theorem dX12_product_83 : decode cX12_product 83 = .ok (.invokevirtual 178, 3) := by decide +kernel
theorem dX12_product_86 : decode cX12_product 86 = .ok (.aload_n 0, 1) := by decide +kernel
theorem dX12_product_87 : decode cX12_product 87 = .ok (.bipush 16, 2) := by decide +kernel
theorem dX12_product_89 : decode cX12_product 89 = .ok (.iload_n 2, 1) := by decide +kernel
theorem dX12_product_90 : decode cX12_product 90 = .ok (.invokevirtual 191, 3) := by decide +kernel
theorem dX12_product_93 : decode cX12_product 93 = .ok (.goto 19, 3) := by decide +kernel
theorem dX12_product_96 : decode cX12_product 96 = .ok (.aload_n 0, 1) := by decide +kernel
theorem dX12_product_97 : decode cX12_product 97 = .ok (.invokevirtual 194, 3) := by decide +kernel
theorem dX12_product_100 : decode cX12_product 100 = .ok (.ifCond .ne 5, 3) := by decide +kernel
theorem dX12_product_103 : decode cX12_product 103 = .ok (.iconst 0, 1) := by decide +kernel
theorem dX12_product_104 : decode cX12_product 104 = .ok (.ireturn, 1) := by decide +kernel
theorem dX12_product_105 : decode cX12_product 105 = .ok (.aload_n 0, 1) := by decide +kernel
theorem dX12_product_106 : decode cX12_product 106 = .ok (.bipush 15, 2) := by decide +kernel
theorem dX12_product_108 : decode cX12_product 108 = .ok (.iconst 0, 1) := by decide +kernel
theorem dX12_product_109 : decode cX12_product 109 = .ok (.invokevirtual 191, 3) := by decide +kernel
theorem dX12_product_112 : decode cX12_product 112 = .ok (.goto (-103), 3) := by decide +kernel
theorem dX12_product_115 : decode cX12_product 115 = .ok (.iconst 1, 1) := by decide +kernel
theorem dX12_product_116 : decode cX12_product 116 = .ok (.ireturn, 1) := by decide +kernel
def tX12_product_0 : Nat → Option am_Act := am_nd 26 (am_nd 10 (am_nd 7 (am_nd 1 (am_lf 0 (a_aload 0 1)) (am_nd 4 (am_lf 1 (a_cvI tT mX12_unit 12 0 4)) (am_lf 4 (a_if (fun x => x = nI 0) 7 9)))) (am_nd 8 (am_lf 7 (a_const (nI 0) 8)) (am_nd 9 (am_lf 8 (a_zret)) (am_lf 9 (a_aload 0 10))))) (am_nd 19 (am_nd 13 (am_lf 10 (a_get tT 12 15 13)) (am_nd 16 (am_lf 13 (a_const (nI 142) 16)) (am_lf 16 (a_cmp (fun x y => x = y) 29 19)))) (am_nd 20 (am_lf 19 (a_aload 0 20)) (am_nd 23 (am_lf 20 (a_get tT 12 15 23)) (am_lf 23 (a_const (nI 147) 26)))))) (am_nd 40 (am_nd 33 (am_nd 29 (am_lf 26 (a_cmp (fun x y => x = y) 29 115)) (am_nd 30 (am_lf 29 (a_aload 0 30)) (am_lf 30 (a_get tT 12 15 33)))) (am_nd 36 (am_lf 33 (a_const (nI 147) 36)) (am_nd 39 (am_lf 36 (a_cmp (fun x y => x = y) 39 43)) (am_lf 39 (a_const (nI 1) 40))))) (am_nd 45 (am_nd 43 (am_lf 40 (a_goto 44)) (am_nd 44 (am_lf 43 (a_const (nI 0) 44)) (am_lf 44 (a_istore 1 45)))) (am_nd 46 (am_lf 45 (a_aload 0 46)) (am_nd 49 (am_lf 46 (a_cvV tT mX12_next0 12 0 49)) (am_lf 49 (a_iload 1 50))))))
theorem gX12_product_0 : am_Good tT mX12_product tX12_product_0 := am_nd_ok (am_nd_ok (am_nd_ok (am_nd_ok (am_lf_ok (fun _ => ok_aload_n dX12_product_0 rfl rfl)) (am_nd_ok (am_lf_ok (fun _ => ok_cvI rfl mw_X12_unit (ci := 12) rfl rfl wd_521 wd_522 wd_523 dX12_product_1 rfl)) (am_lf_ok (fun _ => ok_if_ne dX12_product_4 rfl rfl)))) (am_nd_ok (am_lf_ok (fun _ => ok_iconst dX12_product_7 cv_iconst_0 rfl)) (am_nd_ok (am_lf_ok (fun _ => ok_zret rfl dX12_product_8)) (am_lf_ok (fun _ => ok_aload_n dX12_product_9 rfl rfl))))) (am_nd_ok (am_nd_ok (am_lf_ok (fun _ => ok_get (C := RX12) (TT := TX12) (N := 31) rfl inw_X12 (Nat.le_of_ble_eq_true rfl) wd_495 dX12_product_10 rfl)) (am_nd_ok (am_lf_ok (fun _ => ok_sipush dX12_product_13 cv_sipush_142 rfl)) (am_lf_ok (fun _ => ok_cmp_eq dX12_product_16 rfl rfl)))) (am_nd_ok (am_lf_ok (fun _ => ok_aload_n dX12_product_19 rfl rfl)) (am_nd_ok (am_lf_ok (fun _ => ok_get (C := RX12) (TT := TX12) (N := 31) rfl inw_X12 (Nat.le_of_ble_eq_true rfl) wd_495 dX12_product_20 rfl)) (am_lf_ok (fun _ => ok_sipush dX12_product_23 cv_sipush_147 rfl)))))) (am_nd_ok (am_nd_ok (am_nd_ok (am_lf_ok (fun _ => ok_cmp_ne dX12_product_26 rfl rfl)) (am_nd_ok (am_lf_ok (fun _ => ok_aload_n dX12_product_29 rfl rfl)) (am_lf_ok (fun _ => ok_get (C := RX12) (TT := TX12) (N := 31) rfl inw_X12 (Nat.le_of_ble_eq_true rfl) wd_495 dX12_product_30 rfl)))) (am_nd_ok (am_lf_ok (fun _ => ok_sipush dX12_product_33 cv_sipush_147 rfl)) (am_nd_ok (am_lf_ok (fun _ => ok_cmp_ne dX12_product_36 rfl rfl)) (am_lf_ok (fun _ => ok_iconst dX12_product_39 cv_iconst_1 rfl))))) (am_nd_ok (am_nd_ok (am_lf_ok (fun _ => ok_goto dX12_product_40 rfl)) (am_nd_ok (am_lf_ok (fun _ => ok_iconst dX12_product_43 cv_iconst_0 rfl)) (am_lf_ok (fun _ => ok_istore_n dX12_product_44 rfl (Nat.le_of_ble_eq_true rfl) rfl)))) (am_nd_ok (am_lf_ok (fun _ => ok_aload_n dX12_product_45 rfl rfl)) (am_nd_ok (am_lf_ok (fun _ => ok_cvV rfl mw_X12_next0 (ci := 12) rfl rfl wd_509 wd_510 wd_511 dX12_product_46 rfl)) (am_lf_ok (fun _ => ok_iload_n dX12_product_49 rfl rfl))))))
def tX12_product_1 : Nat → Option am_Act := am_nd 72 (am_nd 62 (am_nd 57 (am_nd 53 (am_lf 50 (a_if (fun x => x = nI 0) 96 53)) (am_nd 54 (am_lf 53 (a_aload 0 54)) (am_lf 54 (a_get tT 12 17 57)))) (am_nd 58 (am_lf 57 (a_istore 2 58)) (am_nd 59 (am_lf 58 (a_aload 0 59)) (am_lf 59 (a_get tT 12 15 62))))) (am_nd 67 (am_nd 63 (am_lf 62 (a_const (nI 2) 63)) (am_nd 66 (am_lf 63 (a_cmp (fun x y => x = y) 72 66)) (am_lf 66 (a_aload 0 67)))) (am_nd 68 (am_lf 67 (a_const (nI 1) 68)) (am_nd 71 (am_lf 68 (a_cvI tT mX12_bad 12 1 71)) (am_lf 71 (a_zret)))))) (am_nd 82 (am_nd 77 (am_nd 73 (am_lf 72 (a_iload 2 73)) (am_nd 76 (am_lf 73 (a_if (fun x => x = nI 0) 76 82)) (am_lf 76 (a_aload 0 77)))) (am_nd 78 (am_lf 77 (a_const (nI 2) 78)) (am_nd 81 (am_lf 78 (a_cvI tT mX12_bad 12 1 81)) (am_lf 81 (a_zret))))) (am_nd 87 (am_nd 83 (am_lf 82 (a_aload 0 83)) (am_nd 86 (am_lf 83 (a_cvV tT mX12_next0 12 0 86)) (am_lf 86 (a_aload 0 87)))) (am_nd 89 (am_lf 87 (a_const (nI 16) 89)) (am_nd 90 (am_lf 89 (a_iload 2 90)) (am_lf 90 (a_cvV tT mX12_lay 12 2 93))))))
theorem gX12_product_1 : am_Good tT mX12_product tX12_product_1 := am_nd_ok (am_nd_ok (am_nd_ok (am_nd_ok (am_lf_ok (fun _ => ok_if_eq dX12_product_50 rfl rfl)) (am_nd_ok (am_lf_ok (fun _ => ok_aload_n dX12_product_53 rfl rfl)) (am_lf_ok (fun _ => ok_get (C := RX12) (TT := TX12) (N := 31) rfl inw_X12 (Nat.le_of_ble_eq_true rfl) wd_503 dX12_product_54 rfl)))) (am_nd_ok (am_lf_ok (fun _ => ok_istore_n dX12_product_57 rfl (Nat.le_of_ble_eq_true rfl) rfl)) (am_nd_ok (am_lf_ok (fun _ => ok_aload_n dX12_product_58 rfl rfl)) (am_lf_ok (fun _ => ok_get (C := RX12) (TT := TX12) (N := 31) rfl inw_X12 (Nat.le_of_ble_eq_true rfl) wd_495 dX12_product_59 rfl))))) (am_nd_ok (am_nd_ok (am_lf_ok (fun _ => ok_iconst dX12_product_62 cv_iconst_2 rfl)) (am_nd_ok (am_lf_ok (fun _ => ok_cmp_eq dX12_product_63 rfl rfl)) (am_lf_ok (fun _ => ok_aload_n dX12_product_66 rfl rfl)))) (am_nd_ok (am_lf_ok (fun _ => ok_iconst dX12_product_67 cv_iconst_1 rfl)) (am_nd_ok (am_lf_ok (fun _ => ok_cvI rfl mw_X12_bad (ci := 12) rfl rfl wd_506 wd_507 wd_508 dX12_product_68 rfl)) (am_lf_ok (fun _ => ok_zret rfl dX12_product_71)))))) (am_nd_ok (am_nd_ok (am_nd_ok (am_lf_ok (fun _ => ok_iload_n dX12_product_72 rfl rfl)) (am_nd_ok (am_lf_ok (fun _ => ok_if_ne dX12_product_73 rfl rfl)) (am_lf_ok (fun _ => ok_aload_n dX12_product_76 rfl rfl)))) (am_nd_ok (am_lf_ok (fun _ => ok_iconst dX12_product_77 cv_iconst_2 rfl)) (am_nd_ok (am_lf_ok (fun _ => ok_cvI rfl mw_X12_bad (ci := 12) rfl rfl wd_506 wd_507 wd_508 dX12_product_78 rfl)) (am_lf_ok (fun _ => ok_zret rfl dX12_product_81))))) (am_nd_ok (am_nd_ok (am_lf_ok (fun _ => ok_aload_n dX12_product_82 rfl rfl)) (am_nd_ok (am_lf_ok (fun _ => ok_cvV rfl mw_X12_next0 (ci := 12) rfl rfl wd_509 wd_510 wd_511 dX12_product_83 rfl)) (am_lf_ok (fun _ => ok_aload_n dX12_product_86 rfl rfl)))) (am_nd_ok (am_lf_ok (fun _ => ok_bipush dX12_product_87 cv_bipush_16 rfl)) (am_nd_ok (am_lf_ok (fun _ => ok_iload_n dX12_product_89 rfl rfl)) (am_lf_ok (fun _ => ok_cvV rfl mw_X12_lay (ci := 12) rfl rfl wd_518 wd_519 wd_520 dX12_product_90 rfl))))))
def tX12_product_2 : Nat → Option am_Act := am_nd 105 (am_nd 100 (am_nd 96 (am_lf 93 (a_goto 112)) (am_nd 97 (am_lf 96 (a_aload 0 97)) (am_lf 97 (a_cvI tT mX12_unit 12 0 100)))) (am_nd 103 (am_lf 100 (a_if (fun x => x = nI 0) 103 105)) (am_nd 104 (am_lf 103 (a_const (nI 0) 104)) (am_lf 104 (a_zret))))) (am_nd 109 (am_nd 106 (am_lf 105 (a_aload 0 106)) (am_nd 108 (am_lf 106 (a_const (nI 15) 108)) (am_lf 108 (a_const (nI 0) 109)))) (am_nd 115 (am_nd 112 (am_lf 109 (a_cvV tT mX12_lay 12 2 112)) (am_lf 112 (a_goto 9))) (am_nd 116 (am_lf 115 (a_const (nI 1) 116)) (am_lf 116 (a_zret)))))
theorem gX12_product_2 : am_Good tT mX12_product tX12_product_2 := am_nd_ok (am_nd_ok (am_nd_ok (am_lf_ok (fun _ => ok_goto dX12_product_93 rfl)) (am_nd_ok (am_lf_ok (fun _ => ok_aload_n dX12_product_96 rfl rfl)) (am_lf_ok (fun _ => ok_cvI rfl mw_X12_unit (ci := 12) rfl rfl wd_521 wd_522 wd_523 dX12_product_97 rfl)))) (am_nd_ok (am_lf_ok (fun _ => ok_if_ne dX12_product_100 rfl rfl)) (am_nd_ok (am_lf_ok (fun _ => ok_iconst dX12_product_103 cv_iconst_0 rfl)) (am_lf_ok (fun _ => ok_zret rfl dX12_product_104))))) (am_nd_ok (am_nd_ok (am_lf_ok (fun _ => ok_aload_n dX12_product_105 rfl rfl)) (am_nd_ok (am_lf_ok (fun _ => ok_bipush dX12_product_106 cv_bipush_15 rfl)) (am_lf_ok (fun _ => ok_iconst dX12_product_108 cv_iconst_0 rfl)))) (am_nd_ok (am_nd_ok (am_lf_ok (fun _ => ok_cvV rfl mw_X12_lay (ci := 12) rfl rfl wd_518 wd_519 wd_520 dX12_product_109 rfl)) (am_lf_ok (fun _ => ok_goto dX12_product_112 rfl))) (am_nd_ok (am_lf_ok (fun _ => ok_iconst dX12_product_115 cv_iconst_1 rfl)) (am_lf_ok (fun _ => ok_zret rfl dX12_product_116)))))
def tX12_product : Nat → Option am_Act := am_nd 50 (tX12_product_0) (am_nd 93 (tX12_product_1) (tX12_product_2))
theorem gX12_product : am_Good tT mX12_product tX12_product := am_nd_ok (gX12_product_0) (am_nd_ok (gX12_product_1) (gX12_product_2))
theorem dX12_unit_0 : decode cX12_unit 0 = .ok (.aload_n 0, 1) := by decide +kernel
theorem dX12_unit_1 : decode cX12_unit 1 = .ok (.getfield 154, 3) := by decide +kernel
theorem dX12_unit_4 : decode cX12_unit 4 = .ok (.bipush 41, 2) := by decide +kernel
theorem dX12_unit_6 : decode cX12_unit 6 = .ok (.bipush 48, 2) := by decide +kernel
theorem dX12_unit_8 : decode cX12_unit 8 = .ok (.invokestatic 56, 3) := by decide +kernel
theorem dX12_unit_11 : decode cX12_unit 11 = .ok (.istore_n 1, 1) := by decide +kernel
theorem dX12_unit_12 : decode cX12_unit 12 = .ok (.aload_n 0, 1) := by decide +kernel
theorem dX12_unit_13 : decode cX12_unit 13 = .ok (.getfield 154, 3) := by decide +kernel
theorem dX12_unit_16 : decode cX12_unit 16 = .ok (.iconst 2, 1) := by decide +kernel
theorem dX12_unit_17 : decode cX12_unit 17 = .ok (.if_icmp .eq 13, 3) := by decide +kernel
theorem dX12_unit_20 : decode cX12_unit 20 = .ok (.iload_n 1, 1) := by decide +kernel
theorem dX12_unit_21 : decode cX12_unit 21 = .ok (.ifCond .ne 9, 3) := by decide +kernel
theorem dX12_unit_24 : decode cX12_unit 24 = .ok (.aload_n 0, 1) := by decide +kernel
theorem dX12_unit_25 : decode cX12_unit 25 = .ok (.iconst 1, 1) := by decide +kernel
theorem dX12_unit_26 : decode cX12_unit 26 = .ok (.invokevirtual 175, 3) := by decide +kernel
theorem dX12_unit_29 : decode cX12_unit 29 = .ok (.ireturn, 1) := by decide +kernel
theorem dX12_unit_30 : decode cX12_unit 30 = .ok (.aload_n 0, 1) := by decide +kernel
theorem dX12_unit_31 : decode cX12_unit 31 = .ok (.iload_n 1, 1) := by decide +kernel
theorem dX12_unit_32 : decode cX12_unit 32 = .ok (.ifCond .eq 13, 3) := by decide +kernel
theorem dX12_unit_35 : decode cX12_unit 35 = .ok (.aload_n 0, 1) := by decide +kernel
theorem dX12_unit_36 : decode cX12_unit 36 = .ok (.getfield 154, 3) := by decide +kernel
theorem dX12_unit_39 : decode cX12_unit 39 = .ok (.bipush 40, 2) := by decide +kernel
theorem dX12_unit_41 : decode cX12_unit 41 = .ok (.isub, 1) := by decide +kernel
theorem dX12_unit_42 : decode cX12_unit 42 = .ok (.goto 4, 3) := by decide +kernel
theorem dX12_unit_45 : decode cX12_unit 45 = .ok (.iconst 0, 1) := by decide +kernel
theorem dX12_unit_46 : decode cX12_unit 46 = .ok (.aload_n 0, 1) := by decide +kernel
theorem dX12_unit_47 : decode cX12_unit 47 = .ok (.getfield 166, 3) := by decide +kernel
theorem dX12_unit_50 : decode cX12_unit 50 = .ok (.invokevirtual 191, 3) := by decide +kernel
theorem dX12_unit_53 : decode cX12_unit 53 = .ok (.aload_n 0, 1) := by decide +kernel
theorem dX12_unit_54 : decode cX12_unit 54 = .ok (.invokevirtual 178, 3) := by decide +kernel
theorem dX12_unit_57 : decode cX12_unit 57 = .ok (.iconst 1, 1) := by decide +kernel
theorem dX12_unit_58 : decode cX12_unit 58 = .ok (.ireturn, 1) := by decide +kernel
def tX12_unit_0 : Nat → Option am_Act := am_nd 24 (am_nd 12 (am_nd 6 (am_nd 1 (am_lf 0 (a_aload 0 1)) (am_nd 4 (am_lf 1 (a_get tT 12 15 4)) (am_lf 4 (a_const (nI 41) 6)))) (am_nd 8 (am_lf 6 (a_const (nI 48) 8)) (am_nd 11 (am_lf 8 (a_csI mX12_isIn 3 11)) (am_lf 11 (a_istore 1 12))))) (am_nd 17 (am_nd 13 (am_lf 12 (a_aload 0 13)) (am_nd 16 (am_lf 13 (a_get tT 12 15 16)) (am_lf 16 (a_const (nI 2) 17)))) (am_nd 20 (am_lf 17 (a_cmp (fun x y => x = y) 30 20)) (am_nd 21 (am_lf 20 (a_iload 1 21)) (am_lf 21 (a_if (fun x => x = nI 0) 24 30)))))) (am_nd 32 (am_nd 29 (am_nd 25 (am_lf 24 (a_aload 0 25)) (am_nd 26 (am_lf 25 (a_const (nI 1) 26)) (am_lf 26 (a_cvI tT mX12_bad 12 1 29)))) (am_nd 30 (am_lf 29 (a_zret)) (am_nd 31 (am_lf 30 (a_aload 0 31)) (am_lf 31 (a_iload 1 32))))) (am_nd 39 (am_nd 35 (am_lf 32 (a_if (fun x => x = nI 0) 45 35)) (am_nd 36 (am_lf 35 (a_aload 0 36)) (am_lf 36 (a_get tT 12 15 39)))) (am_nd 41 (am_lf 39 (a_const (nI 40) 41)) (am_nd 42 (am_lf 41 (a_bin (fun x y => x - y) 42)) (am_lf 42 (a_goto 46))))))
theorem gX12_unit_0 : am_Good tT mX12_unit tX12_unit_0 := am_nd_ok (am_nd_ok (am_nd_ok (am_nd_ok (am_lf_ok (fun _ => ok_aload_n dX12_unit_0 rfl rfl)) (am_nd_ok (am_lf_ok (fun _ => ok_get (C := RX12) (TT := TX12) (N := 31) rfl inw_X12 (Nat.le_of_ble_eq_true rfl) wd_495 dX12_unit_1 rfl)) (am_lf_ok (fun _ => ok_bipush dX12_unit_4 cv_bipush_41 rfl)))) (am_nd_ok (am_lf_ok (fun _ => ok_bipush dX12_unit_6 cv_bipush_48 rfl)) (am_nd_ok (am_lf_ok (fun _ => ok_csI rfl mw_X12_isIn wd_449 wd_450 dX12_unit_8 rfl)) (am_lf_ok (fun _ => ok_istore_n dX12_unit_11 rfl (Nat.le_of_ble_eq_true rfl) rfl))))) (am_nd_ok (am_nd_ok (am_lf_ok (fun _ => ok_aload_n dX12_unit_12 rfl rfl)) (am_nd_ok (am_lf_ok (fun _ => ok_get (C := RX12) (TT := TX12) (N := 31) rfl inw_X12 (Nat.le_of_ble_eq_true rfl) wd_495 dX12_unit_13 rfl)) (am_lf_ok (fun _ => ok_iconst dX12_unit_16 cv_iconst_2 rfl)))) (am_nd_ok (am_lf_ok (fun _ => ok_cmp_eq dX12_unit_17 rfl rfl)) (am_nd_ok (am_lf_ok (fun _ => ok_iload_n dX12_unit_20 rfl rfl)) (am_lf_ok (fun _ => ok_if_ne dX12_unit_21 rfl rfl)))))) (am_nd_ok (am_nd_ok (am_nd_ok (am_lf_ok (fun _ => ok_aload_n dX12_unit_24 rfl rfl)) (am_nd_ok (am_lf_ok (fun _ => ok_iconst dX12_unit_25 cv_iconst_1 rfl)) (am_lf_ok (fun _ => ok_cvI rfl mw_X12_bad (ci := 12) rfl rfl wd_506 wd_507 wd_508 dX12_unit_26 rfl)))) (am_nd_ok (am_lf_ok (fun _ => ok_zret rfl dX12_unit_29)) (am_nd_ok (am_lf_ok (fun _ => ok_aload_n dX12_unit_30 rfl rfl)) (am_lf_ok (fun _ => ok_iload_n dX12_unit_31 rfl rfl))))) (am_nd_ok (am_nd_ok (am_lf_ok (fun _ => ok_if_eq dX12_unit_32 rfl rfl)) (am_nd_ok (am_lf_ok (fun _ => ok_aload_n dX12_unit_35 rfl rfl)) (am_lf_ok (fun _ => ok_get (C := RX12) (TT := TX12) (N := 31) rfl inw_X12 (Nat.le_of_ble_eq_true rfl) wd_495 dX12_unit_36 rfl)))) (am_nd_ok (am_lf_ok (fun _ => ok_bipush dX12_unit_39 cv_bipush_40 rfl)) (am_nd_ok (am_lf_ok (fun _ => ok_isub dX12_unit_41 rfl)) (am_lf_ok (fun _ => ok_goto dX12_unit_42 rfl))))))
def tX12_unit_1 : Nat → Option am_Act := am_nd 53 (am_nd 47 (am_nd 46 (am_lf 45 (a_const (nI 0) 46)) (am_lf 46 (a_aload 0 47))) (am_nd 50 (am_lf 47 (a_get tT 12 17 50)) (am_lf 50 (a_cvV tT mX12_lay 12 2 53)))) (am_nd 57 (am_nd 54 (am_lf 53 (a_aload 0 54)) (am_lf 54 (a_cvV tT mX12_next0 12 0 57))) (am_nd 58 (am_lf 57 (a_const (nI 1) 58)) (am_lf 58 (a_zret))))
theorem gX12_unit_1 : am_Good tT mX12_unit tX12_unit_1 := am_nd_ok (am_nd_ok (am_nd_ok (am_lf_ok (fun _ => ok_iconst dX12_unit_45 cv_iconst_0 rfl)) (am_lf_ok (fun _ => ok_aload_n dX12_unit_46 rfl rfl))) (am_nd_ok (am_lf_ok (fun _ => ok_get (C := RX12) (TT := TX12) (N := 31) rfl inw_X12 (Nat.le_of_ble_eq_true rfl) wd_503 dX12_unit_47 rfl)) (am_lf_ok (fun _ => ok_cvV rfl mw_X12_lay (ci := 12) rfl rfl wd_518 wd_519 wd_520 dX12_unit_50 rfl)))) (am_nd_ok (am_nd_ok (am_lf_ok (fun _ => ok_aload_n dX12_unit_53 rfl rfl)) (am_lf_ok (fun _ => ok_cvV rfl mw_X12_next0 (ci := 12) rfl rfl wd_509 wd_510 wd_511 dX12_unit_54 rfl))) (am_nd_ok (am_lf_ok (fun _ => ok_iconst dX12_unit_57 cv_iconst_1 rfl)) (am_lf_ok (fun _ => ok_zret rfl dX12_unit_58))))
def tX12_unit : Nat → Option am_Act := am_nd 45 (tX12_unit_0) (tX12_unit_1)
theorem gX12_unit : am_Good tT mX12_unit tX12_unit := am_nd_ok (gX12_unit_0) (gX12_unit_1)
theorem dX12_any_0 : decode cX12_any 0 = .ok (.aload_n 0, 1) := by decide +kernel
theorem dX12_any_1 : decode cX12_any 1 = .ok (.invokevirtual 197, 3) := by decide +kernel
theorem dX12_any_4 : decode cX12_any 4 = .ok (.ifCond .ne 5, 3) := by decide +kernel
theorem dX12_any_7 : decode cX12_any 7 = .ok (.iconst 0, 1) := by decide +kernel
theorem dX12_any_8 : decode cX12_any 8 = .ok (.ireturn, 1) := by decide +kernel
theorem dX12_any_9 : decode cX12_any 9 = .ok (.aload_n 0, 1) := by decide +kernel
theorem dX12_any_10 : decode cX12_any 10 = .ok (.getfield 154, 3) := by decide +kernel
theorem dX12_any_13 : decode cX12_any 13 = .ok (.iconst 4, 1) := by decide +kernel
theorem dX12_any_14 : decode cX12_any 14 = .ok (.if_icmp .ne 26, 3) := by decide +kernel
theorem dX12_any_17 : decode cX12_any 17 = .ok (.aload_n 0, 1) := by decide +kernel
theorem dX12_any_18 : decode cX12_any 18 = .ok (.invokevirtual 178, 3) := by decide +kernel
theorem dX12_any_21 : decode cX12_any 21 = .ok (.aload_n 0, 1) := by decide +kernel
theorem dX12_any_22 : decode cX12_any 22 = .ok (.invokevirtual 197, 3) := by decide +kernel
theorem dX12_any_25 : decode cX12_any 25 = .ok (.ifCond .ne 5, 3) := by decide +kernel
theorem dX12_any_28 : decode cX12_any 28 = .ok (.iconst 0, 1) := by decide +kernel
theorem dX12_any_29 : decode cX12_any 29 = .ok (.ireturn, 1) := by decide +kernel
theorem dX12_any_30 : decode cX12_any 30 = .ok (.aload_n 0, 1) := by decide +kernel
theorem dX12_any_31 : decode cX12_any 31 = .ok (.bipush 22, 2) := by decide +kernel
theorem dX12_any_33 : decode cX12_any 33 = .ok (.iconst 0, 1) := by decide +kernel
theorem dX12_any_34 : decode cX12_any 34 = .ok (.invokevirtual 191, 3) := by decide +kernel
theorem dX12_any_37 : decode cX12_any 37 = .ok (.goto (-28), 3) := by decide +kernel
theorem dX12_any_40 : decode cX12_any 40 = .ok (.iconst 1, 1) := by decide +kernel
theorem dX12_any_41 : decode cX12_any 41 = .ok (.ireturn, 1) := by decide +kernel
def tX12_any_0 : Nat → Option am_Act := am_nd 21 (am_nd 9 (am_nd 4 (am_nd 1 (am_lf 0 (a_aload 0 1)) (am_lf 1 (a_cvI tT mX12_every 12 0 4))) (am_nd 7 (am_lf 4 (a_if (fun x => x = nI 0) 7 9)) (am_nd 8 (am_lf 7 (a_const (nI 0) 8)) (am_lf 8 (a_zret))))) (am_nd 14 (am_nd 10 (am_lf 9 (a_aload 0 10)) (am_nd 13 (am_lf 10 (a_get tT 12 15 13)) (am_lf 13 (a_const (nI 4) 14)))) (am_nd 17 (am_lf 14 (a_cmp (fun x y => x = y) 17 40)) (am_nd 18 (am_lf 17 (a_aload 0 18)) (am_lf 18 (a_cvV tT mX12_next0 12 0 21)))))) (am_nd 31 (am_nd 28 (am_nd 22 (am_lf 21 (a_aload 0 22)) (am_nd 25 (am_lf 22 (a_cvI tT mX12_every 12 0 25)) (am_lf 25 (a_if (fun x => x = nI 0) 28 30)))) (am_nd 29 (am_lf 28 (a_const (nI 0) 29)) (am_nd 30 (am_lf 29 (a_zret)) (am_lf 30 (a_aload 0 31))))) (am_nd 37 (am_nd 33 (am_lf 31 (a_const (nI 22) 33)) (am_nd 34 (am_lf 33 (a_const (nI 0) 34)) (am_lf 34 (a_cvV tT mX12_lay 12 2 37)))) (am_nd 40 (am_lf 37 (a_goto 9)) (am_nd 41 (am_lf 40 (a_const (nI 1) 41)) (am_lf 41 (a_zret))))))
theorem gX12_any_0 : am_Good tT mX12_any tX12_any_0 := am_nd_ok (am_nd_ok (am_nd_ok (am_nd_ok (am_lf_ok (fun _ => ok_aload_n dX12_any_0 rfl rfl)) (am_lf_ok (fun _ => ok_cvI rfl mw_X12_every (ci := 12) rfl rfl wd_524 wd_525 wd_526 dX12_any_1 rfl))) (am_nd_ok (am_lf_ok (fun _ => ok_if_ne dX12_any_4 rfl rfl)) (am_nd_ok (am_lf_ok (fun _ => ok_iconst dX12_any_7 cv_iconst_0 rfl)) (am_lf_ok (fun _ => ok_zret rfl dX12_any_8))))) (am_nd_ok (am_nd_ok (am_lf_ok (fun _ => ok_aload_n dX12_any_9 rfl rfl)) (am_nd_ok (am_lf_ok (fun _ => ok_get (C := RX12) (TT := TX12) (N := 31) rfl inw_X12 (Nat.le_of_ble_eq_true rfl) wd_495 dX12_any_10 rfl)) (am_lf_ok (fun _ => ok_iconst dX12_any_13 cv_iconst_4 rfl)))) (am_nd_ok (am_lf_ok (fun _ => ok_cmp_ne dX12_any_14 rfl rfl)) (am_nd_ok (am_lf_ok (fun _ => ok_aload_n dX12_any_17 rfl rfl)) (am_lf_ok (fun _ => ok_cvV rfl mw_X12_next0 (ci := 12) rfl rfl wd_509 wd_510 wd_511 dX12_any_18 rfl)))))) (am_nd_ok (am_nd_ok (am_nd_ok (am_lf_ok (fun _ => ok_aload_n dX12_any_21 rfl rfl)) (am_nd_ok (am_lf_ok (fun _ => ok_cvI rfl mw_X12_every (ci := 12) rfl rfl wd_524 wd_525 wd_526 dX12_any_22 rfl)) (am_lf_ok (fun _ => ok_if_ne dX12_any_25 rfl rfl)))) (am_nd_ok (am_lf_ok (fun _ => ok_iconst dX12_any_28 cv_iconst_0 rfl)) (am_nd_ok (am_lf_ok (fun _ => ok_zret rfl dX12_any_29)) (am_lf_ok (fun _ => ok_aload_n dX12_any_30 rfl rfl))))) (am_nd_ok (am_nd_ok (am_lf_ok (fun _ => ok_bipush dX12_any_31 cv_bipush_22 rfl)) (am_nd_ok (am_lf_ok (fun _ => ok_iconst dX12_any_33 cv_iconst_0 rfl)) (am_lf_ok (fun _ => ok_cvV rfl mw_X12_lay (ci := 12) rfl rfl wd_518 wd_519 wd_520 dX12_any_34 rfl)))) (am_nd_ok (am_lf_ok (fun _ => ok_goto dX12_any_37 rfl)) (am_nd_ok (am_lf_ok (fun _ => ok_iconst dX12_any_40 cv_iconst_1 rfl)) (am_lf_ok (fun _ => ok_zret rfl dX12_any_41))))))
def tX12_any : Nat → Option am_Act := tX12_any_0
theorem gX12_any : am_Good tT mX12_any tX12_any := gX12_any_0
theorem dX12_every_0 : decode cX12_every 0 = .ok (.aload_n 0, 1) := by decide +kernel
theorem dX12_every_1 : decode cX12_every 1 = .ok (.invokevirtual 200, 3) := by decide +kernel
theorem dX12_every_4 : decode cX12_every 4 = .ok (.ifCond .ne 5, 3) := by decide +kernel
theorem dX12_every_7 : decode cX12_every 7 = .ok (.iconst 0, 1) := by decide +kernel
theorem dX12_every_8 : decode cX12_every 8 = .ok (.ireturn, 1) := by decide +kernel
theorem dX12_every_9 : decode cX12_every 9 = .ok (.aload_n 0, 1) := by decide +kernel
theorem dX12_every_10 : decode cX12_every 10 = .ok (.getfield 154, 3) := by decide +kernel
theorem dX12_every_13 : decode cX12_every 13 = .ok (.iconst 5, 1) := by decide +kernel
theorem dX12_every_14 : decode cX12_every 14 = .ok (.if_icmp .ne 26, 3) := by decide +kernel
theorem dX12_every_17 : decode cX12_every 17 = .ok (.aload_n 0, 1) := by decide +kernel
theorem dX12_every_18 : decode cX12_every 18 = .ok (.invokevirtual 178, 3) := by decide +kernel
theorem dX12_every_21 : decode cX12_every 21 = .ok (.aload_n 0, 1) := by decide +kernel
theorem dX12_every_22 : decode cX12_every 22 = .ok (.invokevirtual 200, 3) := by decide +kernel
theorem dX12_every_25 : decode cX12_every 25 = .ok (.ifCond .ne 5, 3) := by decide +kernel
theorem dX12_every_28 : decode cX12_every 28 = .ok (.iconst 0, 1) := by decide +kernel
theorem dX12_every_29 : decode cX12_every 29 = .ok (.ireturn, 1) := by decide +kernel
theorem dX12_every_30 : decode cX12_every 30 = .ok (.aload_n 0, 1) := by decide +kernel
theorem dX12_every_31 : decode cX12_every 31 = .ok (.bipush 21, 2) := by decide +kernel
theorem dX12_every_33 : decode cX12_every 33 = .ok (.iconst 0, 1) := by decide +kernel
theorem dX12_every_34 : decode cX12_every 34 = .ok (.invokevirtual 191, 3) := by decide +kernel
theorem dX12_every_37 : decode cX12_every 37 = .ok (.goto (-28), 3) := by decide +kernel
theorem dX12_every_40 : decode cX12_every 40 = .ok (.iconst 1, 1) := by decide +kernel
theorem dX12_every_41 : decode cX12_every 41 = .ok (.ireturn, 1) := by decide +kernel
def tX12_every_0 : Nat → Option am_Act := am_nd 21 (am_nd 9 (am_nd 4 (am_nd 1 (am_lf 0 (a_aload 0 1)) (am_lf 1 (a_cvI tT mX12_oneTest 12 0 4))) (am_nd 7 (am_lf 4 (a_if (fun x => x = nI 0) 7 9)) (am_nd 8 (am_lf 7 (a_const (nI 0) 8)) (am_lf 8 (a_zret))))) (am_nd 14 (am_nd 10 (am_lf 9 (a_aload 0 10)) (am_nd 13 (am_lf 10 (a_get tT 12 15 13)) (am_lf 13 (a_const (nI 5) 14)))) (am_nd 17 (am_lf 14 (a_cmp (fun x y => x = y) 17 40)) (am_nd 18 (am_lf 17 (a_aload 0 18)) (am_lf 18 (a_cvV tT mX12_next0 12 0 21)))))) (am_nd 31 (am_nd 28 (am_nd 22 (am_lf 21 (a_aload 0 22)) (am_nd 25 (am_lf 22 (a_cvI tT mX12_oneTest 12 0 25)) (am_lf 25 (a_if (fun x => x = nI 0) 28 30)))) (am_nd 29 (am_lf 28 (a_const (nI 0) 29)) (am_nd 30 (am_lf 29 (a_zret)) (am_lf 30 (a_aload 0 31))))) (am_nd 37 (am_nd 33 (am_lf 31 (a_const (nI 21) 33)) (am_nd 34 (am_lf 33 (a_const (nI 0) 34)) (am_lf 34 (a_cvV tT mX12_lay 12 2 37)))) (am_nd 40 (am_lf 37 (a_goto 9)) (am_nd 41 (am_lf 40 (a_const (nI 1) 41)) (am_lf 41 (a_zret))))))
theorem gX12_every_0 : am_Good tT mX12_every tX12_every_0 := am_nd_ok (am_nd_ok (am_nd_ok (am_nd_ok (am_lf_ok (fun _ => ok_aload_n dX12_every_0 rfl rfl)) (am_lf_ok (fun _ => ok_cvI rfl mw_X12_oneTest (ci := 12) rfl rfl wd_527 wd_528 wd_529 dX12_every_1 rfl))) (am_nd_ok (am_lf_ok (fun _ => ok_if_ne dX12_every_4 rfl rfl)) (am_nd_ok (am_lf_ok (fun _ => ok_iconst dX12_every_7 cv_iconst_0 rfl)) (am_lf_ok (fun _ => ok_zret rfl dX12_every_8))))) (am_nd_ok (am_nd_ok (am_lf_ok (fun _ => ok_aload_n dX12_every_9 rfl rfl)) (am_nd_ok (am_lf_ok (fun _ => ok_get (C := RX12) (TT := TX12) (N := 31) rfl inw_X12 (Nat.le_of_ble_eq_true rfl) wd_495 dX12_every_10 rfl)) (am_lf_ok (fun _ => ok_iconst dX12_every_13 cv_iconst_5 rfl)))) (am_nd_ok (am_lf_ok (fun _ => ok_cmp_ne dX12_every_14 rfl rfl)) (am_nd_ok (am_lf_ok (fun _ => ok_aload_n dX12_every_17 rfl rfl)) (am_lf_ok (fun _ => ok_cvV rfl mw_X12_next0 (ci := 12) rfl rfl wd_509 wd_510 wd_511 dX12_every_18 rfl)))))) (am_nd_ok (am_nd_ok (am_nd_ok (am_lf_ok (fun _ => ok_aload_n dX12_every_21 rfl rfl)) (am_nd_ok (am_lf_ok (fun _ => ok_cvI rfl mw_X12_oneTest (ci := 12) rfl rfl wd_527 wd_528 wd_529 dX12_every_22 rfl)) (am_lf_ok (fun _ => ok_if_ne dX12_every_25 rfl rfl)))) (am_nd_ok (am_lf_ok (fun _ => ok_iconst dX12_every_28 cv_iconst_0 rfl)) (am_nd_ok (am_lf_ok (fun _ => ok_zret rfl dX12_every_29)) (am_lf_ok (fun _ => ok_aload_n dX12_every_30 rfl rfl))))) (am_nd_ok (am_nd_ok (am_lf_ok (fun _ => ok_bipush dX12_every_31 cv_bipush_21 rfl)) (am_nd_ok (am_lf_ok (fun _ => ok_iconst dX12_every_33 cv_iconst_0 rfl)) (am_lf_ok (fun _ => ok_cvV rfl mw_X12_lay (ci := 12) rfl rfl wd_518 wd_519 wd_520 dX12_every_34 rfl)))) (am_nd_ok (am_lf_ok (fun _ => ok_goto dX12_every_37 rfl)) (am_nd_ok (am_lf_ok (fun _ => ok_iconst dX12_every_40 cv_iconst_1 rfl)) (am_lf_ok (fun _ => ok_zret rfl dX12_every_41))))))
def tX12_every : Nat → Option am_Act := tX12_every_0
theorem gX12_every : am_Good tT mX12_every tX12_every := gX12_every_0
theorem dX12_oneTest_0 : decode cX12_oneTest 0 = .ok (.aload_n 0, 1) := by decide +kernel
theorem dX12_oneTest_1 : decode cX12_oneTest 1 = .ok (.getfield 154, 3) := by decide +kernel
theorem dX12_oneTest_4 : decode cX12_oneTest 4 = .ok (.bipush 6, 2) := by decide +kernel
theorem dX12_oneTest_6 : decode cX12_oneTest 6 = .ok (.if_icmp .ne 38, 3) := by decide +kernel
theorem dX12_oneTest_9 : decode cX12_oneTest 9 = .ok (.aload_n 0, 1) := by decide +kernel
theorem dX12_oneTest_10 : decode cX12_oneTest 10 = .ok (.invokevirtual 203, 3) := by decide +kernel
theorem dX12_oneTest_13 : decode cX12_oneTest 13 = .ok (.ifCond .eq 10, 3) := by decide +kernel
theorem dX12_oneTest_16 : decode cX12_oneTest 16 = .ok (.aload_n 0, 1) := by decide +kernel
theorem dX12_oneTest_17 : decode cX12_oneTest 17 = .ok (.invokevirtual 200, 3) := by decide +kernel
theorem dX12_oneTest_20 : decode cX12_oneTest 20 = .ok (.ifCond .ne 5, 3) := by decide +kernel
theorem dX12_oneTest_23 : decode cX12_oneTest 23 = .ok (.iconst 0, 1) := by decide +kernel
theorem dX12_oneTest_24 : decode cX12_oneTest 24 = .ok (.ireturn, 1) := by decide +kernel
theorem dX12_oneTest_25 : decode cX12_oneTest 25 = .ok (.aload_n 0, 1) := by decide +kernel
theorem dX12_oneTest_26 : decode cX12_oneTest 26 = .ok (.dup, 1) := by decide +kernel
theorem dX12_oneTest_27 : decode cX12_oneTest 27 = .ok (.getfield 184, 3) := by decide +kernel
theorem dX12_oneTest_30 : decode cX12_oneTest 30 = .ok (.iconst 1, 1) := by decide +kernel
theorem dX12_oneTest_31 : decode cX12_oneTest 31 = .ok (.isub, 1) := by decide +kernel
theorem dX12_oneTest_32 : decode cX12_oneTest 32 = .ok (.putfield 184, 3) := by decide +kernel
theorem dX12_oneTest_35 : decode cX12_oneTest 35 = .ok (.aload_n 0, 1) := by decide +kernel
theorem dX12_oneTest_36 : decode cX12_oneTest 36 = .ok (.bipush 20, 2) := by decide +kernel
theorem dX12_oneTest_38 : decode cX12_oneTest 38 = .ok (.iconst 0, 1) := by decide +kernel
theorem dX12_oneTest_39 : decode cX12_oneTest 39 = .ok (.invokevirtual 191, 3) := by decide +kernel
theorem dX12_oneTest_42 : decode cX12_oneTest 42 = .ok (.iconst 1, 1) := by decide +kernel
theorem dX12_oneTest_43 : decode cX12_oneTest 43 = .ok (.ireturn, 1) := by decide +kernel
theorem dX12_oneTest_44 : decode cX12_oneTest 44 = .ok (.aload_n 0, 1) := by decide +kernel
theorem dX12_oneTest_45 : decode cX12_oneTest 45 = .ok (.getfield 154, 3) := by decide +kernel
theorem dX12_oneTest_48 : decode cX12_oneTest 48 = .ok (.sipush 140, 3) := by decide +kernel
theorem dX12_oneTest_51 : decode cX12_oneTest 51 = .ok (.if_icmp .ne 41, 3) := by decide +kernel
theorem dX12_oneTest_54 : decode cX12_oneTest 54 = .ok (.aload_n 0, 1) := by decide +kernel
theorem dX12_oneTest_55 : decode cX12_oneTest 55 = .ok (.invokevirtual 203, 3) := by decide +kernel
theorem dX12_oneTest_58 : decode cX12_oneTest 58 = .ok (.ifCond .eq 20, 3) := by decide +kernel
theorem dX12_oneTest_61 : decode cX12_oneTest 61 = .ok (.aload_n 0, 1) := by decide +kernel
theorem dX12_oneTest_62 : decode cX12_oneTest 62 = .ok (.invokevirtual 206, 3) := by decide +kernel
theorem dX12_oneTest_65 : decode cX12_oneTest 65 = .ok (.ifCond .eq 13, 3) := by decide +kernel
theorem dX12_oneTest_68 : decode cX12_oneTest 68 = .ok (.aload_n 0, 1) := by decide +kernel
theorem dX12_oneTest_69 : decode cX12_oneTest 69 = .ok (.sipush 141, 3) := by decide +kernel
theorem dX12_oneTest_72 : decode cX12_oneTest 72 = .ok (.invokevirtual 209, 3) := by decide +kernel
theorem dX12_oneTest_75 : decode cX12_oneTest 75 = .ok (.ifCond .ne 5, 3) := by decide +kernel
theorem dX12_oneTest_78 : decode cX12_oneTest 78 = .ok (.iconst 0, 1) := by decide +kernel
theorem dX12_oneTest_79 : decode cX12_oneTest 79 = .ok (.ireturn, 1) := by decide +kernel
theorem dX12_oneTest_80 : decode cX12_oneTest 80 = .ok (.aload_n 0, 1) := by decide +kernel
theorem dX12_oneTest_81 : decode cX12_oneTest 81 = .ok (.dup, 1) := by decide +kernel
theorem dX12_oneTest_82 : decode cX12_oneTest 82 = .ok (.getfield 184, 3) := by decide +kernel
theorem dX12_oneTest_85 : decode cX12_oneTest 85 = .ok (.iconst 1, 1) := by decide +kernel
theorem dX12_oneTest_86 : decode cX12_oneTest 86 = .ok (.isub, 1) := by decide +kernel
theorem dX12_oneTest_87 : decode cX12_oneTest 87 = .ok (.putfield 184, 3) := by decide +kernel
theorem dX12_oneTest_90 : decode cX12_oneTest 90 = .ok (.iconst 1, 1) := by decide +kernel
theorem dX12_oneTest_91 : decode cX12_oneTest 91 = .ok (.ireturn, 1) := by decide +kernel
theorem dX12_oneTest_92 : decode cX12_oneTest 92 = .ok (.aload_n 0, 1) := by decide +kernel
theorem dX12_oneTest_93 : decode cX12_oneTest 93 = .ok (.invokevirtual 212, 3) := by decide +kernel
theorem dX12_oneTest_96 : decode cX12_oneTest 96 = .ok (.ifCond .ne 5, 3) := by decide +kernel
theorem dX12_oneTest_99 : decode cX12_oneTest 99 = .ok (.iconst 0, 1) := by decide +kernel
theorem dX12_oneTest_100 : decode cX12_oneTest 100 = .ok (.ireturn, 1) := by decide +kernel
theorem dX12_oneTest_101 : decode cX12_oneTest 101 = .ok (.aload_n 0, 1) := by decide +kernel
theorem dX12_oneTest_102 : decode cX12_oneTest 102 = .ok (.getfield 154, 3) := by decide +kernel
theorem dX12_oneTest_105 : decode cX12_oneTest 105 = .ok (.sipush 160, 3) := by decide +kernel
theorem dX12_oneTest_108 : decode cX12_oneTest 108 = .ok (.if_icmp .ne 8, 3) := by decide +kernel
theorem dX12_oneTest_111 : decode cX12_oneTest 111 = .ok (.bipush 17, 2) := by decide +kernel
theorem dX12_oneTest_113 : decode cX12_oneTest 113 = .ok (.goto 34, 3) := by decide +kernel
theorem dX12_oneTest_116 : decode cX12_oneTest 116 = .ok (.aload_n 0, 1) := by decide +kernel
theorem dX12_oneTest_117 : decode cX12_oneTest 117 = .ok (.getfield 154, 3) := by decide +kernel
theorem dX12_oneTest_120 : decode cX12_oneTest 120 = .ok (.sipush 161, 3) := by decide +kernel
theorem dX12_oneTest_123 : decode cX12_oneTest 123 = .ok (.if_icmp .ne 8, 3) := by decide +kernel
theorem dX12_oneTest_126 : decode cX12_oneTest 126 = .ok (.bipush 18, 2) := by decide +kernel
theorem dX12_oneTest_128 : decode cX12_oneTest 128 = .ok (.goto 19, 3) := by decide +kernel
theorem dX12_oneTest_131 : decode cX12_oneTest 131 = .ok (.aload_n 0, 1) := by decide +kernel
theorem dX12_oneTest_132 : decode cX12_oneTest 132 = .ok (.getfield 154, 3) := by decide +kernel
theorem dX12_oneTest_135 : decode cX12_oneTest 135 = .ok (.sipush 162, 3) := by decide +kernel
theorem dX12_oneTest_138 : decode cX12_oneTest 138 = .ok (.if_icmp .ne 8, 3) := by decide +kernel
theorem dX12_oneTest_141 : decode cX12_oneTest 141 = .ok (.bipush 19, 2) := by decide +kernel
theorem dX12_oneTest_143 : decode cX12_oneTest 143 = .ok (.goto 4, 3) := by decide +kernel
theorem dX12_oneTest_146 : decode cX12_oneTest 146 = .ok (.iconst (-1), 1) := by decide +kernel
theorem dX12_oneTest_147 : decode cX12_oneTest 147 = .ok (.istore_n 1, 1) := by decide +kernel
theorem dX12_oneTest_148 : decode cX12_oneTest 148 = .ok (.iload_n 1, 1) := by decide +kernel
theorem dX12_oneTest_149 : decode cX12_oneTest 149 = .ok (.iconst (-1), 1) := by decide +kernel
theorem dX12_oneTest_150 : decode cX12_oneTest 150 = .ok (.if_icmp .ne 9, 3) := by decide +kernel
theorem dX12_oneTest_153 : decode cX12_oneTest 153 = .ok (.aload_n 0, 1) := by decide +kernel
theorem dX12_oneTest_154 : decode cX12_oneTest 154 = .ok (.iconst 1, 1) := by decide +kernel
theorem dX12_oneTest_155 : decode cX12_oneTest 155 = .ok (.invokevirtual 175, 3) := by decide +kernel
theorem dX12_oneTest_158 : decode cX12_oneTest 158 = .ok (.ireturn, 1) := by decide +kernel
theorem dX12_oneTest_159 : decode cX12_oneTest 159 = .ok (.aload_n 0, 1) := by decide +kernel
theorem dX12_oneTest_160 : decode cX12_oneTest 160 = .ok (.invokevirtual 178, 3) := by decide +kernel
theorem dX12_oneTest_163 : decode cX12_oneTest 163 = .ok (.aload_n 0, 1) := by decide +kernel
theorem dX12_oneTest_164 : decode cX12_oneTest 164 = .ok (.invokevirtual 212, 3) := by decide +kernel
theorem dX12_oneTest_167 : decode cX12_oneTest 167 = .ok (.ifCond .ne 5, 3) := by decide +kernel
theorem dX12_oneTest_170 : decode cX12_oneTest 170 = .ok (.iconst 0, 1) := by decide +kernel
theorem dX12_oneTest_171 : decode cX12_oneTest 171 = .ok (.ireturn, 1) := by decide +kernel
theorem dX12_oneTest_172 : decode cX12_oneTest 172 = .ok (.aload_n 0, 1) := by decide +kernel
theorem dX12_oneTest_173 : decode cX12_oneTest 173 = .ok (.iload_n 1, 1) := by decide +kernel
theorem dX12_oneTest_174 : decode cX12_oneTest 174 = .ok (.iconst 0, 1) := by decide +kernel
theorem dX12_oneTest_175 : decode cX12_oneTest 175 = .ok (.invokevirtual 191, 3) := by decide +kernel
theorem dX12_oneTest_178 : decode cX12_oneTest 178 = .ok (.iconst 1, 1) := by decide +kernel
theorem dX12_oneTest_179 : decode cX12_oneTest 179 = .ok (.ireturn, 1) := by decide +kernel
def tX12_oneTest_0 : Nat → Option am_Act := am_nd 25 (am_nd 13 (am_nd 6 (am_nd 1 (am_lf 0 (a_aload 0 1)) (am_nd 4 (am_lf 1 (a_get tT 12 15 4)) (am_lf 4 (a_const (nI 6) 6)))) (am_nd 9 (am_lf 6 (a_cmp (fun x y => x = y) 9 44)) (am_nd 10 (am_lf 9 (a_aload 0 10)) (am_lf 10 (a_cvI tT mX12_opens 12 0 13))))) (am_nd 20 (am_nd 16 (am_lf 13 (a_if (fun x => x = nI 0) 23 16)) (am_nd 17 (am_lf 16 (a_aload 0 17)) (am_lf 17 (a_cvI tT mX12_oneTest 12 0 20)))) (am_nd 23 (am_lf 20 (a_if (fun x => x = nI 0) 23 25)) (am_nd 24 (am_lf 23 (a_const (nI 0) 24)) (am_lf 24 (a_zret)))))) (am_nd 35 (am_nd 30 (am_nd 26 (am_lf 25 (a_aload 0 26)) (am_nd 27 (am_lf 26 (a_dup 27)) (am_lf 27 (a_get tT 12 21 30)))) (am_nd 31 (am_lf 30 (a_const (nI 1) 31)) (am_nd 32 (am_lf 31 (a_bin (fun x y => x - y) 32)) (am_lf 32 (a_put tT 12 21 35))))) (am_nd 39 (am_nd 36 (am_lf 35 (a_aload 0 36)) (am_nd 38 (am_lf 36 (a_const (nI 20) 38)) (am_lf 38 (a_const (nI 0) 39)))) (am_nd 42 (am_lf 39 (a_cvV tT mX12_lay 12 2 42)) (am_nd 43 (am_lf 42 (a_const (nI 1) 43)) (am_lf 43 (a_zret))))))
theorem gX12_oneTest_0 : am_Good tT mX12_oneTest tX12_oneTest_0 := am_nd_ok (am_nd_ok (am_nd_ok (am_nd_ok (am_lf_ok (fun _ => ok_aload_n dX12_oneTest_0 rfl rfl)) (am_nd_ok (am_lf_ok (fun _ => ok_get (C := RX12) (TT := TX12) (N := 31) rfl inw_X12 (Nat.le_of_ble_eq_true rfl) wd_495 dX12_oneTest_1 rfl)) (am_lf_ok (fun _ => ok_bipush dX12_oneTest_4 cv_bipush_6 rfl)))) (am_nd_ok (am_lf_ok (fun _ => ok_cmp_ne dX12_oneTest_6 rfl rfl)) (am_nd_ok (am_lf_ok (fun _ => ok_aload_n dX12_oneTest_9 rfl rfl)) (am_lf_ok (fun _ => ok_cvI rfl mw_X12_opens (ci := 12) rfl rfl wd_530 wd_531 wd_532 dX12_oneTest_10 rfl))))) (am_nd_ok (am_nd_ok (am_lf_ok (fun _ => ok_if_eq dX12_oneTest_13 rfl rfl)) (am_nd_ok (am_lf_ok (fun _ => ok_aload_n dX12_oneTest_16 rfl rfl)) (am_lf_ok (fun _ => ok_cvI rfl mw_X12_oneTest (ci := 12) rfl rfl wd_527 wd_528 wd_529 dX12_oneTest_17 rfl)))) (am_nd_ok (am_lf_ok (fun _ => ok_if_ne dX12_oneTest_20 rfl rfl)) (am_nd_ok (am_lf_ok (fun _ => ok_iconst dX12_oneTest_23 cv_iconst_0 rfl)) (am_lf_ok (fun _ => ok_zret rfl dX12_oneTest_24)))))) (am_nd_ok (am_nd_ok (am_nd_ok (am_lf_ok (fun _ => ok_aload_n dX12_oneTest_25 rfl rfl)) (am_nd_ok (am_lf_ok (fun _ => ok_dup dX12_oneTest_26 rfl)) (am_lf_ok (fun _ => ok_get (C := RX12) (TT := TX12) (N := 31) rfl inw_X12 (Nat.le_of_ble_eq_true rfl) wd_514 dX12_oneTest_27 rfl)))) (am_nd_ok (am_lf_ok (fun _ => ok_iconst dX12_oneTest_30 cv_iconst_1 rfl)) (am_nd_ok (am_lf_ok (fun _ => ok_isub dX12_oneTest_31 rfl)) (am_lf_ok (fun _ => ok_put (C := RX12) (TT := TX12) (N := 31) (ty0 := tyX12) rfl inw_X12 tyX12_ok nmX12 (Nat.le_of_ble_eq_true rfl) rfl rfl wd_514 dX12_oneTest_32 rfl))))) (am_nd_ok (am_nd_ok (am_lf_ok (fun _ => ok_aload_n dX12_oneTest_35 rfl rfl)) (am_nd_ok (am_lf_ok (fun _ => ok_bipush dX12_oneTest_36 cv_bipush_20 rfl)) (am_lf_ok (fun _ => ok_iconst dX12_oneTest_38 cv_iconst_0 rfl)))) (am_nd_ok (am_lf_ok (fun _ => ok_cvV rfl mw_X12_lay (ci := 12) rfl rfl wd_518 wd_519 wd_520 dX12_oneTest_39 rfl)) (am_nd_ok (am_lf_ok (fun _ => ok_iconst dX12_oneTest_42 cv_iconst_1 rfl)) (am_lf_ok (fun _ => ok_zret rfl dX12_oneTest_43))))))
def tX12_oneTest_1 : Nat → Option am_Act := am_nd 72 (am_nd 58 (am_nd 51 (am_nd 45 (am_lf 44 (a_aload 0 45)) (am_nd 48 (am_lf 45 (a_get tT 12 15 48)) (am_lf 48 (a_const (nI 140) 51)))) (am_nd 54 (am_lf 51 (a_cmp (fun x y => x = y) 54 92)) (am_nd 55 (am_lf 54 (a_aload 0 55)) (am_lf 55 (a_cvI tT mX12_opens 12 0 58))))) (am_nd 65 (am_nd 61 (am_lf 58 (a_if (fun x => x = nI 0) 78 61)) (am_nd 62 (am_lf 61 (a_aload 0 62)) (am_lf 62 (a_cvI tT mX12_any 12 0 65)))) (am_nd 68 (am_lf 65 (a_if (fun x => x = nI 0) 78 68)) (am_nd 69 (am_lf 68 (a_aload 0 69)) (am_lf 69 (a_const (nI 141) 72)))))) (am_nd 82 (am_nd 79 (am_nd 75 (am_lf 72 (a_cvI tT mX12_need 12 1 75)) (am_nd 78 (am_lf 75 (a_if (fun x => x = nI 0) 78 80)) (am_lf 78 (a_const (nI 0) 79)))) (am_nd 80 (am_lf 79 (a_zret)) (am_nd 81 (am_lf 80 (a_aload 0 81)) (am_lf 81 (a_dup 82))))) (am_nd 87 (am_nd 85 (am_lf 82 (a_get tT 12 21 85)) (am_nd 86 (am_lf 85 (a_const (nI 1) 86)) (am_lf 86 (a_bin (fun x y => x - y) 87)))) (am_nd 90 (am_lf 87 (a_put tT 12 21 90)) (am_nd 91 (am_lf 90 (a_const (nI 1) 91)) (am_lf 91 (a_zret))))))
theorem gX12_oneTest_1 : am_Good tT mX12_oneTest tX12_oneTest_1 := am_nd_ok (am_nd_ok (am_nd_ok (am_nd_ok (am_lf_ok (fun _ => ok_aload_n dX12_oneTest_44 rfl rfl)) (am_nd_ok (am_lf_ok (fun _ => ok_get (C := RX12) (TT := TX12) (N := 31) rfl inw_X12 (Nat.le_of_ble_eq_true rfl) wd_495 dX12_oneTest_45 rfl)) (am_lf_ok (fun _ => ok_sipush dX12_oneTest_48 cv_sipush_140 rfl)))) (am_nd_ok (am_lf_ok (fun _ => ok_cmp_ne dX12_oneTest_51 rfl rfl)) (am_nd_ok (am_lf_ok (fun _ => ok_aload_n dX12_oneTest_54 rfl rfl)) (am_lf_ok (fun _ => ok_cvI rfl mw_X12_opens (ci := 12) rfl rfl wd_530 wd_531 wd_532 dX12_oneTest_55 rfl))))) (am_nd_ok (am_nd_ok (am_lf_ok (fun _ => ok_if_eq dX12_oneTest_58 rfl rfl)) (am_nd_ok (am_lf_ok (fun _ => ok_aload_n dX12_oneTest_61 rfl rfl)) (am_lf_ok (fun _ => ok_cvI rfl mw_X12_any (ci := 12) rfl rfl wd_533 wd_534 wd_535 dX12_oneTest_62 rfl)))) (am_nd_ok (am_lf_ok (fun _ => ok_if_eq dX12_oneTest_65 rfl rfl)) (am_nd_ok (am_lf_ok (fun _ => ok_aload_n dX12_oneTest_68 rfl rfl)) (am_lf_ok (fun _ => ok_sipush dX12_oneTest_69 cv_sipush_141 rfl)))))) (am_nd_ok (am_nd_ok (am_nd_ok (am_lf_ok (fun _ => ok_cvI rfl mw_X12_need (ci := 12) rfl rfl wd_536 wd_537 wd_538 dX12_oneTest_72 rfl)) (am_nd_ok (am_lf_ok (fun _ => ok_if_ne dX12_oneTest_75 rfl rfl)) (am_lf_ok (fun _ => ok_iconst dX12_oneTest_78 cv_iconst_0 rfl)))) (am_nd_ok (am_lf_ok (fun _ => ok_zret rfl dX12_oneTest_79)) (am_nd_ok (am_lf_ok (fun _ => ok_aload_n dX12_oneTest_80 rfl rfl)) (am_lf_ok (fun _ => ok_dup dX12_oneTest_81 rfl))))) (am_nd_ok (am_nd_ok (am_lf_ok (fun _ => ok_get (C := RX12) (TT := TX12) (N := 31) rfl inw_X12 (Nat.le_of_ble_eq_true rfl) wd_514 dX12_oneTest_82 rfl)) (am_nd_ok (am_lf_ok (fun _ => ok_iconst dX12_oneTest_85 cv_iconst_1 rfl)) (am_lf_ok (fun _ => ok_isub dX12_oneTest_86 rfl)))) (am_nd_ok (am_lf_ok (fun _ => ok_put (C := RX12) (TT := TX12) (N := 31) (ty0 := tyX12) rfl inw_X12 tyX12_ok nmX12 (Nat.le_of_ble_eq_true rfl) rfl rfl wd_514 dX12_oneTest_87 rfl)) (am_nd_ok (am_lf_ok (fun _ => ok_iconst dX12_oneTest_90 cv_iconst_1 rfl)) (am_lf_ok (fun _ => ok_zret rfl dX12_oneTest_91))))))
def tX12_oneTest_2 : Nat → Option am_Act := am_nd 117 (am_nd 102 (am_nd 99 (am_nd 93 (am_lf 92 (a_aload 0 93)) (am_nd 96 (am_lf 93 (a_cvI tT mX12_sumUp 12 0 96)) (am_lf 96 (a_if (fun x => x = nI 0) 99 101)))) (am_nd 100 (am_lf 99 (a_const (nI 0) 100)) (am_nd 101 (am_lf 100 (a_zret)) (am_lf 101 (a_aload 0 102))))) (am_nd 111 (am_nd 105 (am_lf 102 (a_get tT 12 15 105)) (am_nd 108 (am_lf 105 (a_const (nI 160) 108)) (am_lf 108 (a_cmp (fun x y => x = y) 111 116)))) (am_nd 113 (am_lf 111 (a_const (nI 17) 113)) (am_nd 116 (am_lf 113 (a_goto 147)) (am_lf 116 (a_aload 0 117)))))) (am_nd 132 (am_nd 126 (am_nd 120 (am_lf 117 (a_get tT 12 15 120)) (am_nd 123 (am_lf 120 (a_const (nI 161) 123)) (am_lf 123 (a_cmp (fun x y => x = y) 126 131)))) (am_nd 128 (am_lf 126 (a_const (nI 18) 128)) (am_nd 131 (am_lf 128 (a_goto 147)) (am_lf 131 (a_aload 0 132))))) (am_nd 141 (am_nd 135 (am_lf 132 (a_get tT 12 15 135)) (am_nd 138 (am_lf 135 (a_const (nI 162) 138)) (am_lf 138 (a_cmp (fun x y => x = y) 141 146)))) (am_nd 143 (am_lf 141 (a_const (nI 19) 143)) (am_nd 146 (am_lf 143 (a_goto 147)) (am_lf 146 (a_const (-1) 147))))))
theorem gX12_oneTest_2 : am_Good tT mX12_oneTest tX12_oneTest_2 := am_nd_ok (am_nd_ok (am_nd_ok (am_nd_ok (am_lf_ok (fun _ => ok_aload_n dX12_oneTest_92 rfl rfl)) (am_nd_ok (am_lf_ok (fun _ => ok_cvI rfl mw_X12_sumUp (ci := 12) rfl rfl wd_539 wd_540 wd_541 dX12_oneTest_93 rfl)) (am_lf_ok (fun _ => ok_if_ne dX12_oneTest_96 rfl rfl)))) (am_nd_ok (am_lf_ok (fun _ => ok_iconst dX12_oneTest_99 cv_iconst_0 rfl)) (am_nd_ok (am_lf_ok (fun _ => ok_zret rfl dX12_oneTest_100)) (am_lf_ok (fun _ => ok_aload_n dX12_oneTest_101 rfl rfl))))) (am_nd_ok (am_nd_ok (am_lf_ok (fun _ => ok_get (C := RX12) (TT := TX12) (N := 31) rfl inw_X12 (Nat.le_of_ble_eq_true rfl) wd_495 dX12_oneTest_102 rfl)) (am_nd_ok (am_lf_ok (fun _ => ok_sipush dX12_oneTest_105 cv_sipush_160 rfl)) (am_lf_ok (fun _ => ok_cmp_ne dX12_oneTest_108 rfl rfl)))) (am_nd_ok (am_lf_ok (fun _ => ok_bipush dX12_oneTest_111 cv_bipush_17 rfl)) (am_nd_ok (am_lf_ok (fun _ => ok_goto dX12_oneTest_113 rfl)) (am_lf_ok (fun _ => ok_aload_n dX12_oneTest_116 rfl rfl)))))) (am_nd_ok (am_nd_ok (am_nd_ok (am_lf_ok (fun _ => ok_get (C := RX12) (TT := TX12) (N := 31) rfl inw_X12 (Nat.le_of_ble_eq_true rfl) wd_495 dX12_oneTest_117 rfl)) (am_nd_ok (am_lf_ok (fun _ => ok_sipush dX12_oneTest_120 cv_sipush_161 rfl)) (am_lf_ok (fun _ => ok_cmp_ne dX12_oneTest_123 rfl rfl)))) (am_nd_ok (am_lf_ok (fun _ => ok_bipush dX12_oneTest_126 cv_bipush_18 rfl)) (am_nd_ok (am_lf_ok (fun _ => ok_goto dX12_oneTest_128 rfl)) (am_lf_ok (fun _ => ok_aload_n dX12_oneTest_131 rfl rfl))))) (am_nd_ok (am_nd_ok (am_lf_ok (fun _ => ok_get (C := RX12) (TT := TX12) (N := 31) rfl inw_X12 (Nat.le_of_ble_eq_true rfl) wd_495 dX12_oneTest_132 rfl)) (am_nd_ok (am_lf_ok (fun _ => ok_sipush dX12_oneTest_135 cv_sipush_162 rfl)) (am_lf_ok (fun _ => ok_cmp_ne dX12_oneTest_138 rfl rfl)))) (am_nd_ok (am_lf_ok (fun _ => ok_bipush dX12_oneTest_141 cv_bipush_19 rfl)) (am_nd_ok (am_lf_ok (fun _ => ok_goto dX12_oneTest_143 rfl)) (am_lf_ok (fun _ => ok_iconst dX12_oneTest_146 cv_iconst_m1 rfl))))))
def tX12_oneTest_3 : Nat → Option am_Act := am_nd 163 (am_nd 154 (am_nd 149 (am_nd 148 (am_lf 147 (a_istore 1 148)) (am_lf 148 (a_iload 1 149))) (am_nd 150 (am_lf 149 (a_const (-1) 150)) (am_nd 153 (am_lf 150 (a_cmp (fun x y => x = y) 153 159)) (am_lf 153 (a_aload 0 154))))) (am_nd 158 (am_nd 155 (am_lf 154 (a_const (nI 1) 155)) (am_lf 155 (a_cvI tT mX12_bad 12 1 158))) (am_nd 159 (am_lf 158 (a_zret)) (am_nd 160 (am_lf 159 (a_aload 0 160)) (am_lf 160 (a_cvV tT mX12_next0 12 0 163)))))) (am_nd 172 (am_nd 167 (am_nd 164 (am_lf 163 (a_aload 0 164)) (am_lf 164 (a_cvI tT mX12_sumUp 12 0 167))) (am_nd 170 (am_lf 167 (a_if (fun x => x = nI 0) 170 172)) (am_nd 171 (am_lf 170 (a_const (nI 0) 171)) (am_lf 171 (a_zret))))) (am_nd 175 (am_nd 173 (am_lf 172 (a_aload 0 173)) (am_nd 174 (am_lf 173 (a_iload 1 174)) (am_lf 174 (a_const (nI 0) 175)))) (am_nd 178 (am_lf 175 (a_cvV tT mX12_lay 12 2 178)) (am_nd 179 (am_lf 178 (a_const (nI 1) 179)) (am_lf 179 (a_zret))))))
theorem gX12_oneTest_3 : am_Good tT mX12_oneTest tX12_oneTest_3 := am_nd_ok (am_nd_ok (am_nd_ok (am_nd_ok (am_lf_ok (fun _ => ok_istore_n dX12_oneTest_147 rfl (Nat.le_of_ble_eq_true rfl) rfl)) (am_lf_ok (fun _ => ok_iload_n dX12_oneTest_148 rfl rfl))) (am_nd_ok (am_lf_ok (fun _ => ok_iconst dX12_oneTest_149 cv_iconst_m1 rfl)) (am_nd_ok (am_lf_ok (fun _ => ok_cmp_ne dX12_oneTest_150 rfl rfl)) (am_lf_ok (fun _ => ok_aload_n dX12_oneTest_153 rfl rfl))))) (am_nd_ok (am_nd_ok (am_lf_ok (fun _ => ok_iconst dX12_oneTest_154 cv_iconst_1 rfl)) (am_lf_ok (fun _ => ok_cvI rfl mw_X12_bad (ci := 12) rfl rfl wd_506 wd_507 wd_508 dX12_oneTest_155 rfl))) (am_nd_ok (am_lf_ok (fun _ => ok_zret rfl dX12_oneTest_158)) (am_nd_ok (am_lf_ok (fun _ => ok_aload_n dX12_oneTest_159 rfl rfl)) (am_lf_ok (fun _ => ok_cvV rfl mw_X12_next0 (ci := 12) rfl rfl wd_509 wd_510 wd_511 dX12_oneTest_160 rfl)))))) (am_nd_ok (am_nd_ok (am_nd_ok (am_lf_ok (fun _ => ok_aload_n dX12_oneTest_163 rfl rfl)) (am_lf_ok (fun _ => ok_cvI rfl mw_X12_sumUp (ci := 12) rfl rfl wd_539 wd_540 wd_541 dX12_oneTest_164 rfl))) (am_nd_ok (am_lf_ok (fun _ => ok_if_ne dX12_oneTest_167 rfl rfl)) (am_nd_ok (am_lf_ok (fun _ => ok_iconst dX12_oneTest_170 cv_iconst_0 rfl)) (am_lf_ok (fun _ => ok_zret rfl dX12_oneTest_171))))) (am_nd_ok (am_nd_ok (am_lf_ok (fun _ => ok_aload_n dX12_oneTest_172 rfl rfl)) (am_nd_ok (am_lf_ok (fun _ => ok_iload_n dX12_oneTest_173 rfl rfl)) (am_lf_ok (fun _ => ok_iconst dX12_oneTest_174 cv_iconst_0 rfl)))) (am_nd_ok (am_lf_ok (fun _ => ok_cvV rfl mw_X12_lay (ci := 12) rfl rfl wd_518 wd_519 wd_520 dX12_oneTest_175 rfl)) (am_nd_ok (am_lf_ok (fun _ => ok_iconst dX12_oneTest_178 cv_iconst_1 rfl)) (am_lf_ok (fun _ => ok_zret rfl dX12_oneTest_179))))))
def tX12_oneTest : Nat → Option am_Act := am_nd 92 (am_nd 44 (tX12_oneTest_0) (tX12_oneTest_1)) (am_nd 147 (tX12_oneTest_2) (tX12_oneTest_3))
theorem gX12_oneTest : am_Good tT mX12_oneTest tX12_oneTest := am_nd_ok (am_nd_ok (gX12_oneTest_0) (gX12_oneTest_1)) (am_nd_ok (gX12_oneTest_2) (gX12_oneTest_3))
theorem dX12_aLine_0 : decode cX12_aLine 0 = .ok (.aload_n 0, 1) := by decide +kernel
theorem dX12_aLine_1 : decode cX12_aLine 1 = .ok (.getfield 154, 3) := by decide +kernel
theorem dX12_aLine_4 : decode cX12_aLine 4 = .ok (.bipush 20, 2) := by decide +kernel
theorem dX12_aLine_6 : decode cX12_aLine 6 = .ok (.bipush 21, 2) := by decide +kernel
theorem dX12_aLine_8 : decode cX12_aLine 8 = .ok (.invokestatic 56, 3) := by decide +kernel
theorem dX12_aLine_11 : decode cX12_aLine 11 = .ok (.ifCond .ne 9, 3) := by decide +kernel
theorem dX12_aLine_14 : decode cX12_aLine 14 = .ok (.aload_n 0, 1) := by decide +kernel
theorem dX12_aLine_15 : decode cX12_aLine 15 = .ok (.iconst 1, 1) := by decide +kernel
theorem dX12_aLine_16 : decode cX12_aLine 16 = .ok (.invokevirtual 175, 3) := by decide +kernel
theorem dX12_aLine_19 : decode cX12_aLine 19 = .ok (.ireturn, 1) := by decide +kernel
theorem dX12_aLine_20 : decode cX12_aLine 20 = .ok (.aload_n 0, 1) := by decide +kernel
theorem dX12_aLine_21 : decode cX12_aLine 21 = .ok (.getfield 215, 3) := by decide +kernel
theorem dX12_aLine_24 : decode cX12_aLine 24 = .ok (.bipush 16, 2) := by decide +kernel
theorem dX12_aLine_26 : decode cX12_aLine 26 = .ok (.if_icmp .ne 9, 3) := by decide +kernel
theorem dX12_aLine_29 : decode cX12_aLine 29 = .ok (.aload_n 0, 1) := by decide +kernel
theorem dX12_aLine_30 : decode cX12_aLine 30 = .ok (.iconst 3, 1) := by decide +kernel
theorem dX12_aLine_31 : decode cX12_aLine 31 = .ok (.invokevirtual 175, 3) := by decide +kernel
theorem dX12_aLine_34 : decode cX12_aLine 34 = .ok (.ireturn, 1) := by decide +kernel
theorem dX12_aLine_35 : decode cX12_aLine 35 = .ok (.aload_n 0, 1) := by decide +kernel
theorem dX12_aLine_36 : decode cX12_aLine 36 = .ok (.getfield 22, 3) := by decide +kernel
theorem dX12_aLine_39 : decode cX12_aLine 39 = .ok (.iconst 3, 1) := by decide +kernel
theorem dX12_aLine_40 : decode cX12_aLine 40 = .ok (.aload_n 0, 1) := by decide +kernel
theorem dX12_aLine_41 : decode cX12_aLine 41 = .ok (.getfield 215, 3) := by decide +kernel
theorem dX12_aLine_44 : decode cX12_aLine 44 = .ok (.imul, 1) := by decide +kernel
theorem dX12_aLine_45 : decode cX12_aLine 45 = .ok (.aload_n 0, 1) := by decide +kernel
theorem dX12_aLine_46 : decode cX12_aLine 46 = .ok (.getfield 154, 3) := by decide +kernel
theorem dX12_aLine_49 : decode cX12_aLine 49 = .ok (.bipush 20, 2) := by decide +kernel
theorem dX12_aLine_51 : decode cX12_aLine 51 = .ok (.isub, 1) := by decide +kernel
theorem dX12_aLine_52 : decode cX12_aLine 52 = .ok (.iastore, 1) := by decide +kernel
theorem dX12_aLine_53 : decode cX12_aLine 53 = .ok (.aload_n 0, 1) := by decide +kernel
theorem dX12_aLine_54 : decode cX12_aLine 54 = .ok (.iconst 0, 1) := by decide +kernel
theorem dX12_aLine_55 : decode cX12_aLine 55 = .ok (.putfield 184, 3) := by decide +kernel
theorem dX12_aLine_58 : decode cX12_aLine 58 = .ok (.aload_n 0, 1) := by decide +kernel
theorem dX12_aLine_59 : decode cX12_aLine 59 = .ok (.invokevirtual 178, 3) := by decide +kernel
theorem dX12_aLine_62 : decode cX12_aLine 62 = .ok (.aload_n 0, 1) := by decide +kernel
theorem dX12_aLine_63 : decode cX12_aLine 63 = .ok (.getfield 22, 3) := by decide +kernel
theorem dX12_aLine_66 : decode cX12_aLine 66 = .ok (.iconst 3, 1) := by decide +kernel
theorem dX12_aLine_67 : decode cX12_aLine 67 = .ok (.aload_n 0, 1) := by decide +kernel
theorem dX12_aLine_68 : decode cX12_aLine 68 = .ok (.getfield 215, 3) := by decide +kernel
theorem dX12_aLine_71 : decode cX12_aLine 71 = .ok (.imul, 1) := by decide +kernel
theorem dX12_aLine_72 : decode cX12_aLine 72 = .ok (.iconst 1, 1) := by decide +kernel
theorem dX12_aLine_73 : decode cX12_aLine 73 = .ok (.iadd, 1) := by decide +kernel
theorem dX12_aLine_74 : decode cX12_aLine 74 = .ok (.aload_n 0, 1) := by decide +kernel
theorem dX12_aLine_75 : decode cX12_aLine 75 = .ok (.getfield 181, 3) := by decide +kernel
theorem dX12_aLine_78 : decode cX12_aLine 78 = .ok (.iastore, 1) := by decide +kernel
theorem dX12_aLine_79 : decode cX12_aLine 79 = .ok (.aload_n 0, 1) := by decide +kernel
theorem dX12_aLine_80 : decode cX12_aLine 80 = .ok (.getfield 154, 3) := by decide +kernel
theorem dX12_aLine_83 : decode cX12_aLine 83 = .ok (.iconst 3, 1) := by decide +kernel
theorem dX12_aLine_84 : decode cX12_aLine 84 = .ok (.if_icmp .ne 16, 3) := by decide +kernel
theorem dX12_aLine_87 : decode cX12_aLine 87 = .ok (.aload_n 0, 1) := by decide +kernel
theorem dX12_aLine_88 : decode cX12_aLine 88 = .ok (.invokevirtual 178, 3) := by decide +kernel
theorem dX12_aLine_91 : decode cX12_aLine 91 = .ok (.aload_n 0, 1) := by decide +kernel
theorem dX12_aLine_92 : decode cX12_aLine 92 = .ok (.invokevirtual 206, 3) := by decide +kernel
theorem dX12_aLine_95 : decode cX12_aLine 95 = .ok (.ifCond .ne 5, 3) := by decide +kernel
theorem dX12_aLine_98 : decode cX12_aLine 98 = .ok (.iconst 0, 1) := by decide +kernel
theorem dX12_aLine_99 : decode cX12_aLine 99 = .ok (.ireturn, 1) := by decide +kernel
theorem dX12_aLine_100 : decode cX12_aLine 100 = .ok (.aload_n 0, 1) := by decide +kernel
theorem dX12_aLine_101 : decode cX12_aLine 101 = .ok (.getfield 22, 3) := by decide +kernel
theorem dX12_aLine_104 : decode cX12_aLine 104 = .ok (.iconst 3, 1) := by decide +kernel
theorem dX12_aLine_105 : decode cX12_aLine 105 = .ok (.aload_n 0, 1) := by decide +kernel
theorem dX12_aLine_106 : decode cX12_aLine 106 = .ok (.getfield 215, 3) := by decide +kernel
theorem dX12_aLine_109 : decode cX12_aLine 109 = .ok (.imul, 1) := by decide +kernel
theorem dX12_aLine_110 : decode cX12_aLine 110 = .ok (.iconst 2, 1) := by decide +kernel
theorem dX12_aLine_111 : decode cX12_aLine 111 = .ok (.iadd, 1) := by decide +kernel
theorem dX12_aLine_112 : decode cX12_aLine 112 = .ok (.aload_n 0, 1) := by decide +kernel
theorem dX12_aLine_113 : decode cX12_aLine 113 = .ok (.getfield 181, 3) := by decide +kernel
theorem dX12_aLine_116 : decode cX12_aLine 116 = .ok (.iastore, 1) := by decide +kernel
theorem dX12_aLine_117 : decode cX12_aLine 117 = .ok (.aload_n 0, 1) := by decide +kernel
theorem dX12_aLine_118 : decode cX12_aLine 118 = .ok (.sipush 159, 3) := by decide +kernel
theorem dX12_aLine_121 : decode cX12_aLine 121 = .ok (.invokevirtual 209, 3) := by decide +kernel
theorem dX12_aLine_124 : decode cX12_aLine 124 = .ok (.ireturn, 1) := by decide +kernel
def tX12_aLine_0 : Nat → Option am_Act := am_nd 24 (am_nd 14 (am_nd 6 (am_nd 1 (am_lf 0 (a_aload 0 1)) (am_nd 4 (am_lf 1 (a_get tT 12 15 4)) (am_lf 4 (a_const (nI 20) 6)))) (am_nd 8 (am_lf 6 (a_const (nI 21) 8)) (am_nd 11 (am_lf 8 (a_csI mX12_isIn 3 11)) (am_lf 11 (a_if (fun x => x = nI 0) 14 20))))) (am_nd 19 (am_nd 15 (am_lf 14 (a_aload 0 15)) (am_nd 16 (am_lf 15 (a_const (nI 1) 16)) (am_lf 16 (a_cvI tT mX12_bad 12 1 19)))) (am_nd 20 (am_lf 19 (a_zret)) (am_nd 21 (am_lf 20 (a_aload 0 21)) (am_lf 21 (a_get tT 12 11 24)))))) (am_nd 35 (am_nd 30 (am_nd 26 (am_lf 24 (a_const (nI 16) 26)) (am_nd 29 (am_lf 26 (a_cmp (fun x y => x = y) 29 35)) (am_lf 29 (a_aload 0 30)))) (am_nd 31 (am_lf 30 (a_const (nI 3) 31)) (am_nd 34 (am_lf 31 (a_cvI tT mX12_bad 12 1 34)) (am_lf 34 (a_zret))))) (am_nd 40 (am_nd 36 (am_lf 35 (a_aload 0 36)) (am_nd 39 (am_lf 36 (a_get tT 12 6 39)) (am_lf 39 (a_const (nI 3) 40)))) (am_nd 41 (am_lf 40 (a_aload 0 41)) (am_nd 44 (am_lf 41 (a_get tT 12 11 44)) (am_lf 44 (a_bin (fun x y => x * y) 45))))))
theorem gX12_aLine_0 : am_Good tT mX12_aLine tX12_aLine_0 := am_nd_ok (am_nd_ok (am_nd_ok (am_nd_ok (am_lf_ok (fun _ => ok_aload_n dX12_aLine_0 rfl rfl)) (am_nd_ok (am_lf_ok (fun _ => ok_get (C := RX12) (TT := TX12) (N := 31) rfl inw_X12 (Nat.le_of_ble_eq_true rfl) wd_495 dX12_aLine_1 rfl)) (am_lf_ok (fun _ => ok_bipush dX12_aLine_4 cv_bipush_20 rfl)))) (am_nd_ok (am_lf_ok (fun _ => ok_bipush dX12_aLine_6 cv_bipush_21 rfl)) (am_nd_ok (am_lf_ok (fun _ => ok_csI rfl mw_X12_isIn wd_449 wd_450 dX12_aLine_8 rfl)) (am_lf_ok (fun _ => ok_if_ne dX12_aLine_11 rfl rfl))))) (am_nd_ok (am_nd_ok (am_lf_ok (fun _ => ok_aload_n dX12_aLine_14 rfl rfl)) (am_nd_ok (am_lf_ok (fun _ => ok_iconst dX12_aLine_15 cv_iconst_1 rfl)) (am_lf_ok (fun _ => ok_cvI rfl mw_X12_bad (ci := 12) rfl rfl wd_506 wd_507 wd_508 dX12_aLine_16 rfl)))) (am_nd_ok (am_lf_ok (fun _ => ok_zret rfl dX12_aLine_19)) (am_nd_ok (am_lf_ok (fun _ => ok_aload_n dX12_aLine_20 rfl rfl)) (am_lf_ok (fun _ => ok_get (C := RX12) (TT := TX12) (N := 31) rfl inw_X12 (Nat.le_of_ble_eq_true rfl) wd_542 dX12_aLine_21 rfl)))))) (am_nd_ok (am_nd_ok (am_nd_ok (am_lf_ok (fun _ => ok_bipush dX12_aLine_24 cv_bipush_16 rfl)) (am_nd_ok (am_lf_ok (fun _ => ok_cmp_ne dX12_aLine_26 rfl rfl)) (am_lf_ok (fun _ => ok_aload_n dX12_aLine_29 rfl rfl)))) (am_nd_ok (am_lf_ok (fun _ => ok_iconst dX12_aLine_30 cv_iconst_3 rfl)) (am_nd_ok (am_lf_ok (fun _ => ok_cvI rfl mw_X12_bad (ci := 12) rfl rfl wd_506 wd_507 wd_508 dX12_aLine_31 rfl)) (am_lf_ok (fun _ => ok_zret rfl dX12_aLine_34))))) (am_nd_ok (am_nd_ok (am_lf_ok (fun _ => ok_aload_n dX12_aLine_35 rfl rfl)) (am_nd_ok (am_lf_ok (fun _ => ok_get (C := RX12) (TT := TX12) (N := 31) rfl inw_X12 (Nat.le_of_ble_eq_true rfl) wd_543 dX12_aLine_36 rfl)) (am_lf_ok (fun _ => ok_iconst dX12_aLine_39 cv_iconst_3 rfl)))) (am_nd_ok (am_lf_ok (fun _ => ok_aload_n dX12_aLine_40 rfl rfl)) (am_nd_ok (am_lf_ok (fun _ => ok_get (C := RX12) (TT := TX12) (N := 31) rfl inw_X12 (Nat.le_of_ble_eq_true rfl) wd_542 dX12_aLine_41 rfl)) (am_lf_ok (fun _ => ok_imul dX12_aLine_44 rfl))))))
def tX12_aLine_1 : Nat → Option am_Act := am_nd 66 (am_nd 54 (am_nd 51 (am_nd 46 (am_lf 45 (a_aload 0 46)) (am_nd 49 (am_lf 46 (a_get tT 12 15 49)) (am_lf 49 (a_const (nI 20) 51)))) (am_nd 52 (am_lf 51 (a_bin (fun x y => x - y) 52)) (am_nd 53 (am_lf 52 (a_iast tT 53)) (am_lf 53 (a_aload 0 54))))) (am_nd 59 (am_nd 55 (am_lf 54 (a_const (nI 0) 55)) (am_nd 58 (am_lf 55 (a_put tT 12 21 58)) (am_lf 58 (a_aload 0 59)))) (am_nd 62 (am_lf 59 (a_cvV tT mX12_next0 12 0 62)) (am_nd 63 (am_lf 62 (a_aload 0 63)) (am_lf 63 (a_get tT 12 6 66)))))) (am_nd 74 (am_nd 71 (am_nd 67 (am_lf 66 (a_const (nI 3) 67)) (am_nd 68 (am_lf 67 (a_aload 0 68)) (am_lf 68 (a_get tT 12 11 71)))) (am_nd 72 (am_lf 71 (a_bin (fun x y => x * y) 72)) (am_nd 73 (am_lf 72 (a_const (nI 1) 73)) (am_lf 73 (a_bin (fun x y => x + y) 74))))) (am_nd 79 (am_nd 75 (am_lf 74 (a_aload 0 75)) (am_nd 78 (am_lf 75 (a_get tT 12 12 78)) (am_lf 78 (a_iast tT 79)))) (am_nd 80 (am_lf 79 (a_aload 0 80)) (am_nd 83 (am_lf 80 (a_get tT 12 15 83)) (am_lf 83 (a_const (nI 3) 84))))))
theorem gX12_aLine_1 : am_Good tT mX12_aLine tX12_aLine_1 := am_nd_ok (am_nd_ok (am_nd_ok (am_nd_ok (am_lf_ok (fun _ => ok_aload_n dX12_aLine_45 rfl rfl)) (am_nd_ok (am_lf_ok (fun _ => ok_get (C := RX12) (TT := TX12) (N := 31) rfl inw_X12 (Nat.le_of_ble_eq_true rfl) wd_495 dX12_aLine_46 rfl)) (am_lf_ok (fun _ => ok_bipush dX12_aLine_49 cv_bipush_20 rfl)))) (am_nd_ok (am_lf_ok (fun _ => ok_isub dX12_aLine_51 rfl)) (am_nd_ok (am_lf_ok (fun _ => ok_iast dX12_aLine_52 rfl)) (am_lf_ok (fun _ => ok_aload_n dX12_aLine_53 rfl rfl))))) (am_nd_ok (am_nd_ok (am_lf_ok (fun _ => ok_iconst dX12_aLine_54 cv_iconst_0 rfl)) (am_nd_ok (am_lf_ok (fun _ => ok_put (C := RX12) (TT := TX12) (N := 31) (ty0 := tyX12) rfl inw_X12 tyX12_ok nmX12 (Nat.le_of_ble_eq_true rfl) rfl rfl wd_514 dX12_aLine_55 rfl)) (am_lf_ok (fun _ => ok_aload_n dX12_aLine_58 rfl rfl)))) (am_nd_ok (am_lf_ok (fun _ => ok_cvV rfl mw_X12_next0 (ci := 12) rfl rfl wd_509 wd_510 wd_511 dX12_aLine_59 rfl)) (am_nd_ok (am_lf_ok (fun _ => ok_aload_n dX12_aLine_62 rfl rfl)) (am_lf_ok (fun _ => ok_get (C := RX12) (TT := TX12) (N := 31) rfl inw_X12 (Nat.le_of_ble_eq_true rfl) wd_543 dX12_aLine_63 rfl)))))) (am_nd_ok (am_nd_ok (am_nd_ok (am_lf_ok (fun _ => ok_iconst dX12_aLine_66 cv_iconst_3 rfl)) (am_nd_ok (am_lf_ok (fun _ => ok_aload_n dX12_aLine_67 rfl rfl)) (am_lf_ok (fun _ => ok_get (C := RX12) (TT := TX12) (N := 31) rfl inw_X12 (Nat.le_of_ble_eq_true rfl) wd_542 dX12_aLine_68 rfl)))) (am_nd_ok (am_lf_ok (fun _ => ok_imul dX12_aLine_71 rfl)) (am_nd_ok (am_lf_ok (fun _ => ok_iconst dX12_aLine_72 cv_iconst_1 rfl)) (am_lf_ok (fun _ => ok_iadd dX12_aLine_73 rfl))))) (am_nd_ok (am_nd_ok (am_lf_ok (fun _ => ok_aload_n dX12_aLine_74 rfl rfl)) (am_nd_ok (am_lf_ok (fun _ => ok_get (C := RX12) (TT := TX12) (N := 31) rfl inw_X12 (Nat.le_of_ble_eq_true rfl) wd_513 dX12_aLine_75 rfl)) (am_lf_ok (fun _ => ok_iast dX12_aLine_78 rfl)))) (am_nd_ok (am_lf_ok (fun _ => ok_aload_n dX12_aLine_79 rfl rfl)) (am_nd_ok (am_lf_ok (fun _ => ok_get (C := RX12) (TT := TX12) (N := 31) rfl inw_X12 (Nat.le_of_ble_eq_true rfl) wd_495 dX12_aLine_80 rfl)) (am_lf_ok (fun _ => ok_iconst dX12_aLine_83 cv_iconst_3 rfl))))))
def tX12_aLine_2 : Nat → Option am_Act := am_nd 105 (am_nd 95 (am_nd 88 (am_nd 87 (am_lf 84 (a_cmp (fun x y => x = y) 87 100)) (am_lf 87 (a_aload 0 88))) (am_nd 91 (am_lf 88 (a_cvV tT mX12_next0 12 0 91)) (am_nd 92 (am_lf 91 (a_aload 0 92)) (am_lf 92 (a_cvI tT mX12_any 12 0 95))))) (am_nd 100 (am_nd 98 (am_lf 95 (a_if (fun x => x = nI 0) 98 100)) (am_nd 99 (am_lf 98 (a_const (nI 0) 99)) (am_lf 99 (a_zret)))) (am_nd 101 (am_lf 100 (a_aload 0 101)) (am_nd 104 (am_lf 101 (a_get tT 12 6 104)) (am_lf 104 (a_const (nI 3) 105)))))) (am_nd 113 (am_nd 110 (am_nd 106 (am_lf 105 (a_aload 0 106)) (am_nd 109 (am_lf 106 (a_get tT 12 11 109)) (am_lf 109 (a_bin (fun x y => x * y) 110)))) (am_nd 111 (am_lf 110 (a_const (nI 2) 111)) (am_nd 112 (am_lf 111 (a_bin (fun x y => x + y) 112)) (am_lf 112 (a_aload 0 113))))) (am_nd 118 (am_nd 116 (am_lf 113 (a_get tT 12 12 116)) (am_nd 117 (am_lf 116 (a_iast tT 117)) (am_lf 117 (a_aload 0 118)))) (am_nd 121 (am_lf 118 (a_const (nI 159) 121)) (am_nd 124 (am_lf 121 (a_cvI tT mX12_need 12 1 124)) (am_lf 124 (a_zret))))))
theorem gX12_aLine_2 : am_Good tT mX12_aLine tX12_aLine_2 := am_nd_ok (am_nd_ok (am_nd_ok (am_nd_ok (am_lf_ok (fun _ => ok_cmp_ne dX12_aLine_84 rfl rfl)) (am_lf_ok (fun _ => ok_aload_n dX12_aLine_87 rfl rfl))) (am_nd_ok (am_lf_ok (fun _ => ok_cvV rfl mw_X12_next0 (ci := 12) rfl rfl wd_509 wd_510 wd_511 dX12_aLine_88 rfl)) (am_nd_ok (am_lf_ok (fun _ => ok_aload_n dX12_aLine_91 rfl rfl)) (am_lf_ok (fun _ => ok_cvI rfl mw_X12_any (ci := 12) rfl rfl wd_533 wd_534 wd_535 dX12_aLine_92 rfl))))) (am_nd_ok (am_nd_ok (am_lf_ok (fun _ => ok_if_ne dX12_aLine_95 rfl rfl)) (am_nd_ok (am_lf_ok (fun _ => ok_iconst dX12_aLine_98 cv_iconst_0 rfl)) (am_lf_ok (fun _ => ok_zret rfl dX12_aLine_99)))) (am_nd_ok (am_lf_ok (fun _ => ok_aload_n dX12_aLine_100 rfl rfl)) (am_nd_ok (am_lf_ok (fun _ => ok_get (C := RX12) (TT := TX12) (N := 31) rfl inw_X12 (Nat.le_of_ble_eq_true rfl) wd_543 dX12_aLine_101 rfl)) (am_lf_ok (fun _ => ok_iconst dX12_aLine_104 cv_iconst_3 rfl)))))) (am_nd_ok (am_nd_ok (am_nd_ok (am_lf_ok (fun _ => ok_aload_n dX12_aLine_105 rfl rfl)) (am_nd_ok (am_lf_ok (fun _ => ok_get (C := RX12) (TT := TX12) (N := 31) rfl inw_X12 (Nat.le_of_ble_eq_true rfl) wd_542 dX12_aLine_106 rfl)) (am_lf_ok (fun _ => ok_imul dX12_aLine_109 rfl)))) (am_nd_ok (am_lf_ok (fun _ => ok_iconst dX12_aLine_110 cv_iconst_2 rfl)) (am_nd_ok (am_lf_ok (fun _ => ok_iadd dX12_aLine_111 rfl)) (am_lf_ok (fun _ => ok_aload_n dX12_aLine_112 rfl rfl))))) (am_nd_ok (am_nd_ok (am_lf_ok (fun _ => ok_get (C := RX12) (TT := TX12) (N := 31) rfl inw_X12 (Nat.le_of_ble_eq_true rfl) wd_513 dX12_aLine_113 rfl)) (am_nd_ok (am_lf_ok (fun _ => ok_iast dX12_aLine_116 rfl)) (am_lf_ok (fun _ => ok_aload_n dX12_aLine_117 rfl rfl)))) (am_nd_ok (am_lf_ok (fun _ => ok_sipush dX12_aLine_118 cv_sipush_159 rfl)) (am_nd_ok (am_lf_ok (fun _ => ok_cvI rfl mw_X12_need (ci := 12) rfl rfl wd_536 wd_537 wd_538 dX12_aLine_121 rfl)) (am_lf_ok (fun _ => ok_zret rfl dX12_aLine_124))))))
def tX12_aLine : Nat → Option am_Act := am_nd 45 (tX12_aLine_0) (am_nd 84 (tX12_aLine_1) (tX12_aLine_2))
theorem gX12_aLine : am_Good tT mX12_aLine tX12_aLine := am_nd_ok (gX12_aLine_0) (am_nd_ok (gX12_aLine_1) (gX12_aLine_2))
theorem dX12_text_0 : decode cX12_text 0 = .ok (.aload_n 0, 1) := by decide +kernel
theorem dX12_text_1 : decode cX12_text 1 = .ok (.iconst 0, 1) := by decide +kernel
theorem dX12_text_2 : decode cX12_text 2 = .ok (.putfield 169, 3) := by decide +kernel
theorem dX12_text_5 : decode cX12_text 5 = .ok (.aload_n 0, 1) := by decide +kernel
theorem dX12_text_6 : decode cX12_text 6 = .ok (.iconst 0, 1) := by decide +kernel
theorem dX12_text_7 : decode cX12_text 7 = .ok (.putfield 100, 3) := by decide +kernel
theorem dX12_text_10 : decode cX12_text 10 = .ok (.aload_n 0, 1) := by decide +kernel
theorem dX12_text_11 : decode cX12_text 11 = .ok (.iconst 0, 1) := by decide +kernel
theorem dX12_text_12 : decode cX12_text 12 = .ok (.putfield 215, 3) := by decide +kernel
theorem dX12_text_15 : decode cX12_text 15 = .ok (.aload_n 0, 1) := by decide +kernel
theorem dX12_text_16 : decode cX12_text 16 = .ok (.iconst 0, 1) := by decide +kernel
theorem dX12_text_17 : decode cX12_text 17 = .ok (.putfield 181, 3) := by decide +kernel
theorem dX12_text_20 : decode cX12_text 20 = .ok (.aload_n 0, 1) := by decide +kernel
theorem dX12_text_21 : decode cX12_text 21 = .ok (.invokevirtual 178, 3) := by decide +kernel
theorem dX12_text_24 : decode cX12_text 24 = .ok (.iconst 1, 1) := by decide +kernel
theorem dX12_text_25 : decode cX12_text 25 = .ok (.istore_n 1, 1) := by decide +kernel
theorem dX12_text_26 : decode cX12_text 26 = .ok (.iload_n 1, 1) := by decide +kernel
theorem dX12_text_27 : decode cX12_text 27 = .ok (.ifCond .eq 36, 3) := by decide +kernel
theorem dX12_text_30 : decode cX12_text 30 = .ok (.aload_n 0, 1) := by decide +kernel
theorem dX12_text_31 : decode cX12_text 31 = .ok (.getfield 154, 3) := by decide +kernel
theorem dX12_text_34 : decode cX12_text 34 = .ok (.ifCond .eq 29, 3) := by decide +kernel
theorem dX12_text_37 : decode cX12_text 37 = .ok (.aload_n 0, 1) := by decide +kernel
theorem dX12_text_38 : decode cX12_text 38 = .ok (.invokevirtual 218, 3) := by decide +kernel
theorem dX12_text_41 : decode cX12_text 41 = .ok (.istore_n 1, 1) := by decide +kernel
theorem dX12_text_42 : decode cX12_text 42 = .ok (.aload_n 0, 1) := by decide +kernel
theorem dX12_text_43 : decode cX12_text 43 = .ok (.dup, 1) := by decide +kernel
theorem dX12_text_44 : decode cX12_text 44 = .ok (.getfield 215, 3) := by decide +kernel
theorem dX12_text_47 : decode cX12_text 47 = .ok (.iload_n 1, 1) := by decide +kernel
theorem dX12_text_48 : decode cX12_text 48 = .ok (.ifCond .eq 7, 3) := by decide +kernel
theorem dX12_text_51 : decode cX12_text 51 = .ok (.iconst 1, 1) := by decide +kernel
theorem dX12_text_52 : decode cX12_text 52 = .ok (.goto 4, 3) := by decide +kernel
theorem dX12_text_55 : decode cX12_text 55 = .ok (.iconst 0, 1) := by decide +kernel
theorem dX12_text_56 : decode cX12_text 56 = .ok (.iadd, 1) := by decide +kernel
theorem dX12_text_57 : decode cX12_text 57 = .ok (.putfield 215, 3) := by decide +kernel
theorem dX12_text_60 : decode cX12_text 60 = .ok (.goto (-34), 3) := by decide +kernel
theorem dX12_text_63 : decode cX12_text 63 = .ok (.aload_n 0, 1) := by decide +kernel
theorem dX12_text_64 : decode cX12_text 64 = .ok (.iconst 0, 1) := by decide +kernel
theorem dX12_text_65 : decode cX12_text 65 = .ok (.putfield 97, 3) := by decide +kernel
theorem dX12_text_68 : decode cX12_text 68 = .ok (.aload_n 0, 1) := by decide +kernel
theorem dX12_text_69 : decode cX12_text 69 = .ok (.aload_n 0, 1) := by decide +kernel
theorem dX12_text_70 : decode cX12_text 70 = .ok (.getfield 169, 3) := by decide +kernel
theorem dX12_text_73 : decode cX12_text 73 = .ok (.putfield 221, 3) := by decide +kernel
theorem dX12_text_76 : decode cX12_text 76 = .ok (.aload_n 0, 1) := by decide +kernel
theorem dX12_text_77 : decode cX12_text 77 = .ok (.iload_n 1, 1) := by decide +kernel
theorem dX12_text_78 : decode cX12_text 78 = .ok (.ifCond .eq 7, 3) := by decide +kernel
theorem dX12_text_81 : decode cX12_text 81 = .ok (.iconst (-1), 1) := by decide +kernel
theorem dX12_text_82 : decode cX12_text 82 = .ok (.goto 7, 3) := by decide +kernel
theorem dX12_text_85 : decode cX12_text 85 = .ok (.aload_n 0, 1) := by decide +kernel
theorem dX12_text_86 : decode cX12_text 86 = .ok (.getfield 172, 3) := by decide +kernel
theorem dX12_text_89 : decode cX12_text 89 = .ok (.putfield 37, 3) := by decide +kernel
theorem dX12_text_92 : decode cX12_text 92 = .ok (.iload_n 1, 1) := by decide +kernel
theorem dX12_text_93 : decode cX12_text 93 = .ok (.ifCond .ne 5, 3) := by decide +kernel
theorem dX12_text_96 : decode cX12_text 96 = .ok (.iconst (-1), 1) := by decide +kernel
theorem dX12_text_97 : decode cX12_text 97 = .ok (.ireturn, 1) := by decide +kernel
theorem dX12_text_98 : decode cX12_text 98 = .ok (.aload_n 0, 1) := by decide +kernel
theorem dX12_text_99 : decode cX12_text 99 = .ok (.getfield 7, 3) := by decide +kernel
theorem dX12_text_102 : decode cX12_text 102 = .ok (.sipush 865, 3) := by decide +kernel
theorem dX12_text_105 : decode cX12_text 105 = .ok (.aload_n 0, 1) := by decide +kernel
theorem dX12_text_106 : decode cX12_text 106 = .ok (.getfield 215, 3) := by decide +kernel
theorem dX12_text_109 : decode cX12_text 109 = .ok (.iastore, 1) := by decide +kernel
theorem dX12_text_110 : decode cX12_text 110 = .ok (.iconst 0, 1) := by decide +kernel
theorem dX12_text_111 : decode cX12_text 111 = .ok (.istore_n 2, 1) := by decide +kernel
theorem dX12_text_112 : decode cX12_text 112 = .ok (.iload_n 2, 1) := by decide +kernel
theorem dX12_text_113 : decode cX12_text 113 = .ok (.aload_n 0, 1) := by decide +kernel
theorem dX12_text_114 : decode cX12_text 114 = .ok (.getfield 215, 3) := by decide +kernel
theorem dX12_text_117 : decode cX12_text 117 = .ok (.if_icmp .ge 67, 3) := by decide +kernel
theorem dX12_text_120 : decode cX12_text 120 = .ok (.aload_n 0, 1) := by decide +kernel
theorem dX12_text_121 : decode cX12_text 121 = .ok (.getfield 7, 3) := by decide +kernel
theorem dX12_text_124 : decode cX12_text 124 = .ok (.sipush 870, 3) := by decide +kernel
theorem dX12_text_127 : decode cX12_text 127 = .ok (.iload_n 2, 1) := by decide +kernel
theorem dX12_text_128 : decode cX12_text 128 = .ok (.iadd, 1) := by decide +kernel
theorem dX12_text_129 : decode cX12_text 129 = .ok (.aload_n 0, 1) := by decide +kernel
theorem dX12_text_130 : decode cX12_text 130 = .ok (.getfield 22, 3) := by decide +kernel
theorem dX12_text_133 : decode cX12_text 133 = .ok (.iconst 3, 1) := by decide +kernel
theorem dX12_text_134 : decode cX12_text 134 = .ok (.iload_n 2, 1) := by decide +kernel
theorem dX12_text_135 : decode cX12_text 135 = .ok (.imul, 1) := by decide +kernel
theorem dX12_text_136 : decode cX12_text 136 = .ok (.iaload, 1) := by decide +kernel
theorem dX12_text_137 : decode cX12_text 137 = .ok (.iastore, 1) := by decide +kernel
theorem dX12_text_138 : decode cX12_text 138 = .ok (.aload_n 0, 1) := by decide +kernel
theorem dX12_text_139 : decode cX12_text 139 = .ok (.getfield 7, 3) := by decide +kernel
theorem dX12_text_142 : decode cX12_text 142 = .ok (.sipush 890, 3) := by decide +kernel
theorem dX12_text_145 : decode cX12_text 145 = .ok (.iload_n 2, 1) := by decide +kernel
theorem dX12_text_146 : decode cX12_text 146 = .ok (.iadd, 1) := by decide +kernel
theorem dX12_text_147 : decode cX12_text 147 = .ok (.aload_n 0, 1) := by decide +kernel
theorem dX12_text_148 : decode cX12_text 148 = .ok (.getfield 22, 3) := by decide +kernel
theorem dX12_text_151 : decode cX12_text 151 = .ok (.iconst 3, 1) := by decide +kernel
theorem dX12_text_152 : decode cX12_text 152 = .ok (.iload_n 2, 1) := by decide +kernel
theorem dX12_text_153 : decode cX12_text 153 = .ok (.imul, 1) := by decide +kernel
theorem dX12_text_154 : decode cX12_text 154 = .ok (.iconst 1, 1) := by decide +kernel
theorem dX12_text_155 : decode cX12_text 155 = .ok (.iadd, 1) := by decide +kernel
theorem dX12_text_156 : decode cX12_text 156 = .ok (.iaload, 1) := by decide +kernel
theorem dX12_text_157 : decode cX12_text 157 = .ok (.iastore, 1) := by decide +kernel
theorem dX12_text_158 : decode cX12_text 158 = .ok (.aload_n 0, 1) := by decide +kernel
theorem dX12_text_159 : decode cX12_text 159 = .ok (.getfield 7, 3) := by decide +kernel
theorem dX12_text_162 : decode cX12_text 162 = .ok (.sipush 910, 3) := by decide +kernel
theorem dX12_text_165 : decode cX12_text 165 = .ok (.iload_n 2, 1) := by decide +kernel
theorem dX12_text_166 : decode cX12_text 166 = .ok (.iadd, 1) := by decide +kernel
theorem dX12_text_167 : decode cX12_text 167 = .ok (.aload_n 0, 1) := by decide +kernel
theorem dX12_text_168 : decode cX12_text 168 = .ok (.getfield 22, 3) := by decide +kernel
theorem dX12_text_171 : decode cX12_text 171 = .ok (.iconst 3, 1) := by decide +kernel
theorem dX12_text_172 : decode cX12_text 172 = .ok (.iload_n 2, 1) := by decide +kernel
theorem dX12_text_173 : decode cX12_text 173 = .ok (.imul, 1) := by decide +kernel
theorem dX12_text_174 : decode cX12_text 174 = .ok (.iconst 2, 1) := by decide +kernel
theorem dX12_text_175 : decode cX12_text 175 = .ok (.iadd, 1) := by decide +kernel
theorem dX12_text_176 : decode cX12_text 176 = .ok (.iaload, 1) := by decide +kernel
theorem dX12_text_177 : decode cX12_text 177 = .ok (.iastore, 1) := by decide +kernel
theorem dX12_text_178 : decode cX12_text 178 = .ok (.iinc 2 1, 3) := by decide +kernel
theorem dX12_text_181 : decode cX12_text 181 = .ok (.goto (-69), 3) := by decide +kernel
theorem dX12_text_184 : decode cX12_text 184 = .ok (.iconst 0, 1) := by decide +kernel
theorem dX12_text_185 : decode cX12_text 185 = .ok (.istore_n 2, 1) := by decide +kernel
theorem dX12_text_186 : decode cX12_text 186 = .ok (.iload_n 2, 1) := by decide +kernel
theorem dX12_text_187 : decode cX12_text 187 = .ok (.iconst 2, 1) := by decide +kernel
theorem dX12_text_188 : decode cX12_text 188 = .ok (.aload_n 0, 1) := by decide +kernel
theorem dX12_text_189 : decode cX12_text 189 = .ok (.getfield 181, 3) := by decide +kernel
theorem dX12_text_192 : decode cX12_text 192 = .ok (.imul, 1) := by decide +kernel
theorem dX12_text_193 : decode cX12_text 193 = .ok (.if_icmp .ge 25, 3) := by decide +kernel
theorem dX12_text_196 : decode cX12_text 196 = .ok (.aload_n 0, 1) := by decide +kernel
theorem dX12_text_197 : decode cX12_text 197 = .ok (.getfield 7, 3) := by decide +kernel
theorem dX12_text_200 : decode cX12_text 200 = .ok (.sipush 930, 3) := by decide +kernel
theorem dX12_text_203 : decode cX12_text 203 = .ok (.iload_n 2, 1) := by decide +kernel
theorem dX12_text_204 : decode cX12_text 204 = .ok (.iadd, 1) := by decide +kernel
theorem dX12_text_205 : decode cX12_text 205 = .ok (.aload_n 0, 1) := by decide +kernel
theorem dX12_text_206 : decode cX12_text 206 = .ok (.getfield 25, 3) := by decide +kernel
theorem dX12_text_209 : decode cX12_text 209 = .ok (.iload_n 2, 1) := by decide +kernel
theorem dX12_text_210 : decode cX12_text 210 = .ok (.iaload, 1) := by decide +kernel
theorem dX12_text_211 : decode cX12_text 211 = .ok (.iastore, 1) := by decide +kernel
theorem dX12_text_212 : decode cX12_text 212 = .ok (.iinc 2 1, 3) := by decide +kernel
theorem dX12_text_215 : decode cX12_text 215 = .ok (.goto (-29), 3) := by decide +kernel
theorem dX12_text_218 : decode cX12_text 218 = .ok (.aload_n 0, 1) := by decide +kernel
theorem dX12_text_219 : decode cX12_text 219 = .ok (.getfield 215, 3) := by decide +kernel
theorem dX12_text_222 : decode cX12_text 222 = .ok (.ireturn, 1) := by decide +kernel
def tX12_text_0 : Nat → Option am_Act := am_nd 20 (am_nd 10 (am_nd 5 (am_nd 1 (am_lf 0 (a_aload 0 1)) (am_nd 2 (am_lf 1 (a_const (nI 0) 2)) (am_lf 2 (a_put tT 12 18 5)))) (am_nd 6 (am_lf 5 (a_aload 0 6)) (am_nd 7 (am_lf 6 (a_const (nI 0) 7)) (am_lf 7 (a_put tT 12 14 10))))) (am_nd 15 (am_nd 11 (am_lf 10 (a_aload 0 11)) (am_nd 12 (am_lf 11 (a_const (nI 0) 12)) (am_lf 12 (a_put tT 12 11 15)))) (am_nd 16 (am_lf 15 (a_aload 0 16)) (am_nd 17 (am_lf 16 (a_const (nI 0) 17)) (am_lf 17 (a_put tT 12 12 20)))))) (am_nd 30 (am_nd 25 (am_nd 21 (am_lf 20 (a_aload 0 21)) (am_nd 24 (am_lf 21 (a_cvV tT mX12_next0 12 0 24)) (am_lf 24 (a_const (nI 1) 25)))) (am_nd 26 (am_lf 25 (a_istore 1 26)) (am_nd 27 (am_lf 26 (a_iload 1 27)) (am_lf 27 (a_if (fun x => x = nI 0) 63 30))))) (am_nd 37 (am_nd 31 (am_lf 30 (a_aload 0 31)) (am_nd 34 (am_lf 31 (a_get tT 12 15 34)) (am_lf 34 (a_if (fun x => x = nI 0) 63 37)))) (am_nd 38 (am_lf 37 (a_aload 0 38)) (am_nd 41 (am_lf 38 (a_cvI tT mX12_aLine 12 0 41)) (am_lf 41 (a_istore 1 42))))))
theorem gX12_text_0 : am_Good tT mX12_text tX12_text_0 := am_nd_ok (am_nd_ok (am_nd_ok (am_nd_ok (am_lf_ok (fun _ => ok_aload_n dX12_text_0 rfl rfl)) (am_nd_ok (am_lf_ok (fun _ => ok_iconst dX12_text_1 cv_iconst_0 rfl)) (am_lf_ok (fun _ => ok_put (C := RX12) (TT := TX12) (N := 31) (ty0 := tyX12) rfl inw_X12 tyX12_ok nmX12 (Nat.le_of_ble_eq_true rfl) rfl rfl wd_504 dX12_text_2 rfl)))) (am_nd_ok (am_lf_ok (fun _ => ok_aload_n dX12_text_5 rfl rfl)) (am_nd_ok (am_lf_ok (fun _ => ok_iconst dX12_text_6 cv_iconst_0 rfl)) (am_lf_ok (fun _ => ok_put (C := RX12) (TT := TX12) (N := 31) (ty0 := tyX12) rfl inw_X12 tyX12_ok nmX12 (Nat.le_of_ble_eq_true rfl) rfl rfl wd_482 dX12_text_7 rfl))))) (am_nd_ok (am_nd_ok (am_lf_ok (fun _ => ok_aload_n dX12_text_10 rfl rfl)) (am_nd_ok (am_lf_ok (fun _ => ok_iconst dX12_text_11 cv_iconst_0 rfl)) (am_lf_ok (fun _ => ok_put (C := RX12) (TT := TX12) (N := 31) (ty0 := tyX12) rfl inw_X12 tyX12_ok nmX12 (Nat.le_of_ble_eq_true rfl) rfl rfl wd_542 dX12_text_12 rfl)))) (am_nd_ok (am_lf_ok (fun _ => ok_aload_n dX12_text_15 rfl rfl)) (am_nd_ok (am_lf_ok (fun _ => ok_iconst dX12_text_16 cv_iconst_0 rfl)) (am_lf_ok (fun _ => ok_put (C := RX12) (TT := TX12) (N := 31) (ty0 := tyX12) rfl inw_X12 tyX12_ok nmX12 (Nat.le_of_ble_eq_true rfl) rfl rfl wd_513 dX12_text_17 rfl)))))) (am_nd_ok (am_nd_ok (am_nd_ok (am_lf_ok (fun _ => ok_aload_n dX12_text_20 rfl rfl)) (am_nd_ok (am_lf_ok (fun _ => ok_cvV rfl mw_X12_next0 (ci := 12) rfl rfl wd_509 wd_510 wd_511 dX12_text_21 rfl)) (am_lf_ok (fun _ => ok_iconst dX12_text_24 cv_iconst_1 rfl)))) (am_nd_ok (am_lf_ok (fun _ => ok_istore_n dX12_text_25 rfl (Nat.le_of_ble_eq_true rfl) rfl)) (am_nd_ok (am_lf_ok (fun _ => ok_iload_n dX12_text_26 rfl rfl)) (am_lf_ok (fun _ => ok_if_eq dX12_text_27 rfl rfl))))) (am_nd_ok (am_nd_ok (am_lf_ok (fun _ => ok_aload_n dX12_text_30 rfl rfl)) (am_nd_ok (am_lf_ok (fun _ => ok_get (C := RX12) (TT := TX12) (N := 31) rfl inw_X12 (Nat.le_of_ble_eq_true rfl) wd_495 dX12_text_31 rfl)) (am_lf_ok (fun _ => ok_if_eq dX12_text_34 rfl rfl)))) (am_nd_ok (am_lf_ok (fun _ => ok_aload_n dX12_text_37 rfl rfl)) (am_nd_ok (am_lf_ok (fun _ => ok_cvI rfl mw_X12_aLine (ci := 12) rfl rfl wd_544 wd_545 wd_546 dX12_text_38 rfl)) (am_lf_ok (fun _ => ok_istore_n dX12_text_41 rfl (Nat.le_of_ble_eq_true rfl) rfl))))))
def tX12_text_1 : Nat → Option am_Act := am_nd 64 (am_nd 52 (am_nd 47 (am_nd 43 (am_lf 42 (a_aload 0 43)) (am_nd 44 (am_lf 43 (a_dup 44)) (am_lf 44 (a_get tT 12 11 47)))) (am_nd 48 (am_lf 47 (a_iload 1 48)) (am_nd 51 (am_lf 48 (a_if (fun x => x = nI 0) 55 51)) (am_lf 51 (a_const (nI 1) 52))))) (am_nd 57 (am_nd 55 (am_lf 52 (a_goto 56)) (am_nd 56 (am_lf 55 (a_const (nI 0) 56)) (am_lf 56 (a_bin (fun x y => x + y) 57)))) (am_nd 60 (am_lf 57 (a_put tT 12 11 60)) (am_nd 63 (am_lf 60 (a_goto 26)) (am_lf 63 (a_aload 0 64)))))) (am_nd 76 (am_nd 69 (am_nd 65 (am_lf 64 (a_const (nI 0) 65)) (am_nd 68 (am_lf 65 (a_put tT 12 13 68)) (am_lf 68 (a_aload 0 69)))) (am_nd 70 (am_lf 69 (a_aload 0 70)) (am_nd 73 (am_lf 70 (a_get tT 12 18 73)) (am_lf 73 (a_put tT 12 20 76))))) (am_nd 81 (am_nd 77 (am_lf 76 (a_aload 0 77)) (am_nd 78 (am_lf 77 (a_iload 1 78)) (am_lf 78 (a_if (fun x => x = nI 0) 85 81)))) (am_nd 82 (am_lf 81 (a_const (-1) 82)) (am_nd 85 (am_lf 82 (a_goto 89)) (am_lf 85 (a_aload 0 86))))))
theorem gX12_text_1 : am_Good tT mX12_text tX12_text_1 := am_nd_ok (am_nd_ok (am_nd_ok (am_nd_ok (am_lf_ok (fun _ => ok_aload_n dX12_text_42 rfl rfl)) (am_nd_ok (am_lf_ok (fun _ => ok_dup dX12_text_43 rfl)) (am_lf_ok (fun _ => ok_get (C := RX12) (TT := TX12) (N := 31) rfl inw_X12 (Nat.le_of_ble_eq_true rfl) wd_542 dX12_text_44 rfl)))) (am_nd_ok (am_lf_ok (fun _ => ok_iload_n dX12_text_47 rfl rfl)) (am_nd_ok (am_lf_ok (fun _ => ok_if_eq dX12_text_48 rfl rfl)) (am_lf_ok (fun _ => ok_iconst dX12_text_51 cv_iconst_1 rfl))))) (am_nd_ok (am_nd_ok (am_lf_ok (fun _ => ok_goto dX12_text_52 rfl)) (am_nd_ok (am_lf_ok (fun _ => ok_iconst dX12_text_55 cv_iconst_0 rfl)) (am_lf_ok (fun _ => ok_iadd dX12_text_56 rfl)))) (am_nd_ok (am_lf_ok (fun _ => ok_put (C := RX12) (TT := TX12) (N := 31) (ty0 := tyX12) rfl inw_X12 tyX12_ok nmX12 (Nat.le_of_ble_eq_true rfl) rfl rfl wd_542 dX12_text_57 rfl)) (am_nd_ok (am_lf_ok (fun _ => ok_goto dX12_text_60 rfl)) (am_lf_ok (fun _ => ok_aload_n dX12_text_63 rfl rfl)))))) (am_nd_ok (am_nd_ok (am_nd_ok (am_lf_ok (fun _ => ok_iconst dX12_text_64 cv_iconst_0 rfl)) (am_nd_ok (am_lf_ok (fun _ => ok_put (C := RX12) (TT := TX12) (N := 31) (ty0 := tyX12) rfl inw_X12 tyX12_ok nmX12 (Nat.le_of_ble_eq_true rfl) rfl rfl wd_480 dX12_text_65 rfl)) (am_lf_ok (fun _ => ok_aload_n dX12_text_68 rfl rfl)))) (am_nd_ok (am_lf_ok (fun _ => ok_aload_n dX12_text_69 rfl rfl)) (am_nd_ok (am_lf_ok (fun _ => ok_get (C := RX12) (TT := TX12) (N := 31) rfl inw_X12 (Nat.le_of_ble_eq_true rfl) wd_504 dX12_text_70 rfl)) (am_lf_ok (fun _ => ok_put (C := RX12) (TT := TX12) (N := 31) (ty0 := tyX12) rfl inw_X12 tyX12_ok nmX12 (Nat.le_of_ble_eq_true rfl) rfl rfl wd_547 dX12_text_73 rfl))))) (am_nd_ok (am_nd_ok (am_lf_ok (fun _ => ok_aload_n dX12_text_76 rfl rfl)) (am_nd_ok (am_lf_ok (fun _ => ok_iload_n dX12_text_77 rfl rfl)) (am_lf_ok (fun _ => ok_if_eq dX12_text_78 rfl rfl)))) (am_nd_ok (am_lf_ok (fun _ => ok_iconst dX12_text_81 cv_iconst_m1 rfl)) (am_nd_ok (am_lf_ok (fun _ => ok_goto dX12_text_82 rfl)) (am_lf_ok (fun _ => ok_aload_n dX12_text_85 rfl rfl))))))
def tX12_text_2 : Nat → Option am_Act := am_nd 110 (am_nd 98 (am_nd 93 (am_nd 89 (am_lf 86 (a_get tT 12 19 89)) (am_nd 92 (am_lf 89 (a_put tT 12 22 92)) (am_lf 92 (a_iload 1 93)))) (am_nd 96 (am_lf 93 (a_if (fun x => x = nI 0) 96 98)) (am_nd 97 (am_lf 96 (a_const (-1) 97)) (am_lf 97 (a_iret))))) (am_nd 105 (am_nd 99 (am_lf 98 (a_aload 0 99)) (am_nd 102 (am_lf 99 (a_get tT 12 0 102)) (am_lf 102 (a_const (nI 865) 105)))) (am_nd 106 (am_lf 105 (a_aload 0 106)) (am_nd 109 (am_lf 106 (a_get tT 12 11 109)) (am_lf 109 (a_iast tT 110)))))) (am_nd 120 (am_nd 113 (am_nd 111 (am_lf 110 (a_const (nI 0) 111)) (am_nd 112 (am_lf 111 (a_istore 2 112)) (am_lf 112 (a_iload 2 113)))) (am_nd 114 (am_lf 113 (a_aload 0 114)) (am_nd 117 (am_lf 114 (a_get tT 12 11 117)) (am_lf 117 (a_cmp (fun x y => y ≤ x) 184 120))))) (am_nd 127 (am_nd 121 (am_lf 120 (a_aload 0 121)) (am_nd 124 (am_lf 121 (a_get tT 12 0 124)) (am_lf 124 (a_const (nI 870) 127)))) (am_nd 128 (am_lf 127 (a_iload 2 128)) (am_nd 129 (am_lf 128 (a_bin (fun x y => x + y) 129)) (am_lf 129 (a_aload 0 130))))))
theorem gX12_text_2 : am_Good tT mX12_text tX12_text_2 := am_nd_ok (am_nd_ok (am_nd_ok (am_nd_ok (am_lf_ok (fun _ => ok_get (C := RX12) (TT := TX12) (N := 31) rfl inw_X12 (Nat.le_of_ble_eq_true rfl) wd_505 dX12_text_86 rfl)) (am_nd_ok (am_lf_ok (fun _ => ok_put (C := RX12) (TT := TX12) (N := 31) (ty0 := tyX12) rfl inw_X12 tyX12_ok nmX12 (Nat.le_of_ble_eq_true rfl) rfl rfl wd_548 dX12_text_89 rfl)) (am_lf_ok (fun _ => ok_iload_n dX12_text_92 rfl rfl)))) (am_nd_ok (am_lf_ok (fun _ => ok_if_ne dX12_text_93 rfl rfl)) (am_nd_ok (am_lf_ok (fun _ => ok_iconst dX12_text_96 cv_iconst_m1 rfl)) (am_lf_ok (fun _ => ok_iret rfl dX12_text_97))))) (am_nd_ok (am_nd_ok (am_lf_ok (fun _ => ok_aload_n dX12_text_98 rfl rfl)) (am_nd_ok (am_lf_ok (fun _ => ok_get (C := RX12) (TT := TX12) (N := 31) rfl inw_X12 (Nat.le_of_ble_eq_true rfl) wd_448 dX12_text_99 rfl)) (am_lf_ok (fun _ => ok_sipush dX12_text_102 cv_sipush_865 rfl)))) (am_nd_ok (am_lf_ok (fun _ => ok_aload_n dX12_text_105 rfl rfl)) (am_nd_ok (am_lf_ok (fun _ => ok_get (C := RX12) (TT := TX12) (N := 31) rfl inw_X12 (Nat.le_of_ble_eq_true rfl) wd_542 dX12_text_106 rfl)) (am_lf_ok (fun _ => ok_iast dX12_text_109 rfl)))))) (am_nd_ok (am_nd_ok (am_nd_ok (am_lf_ok (fun _ => ok_iconst dX12_text_110 cv_iconst_0 rfl)) (am_nd_ok (am_lf_ok (fun _ => ok_istore_n dX12_text_111 rfl (Nat.le_of_ble_eq_true rfl) rfl)) (am_lf_ok (fun _ => ok_iload_n dX12_text_112 rfl rfl)))) (am_nd_ok (am_lf_ok (fun _ => ok_aload_n dX12_text_113 rfl rfl)) (am_nd_ok (am_lf_ok (fun _ => ok_get (C := RX12) (TT := TX12) (N := 31) rfl inw_X12 (Nat.le_of_ble_eq_true rfl) wd_542 dX12_text_114 rfl)) (am_lf_ok (fun _ => ok_cmp_ge dX12_text_117 rfl rfl))))) (am_nd_ok (am_nd_ok (am_lf_ok (fun _ => ok_aload_n dX12_text_120 rfl rfl)) (am_nd_ok (am_lf_ok (fun _ => ok_get (C := RX12) (TT := TX12) (N := 31) rfl inw_X12 (Nat.le_of_ble_eq_true rfl) wd_448 dX12_text_121 rfl)) (am_lf_ok (fun _ => ok_sipush dX12_text_124 cv_sipush_870 rfl)))) (am_nd_ok (am_lf_ok (fun _ => ok_iload_n dX12_text_127 rfl rfl)) (am_nd_ok (am_lf_ok (fun _ => ok_iadd dX12_text_128 rfl)) (am_lf_ok (fun _ => ok_aload_n dX12_text_129 rfl rfl))))))
def tX12_text_3 : Nat → Option am_Act := am_nd 148 (am_nd 138 (am_nd 135 (am_nd 133 (am_lf 130 (a_get tT 12 6 133)) (am_nd 134 (am_lf 133 (a_const (nI 3) 134)) (am_lf 134 (a_iload 2 135)))) (am_nd 136 (am_lf 135 (a_bin (fun x y => x * y) 136)) (am_nd 137 (am_lf 136 (a_iald tT 137)) (am_lf 137 (a_iast tT 138))))) (am_nd 145 (am_nd 139 (am_lf 138 (a_aload 0 139)) (am_nd 142 (am_lf 139 (a_get tT 12 0 142)) (am_lf 142 (a_const (nI 890) 145)))) (am_nd 146 (am_lf 145 (a_iload 2 146)) (am_nd 147 (am_lf 146 (a_bin (fun x y => x + y) 147)) (am_lf 147 (a_aload 0 148)))))) (am_nd 156 (am_nd 153 (am_nd 151 (am_lf 148 (a_get tT 12 6 151)) (am_nd 152 (am_lf 151 (a_const (nI 3) 152)) (am_lf 152 (a_iload 2 153)))) (am_nd 154 (am_lf 153 (a_bin (fun x y => x * y) 154)) (am_nd 155 (am_lf 154 (a_const (nI 1) 155)) (am_lf 155 (a_bin (fun x y => x + y) 156))))) (am_nd 159 (am_nd 157 (am_lf 156 (a_iald tT 157)) (am_nd 158 (am_lf 157 (a_iast tT 158)) (am_lf 158 (a_aload 0 159)))) (am_nd 162 (am_lf 159 (a_get tT 12 0 162)) (am_nd 165 (am_lf 162 (a_const (nI 910) 165)) (am_lf 165 (a_iload 2 166))))))
theorem gX12_text_3 : am_Good tT mX12_text tX12_text_3 := am_nd_ok (am_nd_ok (am_nd_ok (am_nd_ok (am_lf_ok (fun _ => ok_get (C := RX12) (TT := TX12) (N := 31) rfl inw_X12 (Nat.le_of_ble_eq_true rfl) wd_543 dX12_text_130 rfl)) (am_nd_ok (am_lf_ok (fun _ => ok_iconst dX12_text_133 cv_iconst_3 rfl)) (am_lf_ok (fun _ => ok_iload_n dX12_text_134 rfl rfl)))) (am_nd_ok (am_lf_ok (fun _ => ok_imul dX12_text_135 rfl)) (am_nd_ok (am_lf_ok (fun _ => ok_iald dX12_text_136 rfl)) (am_lf_ok (fun _ => ok_iast dX12_text_137 rfl))))) (am_nd_ok (am_nd_ok (am_lf_ok (fun _ => ok_aload_n dX12_text_138 rfl rfl)) (am_nd_ok (am_lf_ok (fun _ => ok_get (C := RX12) (TT := TX12) (N := 31) rfl inw_X12 (Nat.le_of_ble_eq_true rfl) wd_448 dX12_text_139 rfl)) (am_lf_ok (fun _ => ok_sipush dX12_text_142 cv_sipush_890 rfl)))) (am_nd_ok (am_lf_ok (fun _ => ok_iload_n dX12_text_145 rfl rfl)) (am_nd_ok (am_lf_ok (fun _ => ok_iadd dX12_text_146 rfl)) (am_lf_ok (fun _ => ok_aload_n dX12_text_147 rfl rfl)))))) (am_nd_ok (am_nd_ok (am_nd_ok (am_lf_ok (fun _ => ok_get (C := RX12) (TT := TX12) (N := 31) rfl inw_X12 (Nat.le_of_ble_eq_true rfl) wd_543 dX12_text_148 rfl)) (am_nd_ok (am_lf_ok (fun _ => ok_iconst dX12_text_151 cv_iconst_3 rfl)) (am_lf_ok (fun _ => ok_iload_n dX12_text_152 rfl rfl)))) (am_nd_ok (am_lf_ok (fun _ => ok_imul dX12_text_153 rfl)) (am_nd_ok (am_lf_ok (fun _ => ok_iconst dX12_text_154 cv_iconst_1 rfl)) (am_lf_ok (fun _ => ok_iadd dX12_text_155 rfl))))) (am_nd_ok (am_nd_ok (am_lf_ok (fun _ => ok_iald dX12_text_156 rfl)) (am_nd_ok (am_lf_ok (fun _ => ok_iast dX12_text_157 rfl)) (am_lf_ok (fun _ => ok_aload_n dX12_text_158 rfl rfl)))) (am_nd_ok (am_lf_ok (fun _ => ok_get (C := RX12) (TT := TX12) (N := 31) rfl inw_X12 (Nat.le_of_ble_eq_true rfl) wd_448 dX12_text_159 rfl)) (am_nd_ok (am_lf_ok (fun _ => ok_sipush dX12_text_162 cv_sipush_910 rfl)) (am_lf_ok (fun _ => ok_iload_n dX12_text_165 rfl rfl))))))
def tX12_text_4 : Nat → Option am_Act := am_nd 184 (am_nd 174 (am_nd 171 (am_nd 167 (am_lf 166 (a_bin (fun x y => x + y) 167)) (am_nd 168 (am_lf 167 (a_aload 0 168)) (am_lf 168 (a_get tT 12 6 171)))) (am_nd 172 (am_lf 171 (a_const (nI 3) 172)) (am_nd 173 (am_lf 172 (a_iload 2 173)) (am_lf 173 (a_bin (fun x y => x * y) 174))))) (am_nd 177 (am_nd 175 (am_lf 174 (a_const (nI 2) 175)) (am_nd 176 (am_lf 175 (a_bin (fun x y => x + y) 176)) (am_lf 176 (a_iald tT 177)))) (am_nd 178 (am_lf 177 (a_iast tT 178)) (am_nd 181 (am_lf 178 (a_iinc 2 (nI 1) 181)) (am_lf 181 (a_goto 112)))))) (am_nd 192 (am_nd 187 (am_nd 185 (am_lf 184 (a_const (nI 0) 185)) (am_nd 186 (am_lf 185 (a_istore 2 186)) (am_lf 186 (a_iload 2 187)))) (am_nd 188 (am_lf 187 (a_const (nI 2) 188)) (am_nd 189 (am_lf 188 (a_aload 0 189)) (am_lf 189 (a_get tT 12 12 192))))) (am_nd 197 (am_nd 193 (am_lf 192 (a_bin (fun x y => x * y) 193)) (am_nd 196 (am_lf 193 (a_cmp (fun x y => y ≤ x) 218 196)) (am_lf 196 (a_aload 0 197)))) (am_nd 200 (am_lf 197 (a_get tT 12 0 200)) (am_nd 203 (am_lf 200 (a_const (nI 930) 203)) (am_lf 203 (a_iload 2 204))))))
theorem gX12_text_4 : am_Good tT mX12_text tX12_text_4 := am_nd_ok (am_nd_ok (am_nd_ok (am_nd_ok (am_lf_ok (fun _ => ok_iadd dX12_text_166 rfl)) (am_nd_ok (am_lf_ok (fun _ => ok_aload_n dX12_text_167 rfl rfl)) (am_lf_ok (fun _ => ok_get (C := RX12) (TT := TX12) (N := 31) rfl inw_X12 (Nat.le_of_ble_eq_true rfl) wd_543 dX12_text_168 rfl)))) (am_nd_ok (am_lf_ok (fun _ => ok_iconst dX12_text_171 cv_iconst_3 rfl)) (am_nd_ok (am_lf_ok (fun _ => ok_iload_n dX12_text_172 rfl rfl)) (am_lf_ok (fun _ => ok_imul dX12_text_173 rfl))))) (am_nd_ok (am_nd_ok (am_lf_ok (fun _ => ok_iconst dX12_text_174 cv_iconst_2 rfl)) (am_nd_ok (am_lf_ok (fun _ => ok_iadd dX12_text_175 rfl)) (am_lf_ok (fun _ => ok_iald dX12_text_176 rfl)))) (am_nd_ok (am_lf_ok (fun _ => ok_iast dX12_text_177 rfl)) (am_nd_ok (am_lf_ok (fun _ => ok_iinc dX12_text_178 cv_iconst_1 (Nat.le_of_ble_eq_true rfl) rfl)) (am_lf_ok (fun _ => ok_goto dX12_text_181 rfl)))))) (am_nd_ok (am_nd_ok (am_nd_ok (am_lf_ok (fun _ => ok_iconst dX12_text_184 cv_iconst_0 rfl)) (am_nd_ok (am_lf_ok (fun _ => ok_istore_n dX12_text_185 rfl (Nat.le_of_ble_eq_true rfl) rfl)) (am_lf_ok (fun _ => ok_iload_n dX12_text_186 rfl rfl)))) (am_nd_ok (am_lf_ok (fun _ => ok_iconst dX12_text_187 cv_iconst_2 rfl)) (am_nd_ok (am_lf_ok (fun _ => ok_aload_n dX12_text_188 rfl rfl)) (am_lf_ok (fun _ => ok_get (C := RX12) (TT := TX12) (N := 31) rfl inw_X12 (Nat.le_of_ble_eq_true rfl) wd_513 dX12_text_189 rfl))))) (am_nd_ok (am_nd_ok (am_lf_ok (fun _ => ok_imul dX12_text_192 rfl)) (am_nd_ok (am_lf_ok (fun _ => ok_cmp_ge dX12_text_193 rfl rfl)) (am_lf_ok (fun _ => ok_aload_n dX12_text_196 rfl rfl)))) (am_nd_ok (am_lf_ok (fun _ => ok_get (C := RX12) (TT := TX12) (N := 31) rfl inw_X12 (Nat.le_of_ble_eq_true rfl) wd_448 dX12_text_197 rfl)) (am_nd_ok (am_lf_ok (fun _ => ok_sipush dX12_text_200 cv_sipush_930 rfl)) (am_lf_ok (fun _ => ok_iload_n dX12_text_203 rfl rfl))))))
def tX12_text_5 : Nat → Option am_Act := am_nd 211 (am_nd 206 (am_nd 205 (am_lf 204 (a_bin (fun x y => x + y) 205)) (am_lf 205 (a_aload 0 206))) (am_nd 209 (am_lf 206 (a_get tT 12 7 209)) (am_nd 210 (am_lf 209 (a_iload 2 210)) (am_lf 210 (a_iald tT 211))))) (am_nd 218 (am_nd 212 (am_lf 211 (a_iast tT 212)) (am_nd 215 (am_lf 212 (a_iinc 2 (nI 1) 215)) (am_lf 215 (a_goto 186)))) (am_nd 219 (am_lf 218 (a_aload 0 219)) (am_nd 222 (am_lf 219 (a_get tT 12 11 222)) (am_lf 222 (a_iret)))))
theorem gX12_text_5 : am_Good tT mX12_text tX12_text_5 := am_nd_ok (am_nd_ok (am_nd_ok (am_lf_ok (fun _ => ok_iadd dX12_text_204 rfl)) (am_lf_ok (fun _ => ok_aload_n dX12_text_205 rfl rfl))) (am_nd_ok (am_lf_ok (fun _ => ok_get (C := RX12) (TT := TX12) (N := 31) rfl inw_X12 (Nat.le_of_ble_eq_true rfl) wd_512 dX12_text_206 rfl)) (am_nd_ok (am_lf_ok (fun _ => ok_iload_n dX12_text_209 rfl rfl)) (am_lf_ok (fun _ => ok_iald dX12_text_210 rfl))))) (am_nd_ok (am_nd_ok (am_lf_ok (fun _ => ok_iast dX12_text_211 rfl)) (am_nd_ok (am_lf_ok (fun _ => ok_iinc dX12_text_212 cv_iconst_1 (Nat.le_of_ble_eq_true rfl) rfl)) (am_lf_ok (fun _ => ok_goto dX12_text_215 rfl)))) (am_nd_ok (am_lf_ok (fun _ => ok_aload_n dX12_text_218 rfl rfl)) (am_nd_ok (am_lf_ok (fun _ => ok_get (C := RX12) (TT := TX12) (N := 31) rfl inw_X12 (Nat.le_of_ble_eq_true rfl) wd_542 dX12_text_219 rfl)) (am_lf_ok (fun _ => ok_iret rfl dX12_text_222)))))
def tX12_text : Nat → Option am_Act := am_nd 130 (am_nd 42 (tX12_text_0) (am_nd 86 (tX12_text_1) (tX12_text_2))) (am_nd 166 (tX12_text_3) (am_nd 204 (tX12_text_4) (tX12_text_5)))
theorem gX12_text : am_Good tT mX12_text tX12_text := am_nd_ok (am_nd_ok (gX12_text_0) (am_nd_ok (gX12_text_1) (gX12_text_2))) (am_nd_ok (gX12_text_3) (am_nd_ok (gX12_text_4) (gX12_text_5)))
