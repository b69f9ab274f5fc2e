/-! ===== code of TollOfNames$Bridges ===== -/
theorem dX2_add_0 : decode cX2_add 0 = .ok (.aload_n 0, 1) := by decide +kernel
theorem dX2_add_1 : decode cX2_add 1 = .ok (.getfield 18, 3) := by decide +kernel
theorem dX2_add_4 : decode cX2_add 4 = .ok (.istore_n 3, 1) := by decide +kernel
theorem dX2_add_5 : decode cX2_add 5 = .ok (.iload_n 3, 1) := by decide +kernel
theorem dX2_add_6 : decode cX2_add 6 = .ok (.bipush 12, 2) := by decide +kernel
theorem dX2_add_8 : decode cX2_add 8 = .ok (.if_icmp .lt 5, 3) := by decide +kernel
theorem dX2_add_11 : decode cX2_add 11 = .ok (.iconst (-1), 1) := by decide +kernel
theorem dX2_add_12 : decode cX2_add 12 = .ok (.ireturn, 1) := by decide +kernel
theorem dX2_add_13 : decode cX2_add 13 = .ok (.aload_n 0, 1) := by decide +kernel
theorem dX2_add_14 : decode cX2_add 14 = .ok (.getfield 9, 3) := by decide +kernel
theorem dX2_add_17 : decode cX2_add 17 = .ok (.iconst 2, 1) := by decide +kernel
theorem dX2_add_18 : decode cX2_add 18 = .ok (.iload_n 3, 1) := by decide +kernel
theorem dX2_add_19 : decode cX2_add 19 = .ok (.imul, 1) := by decide +kernel
theorem dX2_add_20 : decode cX2_add 20 = .ok (.iload_n 1, 1) := by decide +kernel
theorem dX2_add_21 : decode cX2_add 21 = .ok (.iastore, 1) := by decide +kernel
theorem dX2_add_22 : decode cX2_add 22 = .ok (.aload_n 0, 1) := by decide +kernel
theorem dX2_add_23 : decode cX2_add 23 = .ok (.getfield 9, 3) := by decide +kernel
theorem dX2_add_26 : decode cX2_add 26 = .ok (.iconst 2, 1) := by decide +kernel
theorem dX2_add_27 : decode cX2_add 27 = .ok (.iload_n 3, 1) := by decide +kernel
theorem dX2_add_28 : decode cX2_add 28 = .ok (.imul, 1) := by decide +kernel
theorem dX2_add_29 : decode cX2_add 29 = .ok (.iconst 1, 1) := by decide +kernel
theorem dX2_add_30 : decode cX2_add 30 = .ok (.iadd, 1) := by decide +kernel
theorem dX2_add_31 : decode cX2_add 31 = .ok (.iload_n 2, 1) := by decide +kernel
theorem dX2_add_32 : decode cX2_add 32 = .ok (.iastore, 1) := by decide +kernel
theorem dX2_add_33 : decode cX2_add 33 = .ok (.aload_n 0, 1) := by decide +kernel
theorem dX2_add_34 : decode cX2_add 34 = .ok (.getfield 15, 3) := by decide +kernel
theorem dX2_add_37 : decode cX2_add 37 = .ok (.iload_n 3, 1) := by decide +kernel
theorem dX2_add_38 : decode cX2_add 38 = .ok (.bipush 20, 2) := by decide +kernel
theorem dX2_add_40 : decode cX2_add 40 = .ok (.imul, 1) := by decide +kernel
theorem dX2_add_41 : decode cX2_add 41 = .ok (.iload_n 3, 1) := by decide +kernel
theorem dX2_add_42 : decode cX2_add 42 = .ok (.iconst 1, 1) := by decide +kernel
theorem dX2_add_43 : decode cX2_add 43 = .ok (.iadd, 1) := by decide +kernel
theorem dX2_add_44 : decode cX2_add 44 = .ok (.bipush 20, 2) := by decide +kernel
theorem dX2_add_46 : decode cX2_add 46 = .ok (.imul, 1) := by decide +kernel
theorem dX2_add_47 : decode cX2_add 47 = .ok (.iconst 0, 1) := by decide +kernel
theorem dX2_add_48 : decode cX2_add 48 = .ok (.invokestatic 22, 3) := by decide +kernel
theorem dX2_add_51 : decode cX2_add 51 = .ok (.aload_n 0, 1) := by decide +kernel
theorem dX2_add_52 : decode cX2_add 52 = .ok (.iload_n 3, 1) := by decide +kernel
theorem dX2_add_53 : decode cX2_add 53 = .ok (.iconst 1, 1) := by decide +kernel
theorem dX2_add_54 : decode cX2_add 54 = .ok (.iadd, 1) := by decide +kernel
theorem dX2_add_55 : decode cX2_add 55 = .ok (.putfield 18, 3) := by decide +kernel
theorem dX2_add_58 : decode cX2_add 58 = .ok (.iload_n 3, 1) := by decide +kernel
theorem dX2_add_59 : decode cX2_add 59 = .ok (.ireturn, 1) := by decide +kernel
def tX2_add_0 : Nat → Option am_Act := am_nd 19 (am_nd 11 (am_nd 5 (am_nd 1 (am_lf 0 (a_aload 0 1)) (am_nd 4 (am_lf 1 (a_get tT 2 0 4)) (am_lf 4 (a_istore 3 5)))) (am_nd 6 (am_lf 5 (a_iload 3 6)) (am_nd 8 (am_lf 6 (a_const (nI 12) 8)) (am_lf 8 (a_cmp (fun x y => x < y) 13 11))))) (am_nd 14 (am_nd 12 (am_lf 11 (a_const (-1) 12)) (am_nd 13 (am_lf 12 (a_iret)) (am_lf 13 (a_aload 0 14)))) (am_nd 17 (am_lf 14 (a_get tT 2 1 17)) (am_nd 18 (am_lf 17 (a_const (nI 2) 18)) (am_lf 18 (a_iload 3 19)))))) (am_nd 27 (am_nd 22 (am_nd 20 (am_lf 19 (a_bin (fun x y => x * y) 20)) (am_nd 21 (am_lf 20 (a_iload 1 21)) (am_lf 21 (a_iast tT 22)))) (am_nd 23 (am_lf 22 (a_aload 0 23)) (am_nd 26 (am_lf 23 (a_get tT 2 1 26)) (am_lf 26 (a_const (nI 2) 27))))) (am_nd 30 (am_nd 28 (am_lf 27 (a_iload 3 28)) (am_nd 29 (am_lf 28 (a_bin (fun x y => x * y) 29)) (am_lf 29 (a_const (nI 1) 30)))) (am_nd 31 (am_lf 30 (a_bin (fun x y => x + y) 31)) (am_nd 32 (am_lf 31 (a_iload 2 32)) (am_lf 32 (a_iast tT 33))))))
theorem gX2_add_0 : am_Good tT mX2_add tX2_add_0 := am_nd_ok (am_nd_ok (am_nd_ok (am_nd_ok (am_lf_ok (fun _ => ok_aload_n dX2_add_0 rfl rfl)) (am_nd_ok (am_lf_ok (fun _ => ok_get (C := RX2) (TT := TX2) (N := 3) rfl inw_X2 (Nat.le_of_ble_eq_true rfl) wd_62 dX2_add_1 rfl)) (am_lf_ok (fun _ => ok_istore_n dX2_add_4 rfl (Nat.le_of_ble_eq_true rfl) rfl)))) (am_nd_ok (am_lf_ok (fun _ => ok_iload_n dX2_add_5 rfl rfl)) (am_nd_ok (am_lf_ok (fun _ => ok_bipush dX2_add_6 cv_bipush_12 rfl)) (am_lf_ok (fun _ => ok_cmp_lt dX2_add_8 rfl rfl))))) (am_nd_ok (am_nd_ok (am_lf_ok (fun _ => ok_iconst dX2_add_11 cv_iconst_m1 rfl)) (am_nd_ok (am_lf_ok (fun _ => ok_iret rfl dX2_add_12)) (am_lf_ok (fun _ => ok_aload_n dX2_add_13 rfl rfl)))) (am_nd_ok (am_lf_ok (fun _ => ok_get (C := RX2) (TT := TX2) (N := 3) rfl inw_X2 (Nat.le_of_ble_eq_true rfl) wd_63 dX2_add_14 rfl)) (am_nd_ok (am_lf_ok (fun _ => ok_iconst dX2_add_17 cv_iconst_2 rfl)) (am_lf_ok (fun _ => ok_iload_n dX2_add_18 rfl rfl)))))) (am_nd_ok (am_nd_ok (am_nd_ok (am_lf_ok (fun _ => ok_imul dX2_add_19 rfl)) (am_nd_ok (am_lf_ok (fun _ => ok_iload_n dX2_add_20 rfl rfl)) (am_lf_ok (fun _ => ok_iast dX2_add_21 rfl)))) (am_nd_ok (am_lf_ok (fun _ => ok_aload_n dX2_add_22 rfl rfl)) (am_nd_ok (am_lf_ok (fun _ => ok_get (C := RX2) (TT := TX2) (N := 3) rfl inw_X2 (Nat.le_of_ble_eq_true rfl) wd_63 dX2_add_23 rfl)) (am_lf_ok (fun _ => ok_iconst dX2_add_26 cv_iconst_2 rfl))))) (am_nd_ok (am_nd_ok (am_lf_ok (fun _ => ok_iload_n dX2_add_27 rfl rfl)) (am_nd_ok (am_lf_ok (fun _ => ok_imul dX2_add_28 rfl)) (am_lf_ok (fun _ => ok_iconst dX2_add_29 cv_iconst_1 rfl)))) (am_nd_ok (am_lf_ok (fun _ => ok_iadd dX2_add_30 rfl)) (am_nd_ok (am_lf_ok (fun _ => ok_iload_n dX2_add_31 rfl rfl)) (am_lf_ok (fun _ => ok_iast dX2_add_32 rfl))))))
def tX2_add_1 : Nat → Option am_Act := am_nd 46 (am_nd 40 (am_nd 37 (am_nd 34 (am_lf 33 (a_aload 0 34)) (am_lf 34 (a_get tT 2 2 37))) (am_nd 38 (am_lf 37 (a_iload 3 38)) (am_lf 38 (a_const (nI 20) 40)))) (am_nd 42 (am_nd 41 (am_lf 40 (a_bin (fun x y => x * y) 41)) (am_lf 41 (a_iload 3 42))) (am_nd 43 (am_lf 42 (a_const (nI 1) 43)) (am_nd 44 (am_lf 43 (a_bin (fun x y => x + y) 44)) (am_lf 44 (a_const (nI 20) 46)))))) (am_nd 53 (am_nd 48 (am_nd 47 (am_lf 46 (a_bin (fun x y => x * y) 47)) (am_lf 47 (a_const (nI 0) 48))) (am_nd 51 (am_lf 48 (a_csV mJ7_fill_fda19 4 51)) (am_nd 52 (am_lf 51 (a_aload 0 52)) (am_lf 52 (a_iload 3 53))))) (am_nd 55 (am_nd 54 (am_lf 53 (a_const (nI 1) 54)) (am_lf 54 (a_bin (fun x y => x + y) 55))) (am_nd 58 (am_lf 55 (a_put tT 2 0 58)) (am_nd 59 (am_lf 58 (a_iload 3 59)) (am_lf 59 (a_iret))))))
theorem gX2_add_1 : am_Good tT mX2_add tX2_add_1 := am_nd_ok (am_nd_ok (am_nd_ok (am_nd_ok (am_lf_ok (fun _ => ok_aload_n dX2_add_33 rfl rfl)) (am_lf_ok (fun _ => ok_get (C := RX2) (TT := TX2) (N := 3) rfl inw_X2 (Nat.le_of_ble_eq_true rfl) wd_64 dX2_add_34 rfl))) (am_nd_ok (am_lf_ok (fun _ => ok_iload_n dX2_add_37 rfl rfl)) (am_lf_ok (fun _ => ok_bipush dX2_add_38 cv_bipush_20 rfl)))) (am_nd_ok (am_nd_ok (am_lf_ok (fun _ => ok_imul dX2_add_40 rfl)) (am_lf_ok (fun _ => ok_iload_n dX2_add_41 rfl rfl))) (am_nd_ok (am_lf_ok (fun _ => ok_iconst dX2_add_42 cv_iconst_1 rfl)) (am_nd_ok (am_lf_ok (fun _ => ok_iadd dX2_add_43 rfl)) (am_lf_ok (fun _ => ok_bipush dX2_add_44 cv_bipush_20 rfl)))))) (am_nd_ok (am_nd_ok (am_nd_ok (am_lf_ok (fun _ => ok_imul dX2_add_46 rfl)) (am_lf_ok (fun _ => ok_iconst dX2_add_47 cv_iconst_0 rfl))) (am_nd_ok (am_lf_ok (fun _ => ok_csV rfl mw_J7_fill_fda19 wd_65 wd_66 dX2_add_48 rfl)) (am_nd_ok (am_lf_ok (fun _ => ok_aload_n dX2_add_51 rfl rfl)) (am_lf_ok (fun _ => ok_iload_n dX2_add_52 rfl rfl))))) (am_nd_ok (am_nd_ok (am_lf_ok (fun _ => ok_iconst dX2_add_53 cv_iconst_1 rfl)) (am_lf_ok (fun _ => ok_iadd dX2_add_54 rfl))) (am_nd_ok (am_lf_ok (fun _ => ok_put (C := RX2) (TT := TX2) (N := 3) (ty0 := tyX2) rfl inw_X2 tyX2_ok nmX2 (Nat.le_of_ble_eq_true rfl) rfl rfl wd_62 dX2_add_55 rfl)) (am_nd_ok (am_lf_ok (fun _ => ok_iload_n dX2_add_58 rfl rfl)) (am_lf_ok (fun _ => ok_iret rfl dX2_add_59))))))
def tX2_add : Nat → Option am_Act := am_nd 33 (tX2_add_0) (tX2_add_1)
theorem gX2_add : am_Good tT mX2_add tX2_add := am_nd_ok (gX2_add_0) (gX2_add_1)
theorem dX2_touches_0 : decode cX2_touches 0 = .ok (.aload_n 0, 1) := by decide +kernel
theorem dX2_touches_1 : decode cX2_touches 1 = .ok (.getfield 9, 3) := by decide +kernel
theorem dX2_touches_4 : decode cX2_touches 4 = .ok (.iconst 2, 1) := by decide +kernel
theorem dX2_touches_5 : decode cX2_touches 5 = .ok (.iload_n 1, 1) := by decide +kernel
theorem dX2_touches_6 : decode cX2_touches 6 = .ok (.imul, 1) := by decide +kernel
theorem dX2_touches_7 : decode cX2_touches 7 = .ok (.iaload, 1) := by decide +kernel
theorem dX2_touches_8 : decode cX2_touches 8 = .ok (.iload_n 2, 1) := by decide +kernel
theorem dX2_touches_9 : decode cX2_touches 9 = .ok (.if_icmp .eq 17, 3) := by decide +kernel
theorem dX2_touches_12 : decode cX2_touches 12 = .ok (.aload_n 0, 1) := by decide +kernel
theorem dX2_touches_13 : decode cX2_touches 13 = .ok (.getfield 9, 3) := by decide +kernel
theorem dX2_touches_16 : decode cX2_touches 16 = .ok (.iconst 2, 1) := by decide +kernel
theorem dX2_touches_17 : decode cX2_touches 17 = .ok (.iload_n 1, 1) := by decide +kernel
theorem dX2_touches_18 : decode cX2_touches 18 = .ok (.imul, 1) := by decide +kernel
theorem dX2_touches_19 : decode cX2_touches 19 = .ok (.iconst 1, 1) := by decide +kernel
theorem dX2_touches_20 : decode cX2_touches 20 = .ok (.iadd, 1) := by decide +kernel
theorem dX2_touches_21 : decode cX2_touches 21 = .ok (.iaload, 1) := by decide +kernel
theorem dX2_touches_22 : decode cX2_touches 22 = .ok (.iload_n 2, 1) := by decide +kernel
theorem dX2_touches_23 : decode cX2_touches 23 = .ok (.if_icmp .ne 7, 3) := by decide +kernel
theorem dX2_touches_26 : decode cX2_touches 26 = .ok (.iconst 1, 1) := by decide +kernel
theorem dX2_touches_27 : decode cX2_touches 27 = .ok (.goto 4, 3) := by decide +kernel
theorem dX2_touches_30 : decode cX2_touches 30 = .ok (.iconst 0, 1) := by decide +kernel
theorem dX2_touches_31 : decode cX2_touches 31 = .ok (.ireturn, 1) := by decide +kernel
def tX2_touches_0 : Nat → Option am_Act := am_nd 17 (am_nd 7 (am_nd 4 (am_nd 1 (am_lf 0 (a_aload 0 1)) (am_lf 1 (a_get tT 2 1 4))) (am_nd 5 (am_lf 4 (a_const (nI 2) 5)) (am_nd 6 (am_lf 5 (a_iload 1 6)) (am_lf 6 (a_bin (fun x y => x * y) 7))))) (am_nd 12 (am_nd 8 (am_lf 7 (a_iald tT 8)) (am_nd 9 (am_lf 8 (a_iload 2 9)) (am_lf 9 (a_cmp (fun x y => x = y) 26 12)))) (am_nd 13 (am_lf 12 (a_aload 0 13)) (am_nd 16 (am_lf 13 (a_get tT 2 1 16)) (am_lf 16 (a_const (nI 2) 17)))))) (am_nd 22 (am_nd 19 (am_nd 18 (am_lf 17 (a_iload 1 18)) (am_lf 18 (a_bin (fun x y => x * y) 19))) (am_nd 20 (am_lf 19 (a_const (nI 1) 20)) (am_nd 21 (am_lf 20 (a_bin (fun x y => x + y) 21)) (am_lf 21 (a_iald tT 22))))) (am_nd 27 (am_nd 23 (am_lf 22 (a_iload 2 23)) (am_nd 26 (am_lf 23 (a_cmp (fun x y => x = y) 26 30)) (am_lf 26 (a_const (nI 1) 27)))) (am_nd 30 (am_lf 27 (a_goto 31)) (am_nd 31 (am_lf 30 (a_const (nI 0) 31)) (am_lf 31 (a_zret))))))
theorem gX2_touches_0 : am_Good tT mX2_touches tX2_touches_0 := am_nd_ok (am_nd_ok (am_nd_ok (am_nd_ok (am_lf_ok (fun _ => ok_aload_n dX2_touches_0 rfl rfl)) (am_lf_ok (fun _ => ok_get (C := RX2) (TT := TX2) (N := 3) rfl inw_X2 (Nat.le_of_ble_eq_true rfl) wd_63 dX2_touches_1 rfl))) (am_nd_ok (am_lf_ok (fun _ => ok_iconst dX2_touches_4 cv_iconst_2 rfl)) (am_nd_ok (am_lf_ok (fun _ => ok_iload_n dX2_touches_5 rfl rfl)) (am_lf_ok (fun _ => ok_imul dX2_touches_6 rfl))))) (am_nd_ok (am_nd_ok (am_lf_ok (fun _ => ok_iald dX2_touches_7 rfl)) (am_nd_ok (am_lf_ok (fun _ => ok_iload_n dX2_touches_8 rfl rfl)) (am_lf_ok (fun _ => ok_cmp_eq dX2_touches_9 rfl rfl)))) (am_nd_ok (am_lf_ok (fun _ => ok_aload_n dX2_touches_12 rfl rfl)) (am_nd_ok (am_lf_ok (fun _ => ok_get (C := RX2) (TT := TX2) (N := 3) rfl inw_X2 (Nat.le_of_ble_eq_true rfl) wd_63 dX2_touches_13 rfl)) (am_lf_ok (fun _ => ok_iconst dX2_touches_16 cv_iconst_2 rfl)))))) (am_nd_ok (am_nd_ok (am_nd_ok (am_lf_ok (fun _ => ok_iload_n dX2_touches_17 rfl rfl)) (am_lf_ok (fun _ => ok_imul dX2_touches_18 rfl))) (am_nd_ok (am_lf_ok (fun _ => ok_iconst dX2_touches_19 cv_iconst_1 rfl)) (am_nd_ok (am_lf_ok (fun _ => ok_iadd dX2_touches_20 rfl)) (am_lf_ok (fun _ => ok_iald dX2_touches_21 rfl))))) (am_nd_ok (am_nd_ok (am_lf_ok (fun _ => ok_iload_n dX2_touches_22 rfl rfl)) (am_nd_ok (am_lf_ok (fun _ => ok_cmp_ne dX2_touches_23 rfl rfl)) (am_lf_ok (fun _ => ok_iconst dX2_touches_26 cv_iconst_1 rfl)))) (am_nd_ok (am_lf_ok (fun _ => ok_goto dX2_touches_27 rfl)) (am_nd_ok (am_lf_ok (fun _ => ok_iconst dX2_touches_30 cv_iconst_0 rfl)) (am_lf_ok (fun _ => ok_zret rfl dX2_touches_31))))))
def tX2_touches : Nat → Option am_Act := tX2_touches_0
theorem gX2_touches : am_Good tT mX2_touches tX2_touches := gX2_touches_0
theorem dX2_across_0 : decode cX2_across 0 = .ok (.aload_n 0, 1) := by decide +kernel
theorem dX2_across_1 : decode cX2_across 1 = .ok (.getfield 9, 3) := by decide +kernel
theorem dX2_across_4 : decode cX2_across 4 = .ok (.iconst 2, 1) := by decide +kernel
theorem dX2_across_5 : decode cX2_across 5 = .ok (.iload_n 1, 1) := by decide +kernel
theorem dX2_across_6 : decode cX2_across 6 = .ok (.imul, 1) := by decide +kernel
theorem dX2_across_7 : decode cX2_across 7 = .ok (.iaload, 1) := by decide +kernel
theorem dX2_across_8 : decode cX2_across 8 = .ok (.iload_n 2, 1) := by decide +kernel
theorem dX2_across_9 : decode cX2_across 9 = .ok (.if_icmp .ne 16, 3) := by decide +kernel
theorem dX2_across_12 : decode cX2_across 12 = .ok (.aload_n 0, 1) := by decide +kernel
theorem dX2_across_13 : decode cX2_across 13 = .ok (.getfield 9, 3) := by decide +kernel
theorem dX2_across_16 : decode cX2_across 16 = .ok (.iconst 2, 1) := by decide +kernel
theorem dX2_across_17 : decode cX2_across 17 = .ok (.iload_n 1, 1) := by decide +kernel
theorem dX2_across_18 : decode cX2_across 18 = .ok (.imul, 1) := by decide +kernel
theorem dX2_across_19 : decode cX2_across 19 = .ok (.iconst 1, 1) := by decide +kernel
theorem dX2_across_20 : decode cX2_across 20 = .ok (.iadd, 1) := by decide +kernel
theorem dX2_across_21 : decode cX2_across 21 = .ok (.iaload, 1) := by decide +kernel
theorem dX2_across_22 : decode cX2_across 22 = .ok (.goto 11, 3) := by decide +kernel
theorem dX2_across_25 : decode cX2_across 25 = .ok (.aload_n 0, 1) := by decide +kernel
theorem dX2_across_26 : decode cX2_across 26 = .ok (.getfield 9, 3) := by decide +kernel
theorem dX2_across_29 : decode cX2_across 29 = .ok (.iconst 2, 1) := by decide +kernel
theorem dX2_across_30 : decode cX2_across 30 = .ok (.iload_n 1, 1) := by decide +kernel
theorem dX2_across_31 : decode cX2_across 31 = .ok (.imul, 1) := by decide +kernel
theorem dX2_across_32 : decode cX2_across 32 = .ok (.iaload, 1) := by decide +kernel
theorem dX2_across_33 : decode cX2_across 33 = .ok (.ireturn, 1) := by decide +kernel
def tX2_across_0 : Nat → Option am_Act := am_nd 18 (am_nd 8 (am_nd 5 (am_nd 1 (am_lf 0 (a_aload 0 1)) (am_nd 4 (am_lf 1 (a_get tT 2 1 4)) (am_lf 4 (a_const (nI 2) 5)))) (am_nd 6 (am_lf 5 (a_iload 1 6)) (am_nd 7 (am_lf 6 (a_bin (fun x y => x * y) 7)) (am_lf 7 (a_iald tT 8))))) (am_nd 13 (am_nd 9 (am_lf 8 (a_iload 2 9)) (am_nd 12 (am_lf 9 (a_cmp (fun x y => x = y) 12 25)) (am_lf 12 (a_aload 0 13)))) (am_nd 16 (am_lf 13 (a_get tT 2 1 16)) (am_nd 17 (am_lf 16 (a_const (nI 2) 17)) (am_lf 17 (a_iload 1 18)))))) (am_nd 26 (am_nd 21 (am_nd 19 (am_lf 18 (a_bin (fun x y => x * y) 19)) (am_nd 20 (am_lf 19 (a_const (nI 1) 20)) (am_lf 20 (a_bin (fun x y => x + y) 21)))) (am_nd 22 (am_lf 21 (a_iald tT 22)) (am_nd 25 (am_lf 22 (a_goto 33)) (am_lf 25 (a_aload 0 26))))) (am_nd 31 (am_nd 29 (am_lf 26 (a_get tT 2 1 29)) (am_nd 30 (am_lf 29 (a_const (nI 2) 30)) (am_lf 30 (a_iload 1 31)))) (am_nd 32 (am_lf 31 (a_bin (fun x y => x * y) 32)) (am_nd 33 (am_lf 32 (a_iald tT 33)) (am_lf 33 (a_iret))))))
theorem gX2_across_0 : am_Good tT mX2_across tX2_across_0 := am_nd_ok (am_nd_ok (am_nd_ok (am_nd_ok (am_lf_ok (fun _ => ok_aload_n dX2_across_0 rfl rfl)) (am_nd_ok (am_lf_ok (fun _ => ok_get (C := RX2) (TT := TX2) (N := 3) rfl inw_X2 (Nat.le_of_ble_eq_true rfl) wd_63 dX2_across_1 rfl)) (am_lf_ok (fun _ => ok_iconst dX2_across_4 cv_iconst_2 rfl)))) (am_nd_ok (am_lf_ok (fun _ => ok_iload_n dX2_across_5 rfl rfl)) (am_nd_ok (am_lf_ok (fun _ => ok_imul dX2_across_6 rfl)) (am_lf_ok (fun _ => ok_iald dX2_across_7 rfl))))) (am_nd_ok (am_nd_ok (am_lf_ok (fun _ => ok_iload_n dX2_across_8 rfl rfl)) (am_nd_ok (am_lf_ok (fun _ => ok_cmp_ne dX2_across_9 rfl rfl)) (am_lf_ok (fun _ => ok_aload_n dX2_across_12 rfl rfl)))) (am_nd_ok (am_lf_ok (fun _ => ok_get (C := RX2) (TT := TX2) (N := 3) rfl inw_X2 (Nat.le_of_ble_eq_true rfl) wd_63 dX2_across_13 rfl)) (am_nd_ok (am_lf_ok (fun _ => ok_iconst dX2_across_16 cv_iconst_2 rfl)) (am_lf_ok (fun _ => ok_iload_n dX2_across_17 rfl rfl)))))) (am_nd_ok (am_nd_ok (am_nd_ok (am_lf_ok (fun _ => ok_imul dX2_across_18 rfl)) (am_nd_ok (am_lf_ok (fun _ => ok_iconst dX2_across_19 cv_iconst_1 rfl)) (am_lf_ok (fun _ => ok_iadd dX2_across_20 rfl)))) (am_nd_ok (am_lf_ok (fun _ => ok_iald dX2_across_21 rfl)) (am_nd_ok (am_lf_ok (fun _ => ok_goto dX2_across_22 rfl)) (am_lf_ok (fun _ => ok_aload_n dX2_across_25 rfl rfl))))) (am_nd_ok (am_nd_ok (am_lf_ok (fun _ => ok_get (C := RX2) (TT := TX2) (N := 3) rfl inw_X2 (Nat.le_of_ble_eq_true rfl) wd_63 dX2_across_26 rfl)) (am_nd_ok (am_lf_ok (fun _ => ok_iconst dX2_across_29 cv_iconst_2 rfl)) (am_lf_ok (fun _ => ok_iload_n dX2_across_30 rfl rfl)))) (am_nd_ok (am_lf_ok (fun _ => ok_imul dX2_across_31 rfl)) (am_nd_ok (am_lf_ok (fun _ => ok_iald dX2_across_32 rfl)) (am_lf_ok (fun _ => ok_iret rfl dX2_across_33))))))
def tX2_across : Nat → Option am_Act := tX2_across_0
theorem gX2_across : am_Good tT mX2_across tX2_across := gX2_across_0
theorem dX2_keptOf_0 : decode cX2_keptOf 0 = .ok (.aload_n 0, 1) := by decide +kernel
theorem dX2_keptOf_1 : decode cX2_keptOf 1 = .ok (.getfield 15, 3) := by decide +kernel
theorem dX2_keptOf_4 : decode cX2_keptOf 4 = .ok (.iload_n 1, 1) := by decide +kernel
theorem dX2_keptOf_5 : decode cX2_keptOf 5 = .ok (.bipush 20, 2) := by decide +kernel
theorem dX2_keptOf_7 : decode cX2_keptOf 7 = .ok (.imul, 1) := by decide +kernel
theorem dX2_keptOf_8 : decode cX2_keptOf 8 = .ok (.iload_n 2, 1) := by decide +kernel
theorem dX2_keptOf_9 : decode cX2_keptOf 9 = .ok (.iadd, 1) := by decide +kernel
theorem dX2_keptOf_10 : decode cX2_keptOf 10 = .ok (.iaload, 1) := by decide +kernel
theorem dX2_keptOf_11 : decode cX2_keptOf 11 = .ok (.ireturn, 1) := by decide +kernel
def tX2_keptOf_0 : Nat → Option am_Act := am_nd 7 (am_nd 4 (am_nd 1 (am_lf 0 (a_aload 0 1)) (am_lf 1 (a_get tT 2 2 4))) (am_nd 5 (am_lf 4 (a_iload 1 5)) (am_lf 5 (a_const (nI 20) 7)))) (am_nd 9 (am_nd 8 (am_lf 7 (a_bin (fun x y => x * y) 8)) (am_lf 8 (a_iload 2 9))) (am_nd 10 (am_lf 9 (a_bin (fun x y => x + y) 10)) (am_nd 11 (am_lf 10 (a_iald tT 11)) (am_lf 11 (a_iret)))))
theorem gX2_keptOf_0 : am_Good tT mX2_keptOf tX2_keptOf_0 := am_nd_ok (am_nd_ok (am_nd_ok (am_lf_ok (fun _ => ok_aload_n dX2_keptOf_0 rfl rfl)) (am_lf_ok (fun _ => ok_get (C := RX2) (TT := TX2) (N := 3) rfl inw_X2 (Nat.le_of_ble_eq_true rfl) wd_64 dX2_keptOf_1 rfl))) (am_nd_ok (am_lf_ok (fun _ => ok_iload_n dX2_keptOf_4 rfl rfl)) (am_lf_ok (fun _ => ok_bipush dX2_keptOf_5 cv_bipush_20 rfl)))) (am_nd_ok (am_nd_ok (am_lf_ok (fun _ => ok_imul dX2_keptOf_7 rfl)) (am_lf_ok (fun _ => ok_iload_n dX2_keptOf_8 rfl rfl))) (am_nd_ok (am_lf_ok (fun _ => ok_iadd dX2_keptOf_9 rfl)) (am_nd_ok (am_lf_ok (fun _ => ok_iald dX2_keptOf_10 rfl)) (am_lf_ok (fun _ => ok_iret rfl dX2_keptOf_11)))))
def tX2_keptOf : Nat → Option am_Act := tX2_keptOf_0
theorem gX2_keptOf : am_Good tT mX2_keptOf tX2_keptOf := gX2_keptOf_0
theorem dX2_changeKept_0 : decode cX2_changeKept 0 = .ok (.aload_n 0, 1) := by decide +kernel
theorem dX2_changeKept_1 : decode cX2_changeKept 1 = .ok (.getfield 15, 3) := by decide +kernel
theorem dX2_changeKept_4 : decode cX2_changeKept 4 = .ok (.iload_n 1, 1) := by decide +kernel
theorem dX2_changeKept_5 : decode cX2_changeKept 5 = .ok (.bipush 20, 2) := by decide +kernel
theorem dX2_changeKept_7 : decode cX2_changeKept 7 = .ok (.imul, 1) := by decide +kernel
theorem dX2_changeKept_8 : decode cX2_changeKept 8 = .ok (.iload_n 2, 1) := by decide +kernel
theorem dX2_changeKept_9 : decode cX2_changeKept 9 = .ok (.iadd, 1) := by decide +kernel
theorem dX2_changeKept_10 : decode cX2_changeKept 10 = .ok (.dup2, 1) := by decide +kernel
theorem dX2_changeKept_11 : decode cX2_changeKept 11 = .ok (.iaload, 1) := by decide +kernel
theorem dX2_changeKept_12 : decode cX2_changeKept 12 = .ok (.iload_n 3, 1) := by decide +kernel
theorem dX2_changeKept_13 : decode cX2_changeKept 13 = .ok (.iadd, 1) := by decide +kernel
theorem dX2_changeKept_14 : decode cX2_changeKept 14 = .ok (.iastore, 1) := by decide +kernel
theorem dX2_changeKept_15 : decode cX2_changeKept 15 = .ok (.return_, 1) := by decide +kernel
def tX2_changeKept_0 : Nat → Option am_Act := am_nd 9 (am_nd 5 (am_nd 1 (am_lf 0 (a_aload 0 1)) (am_nd 4 (am_lf 1 (a_get tT 2 2 4)) (am_lf 4 (a_iload 1 5)))) (am_nd 7 (am_lf 5 (a_const (nI 20) 7)) (am_nd 8 (am_lf 7 (a_bin (fun x y => x * y) 8)) (am_lf 8 (a_iload 2 9))))) (am_nd 12 (am_nd 10 (am_lf 9 (a_bin (fun x y => x + y) 10)) (am_nd 11 (am_lf 10 (a_dup2 11)) (am_lf 11 (a_iald tT 12)))) (am_nd 14 (am_nd 13 (am_lf 12 (a_iload 3 13)) (am_lf 13 (a_bin (fun x y => x + y) 14))) (am_nd 15 (am_lf 14 (a_iast tT 15)) (am_lf 15 (a_ret)))))
theorem gX2_changeKept_0 : am_Good tT mX2_changeKept tX2_changeKept_0 := am_nd_ok (am_nd_ok (am_nd_ok (am_lf_ok (fun _ => ok_aload_n dX2_changeKept_0 rfl rfl)) (am_nd_ok (am_lf_ok (fun _ => ok_get (C := RX2) (TT := TX2) (N := 3) rfl inw_X2 (Nat.le_of_ble_eq_true rfl) wd_64 dX2_changeKept_1 rfl)) (am_lf_ok (fun _ => ok_iload_n dX2_changeKept_4 rfl rfl)))) (am_nd_ok (am_lf_ok (fun _ => ok_bipush dX2_changeKept_5 cv_bipush_20 rfl)) (am_nd_ok (am_lf_ok (fun _ => ok_imul dX2_changeKept_7 rfl)) (am_lf_ok (fun _ => ok_iload_n dX2_changeKept_8 rfl rfl))))) (am_nd_ok (am_nd_ok (am_lf_ok (fun _ => ok_iadd dX2_changeKept_9 rfl)) (am_nd_ok (am_lf_ok (fun _ => ok_dup2 dX2_changeKept_10 rfl)) (am_lf_ok (fun _ => ok_iald dX2_changeKept_11 rfl)))) (am_nd_ok (am_nd_ok (am_lf_ok (fun _ => ok_iload_n dX2_changeKept_12 rfl rfl)) (am_lf_ok (fun _ => ok_iadd dX2_changeKept_13 rfl))) (am_nd_ok (am_lf_ok (fun _ => ok_iast dX2_changeKept_14 rfl)) (am_lf_ok (fun _ => ok_ret rfl dX2_changeKept_15)))))
def tX2_changeKept : Nat → Option am_Act := tX2_changeKept_0
theorem gX2_changeKept : am_Good tT mX2_changeKept tX2_changeKept := gX2_changeKept_0
theorem dX2_someKeeps_0 : decode cX2_someKeeps 0 = .ok (.iconst 0, 1) := by decide +kernel
theorem dX2_someKeeps_1 : decode cX2_someKeeps 1 = .ok (.istore_n 2, 1) := by decide +kernel
theorem dX2_someKeeps_2 : decode cX2_someKeeps 2 = .ok (.iload_n 2, 1) := by decide +kernel
theorem dX2_someKeeps_3 : decode cX2_someKeeps 3 = .ok (.aload_n 0, 1) := by decide +kernel
theorem dX2_someKeeps_4 : decode cX2_someKeeps 4 = .ok (.getfield 18, 3) := by decide +kernel
theorem dX2_someKeeps_7 : decode cX2_someKeeps 7 = .ok (.if_icmp .ge 20, 3) := by decide +kernel
theorem dX2_someKeeps_10 : decode cX2_someKeeps 10 = .ok (.aload_n 0, 1) := by decide +kernel
theorem dX2_someKeeps_11 : decode cX2_someKeeps 11 = .ok (.iload_n 2, 1) := by decide +kernel
theorem dX2_someKeeps_12 : decode cX2_someKeeps 12 = .ok (.iload_n 1, 1) := by decide +kernel
theorem dX2_someKeeps_13 : decode cX2_someKeeps 13 = .ok (.invokevirtual 28, 3) := by decide +kernel
theorem dX2_someKeeps_16 : decode cX2_someKeeps 16 = .ok (.ifCond .le 5, 3) := by decide +kernel
theorem dX2_someKeeps_19 : decode cX2_someKeeps 19 = .ok (.iconst 1, 1) := by decide +kernel
theorem dX2_someKeeps_20 : decode cX2_someKeeps 20 = .ok (.ireturn, 1) := by decide +kernel
theorem dX2_someKeeps_21 : decode cX2_someKeeps 21 = .ok (.iinc 2 1, 3) := by decide +kernel
theorem dX2_someKeeps_24 : decode cX2_someKeeps 24 = .ok (.goto (-22), 3) := by decide +kernel
theorem dX2_someKeeps_27 : decode cX2_someKeeps 27 = .ok (.iconst 0, 1) := by decide +kernel
theorem dX2_someKeeps_28 : decode cX2_someKeeps 28 = .ok (.ireturn, 1) := by decide +kernel
def tX2_someKeeps_0 : Nat → Option am_Act := am_nd 12 (am_nd 4 (am_nd 2 (am_nd 1 (am_lf 0 (a_const (nI 0) 1)) (am_lf 1 (a_istore 2 2))) (am_nd 3 (am_lf 2 (a_iload 2 3)) (am_lf 3 (a_aload 0 4)))) (am_nd 10 (am_nd 7 (am_lf 4 (a_get tT 2 0 7)) (am_lf 7 (a_cmp (fun x y => y ≤ x) 27 10))) (am_nd 11 (am_lf 10 (a_aload 0 11)) (am_lf 11 (a_iload 2 12))))) (am_nd 20 (am_nd 16 (am_nd 13 (am_lf 12 (a_iload 1 13)) (am_lf 13 (a_cvI tT mX2_keptOf 2 2 16))) (am_nd 19 (am_lf 16 (a_if (fun x => x ≤ nI 0) 21 19)) (am_lf 19 (a_const (nI 1) 20)))) (am_nd 24 (am_nd 21 (am_lf 20 (a_zret)) (am_lf 21 (a_iinc 2 (nI 1) 24))) (am_nd 27 (am_lf 24 (a_goto 2)) (am_nd 28 (am_lf 27 (a_const (nI 0) 28)) (am_lf 28 (a_zret))))))
theorem gX2_someKeeps_0 : am_Good tT mX2_someKeeps tX2_someKeeps_0 := am_nd_ok (am_nd_ok (am_nd_ok (am_nd_ok (am_lf_ok (fun _ => ok_iconst dX2_someKeeps_0 cv_iconst_0 rfl)) (am_lf_ok (fun _ => ok_istore_n dX2_someKeeps_1 rfl (Nat.le_of_ble_eq_true rfl) rfl))) (am_nd_ok (am_lf_ok (fun _ => ok_iload_n dX2_someKeeps_2 rfl rfl)) (am_lf_ok (fun _ => ok_aload_n dX2_someKeeps_3 rfl rfl)))) (am_nd_ok (am_nd_ok (am_lf_ok (fun _ => ok_get (C := RX2) (TT := TX2) (N := 3) rfl inw_X2 (Nat.le_of_ble_eq_true rfl) wd_62 dX2_someKeeps_4 rfl)) (am_lf_ok (fun _ => ok_cmp_ge dX2_someKeeps_7 rfl rfl))) (am_nd_ok (am_lf_ok (fun _ => ok_aload_n dX2_someKeeps_10 rfl rfl)) (am_lf_ok (fun _ => ok_iload_n dX2_someKeeps_11 rfl rfl))))) (am_nd_ok (am_nd_ok (am_nd_ok (am_lf_ok (fun _ => ok_iload_n dX2_someKeeps_12 rfl rfl)) (am_lf_ok (fun _ => ok_cvI rfl mw_X2_keptOf (ci := 2) rfl rfl wd_67 wd_68 wd_69 dX2_someKeeps_13 rfl))) (am_nd_ok (am_lf_ok (fun _ => ok_if_le dX2_someKeeps_16 rfl rfl)) (am_lf_ok (fun _ => ok_iconst dX2_someKeeps_19 cv_iconst_1 rfl)))) (am_nd_ok (am_nd_ok (am_lf_ok (fun _ => ok_zret rfl dX2_someKeeps_20)) (am_lf_ok (fun _ => ok_iinc dX2_someKeeps_21 cv_iconst_1 (Nat.le_of_ble_eq_true rfl) rfl))) (am_nd_ok (am_lf_ok (fun _ => ok_goto dX2_someKeeps_24 rfl)) (am_nd_ok (am_lf_ok (fun _ => ok_iconst dX2_someKeeps_27 cv_iconst_0 rfl)) (am_lf_ok (fun _ => ok_zret rfl dX2_someKeeps_28))))))
def tX2_someKeeps : Nat → Option am_Act := tX2_someKeeps_0
theorem gX2_someKeeps : am_Good tT mX2_someKeeps tX2_someKeeps := gX2_someKeeps_0
theorem dX2_copyFrom_0 : decode cX2_copyFrom 0 = .ok (.aload_n 0, 1) := by decide +kernel
theorem dX2_copyFrom_1 : decode cX2_copyFrom 1 = .ok (.aload_n 1, 1) := by decide +kernel
theorem dX2_copyFrom_2 : decode cX2_copyFrom 2 = .ok (.getfield 18, 3) := by decide +kernel
theorem dX2_copyFrom_5 : decode cX2_copyFrom 5 = .ok (.putfield 18, 3) := by decide +kernel
theorem dX2_copyFrom_8 : decode cX2_copyFrom 8 = .ok (.aload_n 1, 1) := by decide +kernel
theorem dX2_copyFrom_9 : decode cX2_copyFrom 9 = .ok (.getfield 9, 3) := by decide +kernel
theorem dX2_copyFrom_12 : decode cX2_copyFrom 12 = .ok (.iconst 0, 1) := by decide +kernel
theorem dX2_copyFrom_13 : decode cX2_copyFrom 13 = .ok (.aload_n 0, 1) := by decide +kernel
theorem dX2_copyFrom_14 : decode cX2_copyFrom 14 = .ok (.getfield 9, 3) := by decide +kernel
theorem dX2_copyFrom_17 : decode cX2_copyFrom 17 = .ok (.iconst 0, 1) := by decide +kernel
theorem dX2_copyFrom_18 : decode cX2_copyFrom 18 = .ok (.bipush 24, 2) := by decide +kernel
theorem dX2_copyFrom_20 : decode cX2_copyFrom 20 = .ok (.invokestatic 32, 3) := by decide +kernel
theorem dX2_copyFrom_23 : decode cX2_copyFrom 23 = .ok (.aload_n 1, 1) := by decide +kernel
theorem dX2_copyFrom_24 : decode cX2_copyFrom 24 = .ok (.getfield 15, 3) := by decide +kernel
theorem dX2_copyFrom_27 : decode cX2_copyFrom 27 = .ok (.iconst 0, 1) := by decide +kernel
theorem dX2_copyFrom_28 : decode cX2_copyFrom 28 = .ok (.aload_n 0, 1) := by decide +kernel
theorem dX2_copyFrom_29 : decode cX2_copyFrom 29 = .ok (.getfield 15, 3) := by decide +kernel
theorem dX2_copyFrom_32 : decode cX2_copyFrom 32 = .ok (.iconst 0, 1) := by decide +kernel
theorem dX2_copyFrom_33 : decode cX2_copyFrom 33 = .ok (.sipush 240, 3) := by decide +kernel
theorem dX2_copyFrom_36 : decode cX2_copyFrom 36 = .ok (.invokestatic 32, 3) := by decide +kernel
theorem dX2_copyFrom_39 : decode cX2_copyFrom 39 = .ok (.return_, 1) := by decide +kernel
def tX2_copyFrom_0 : Nat → Option am_Act := am_nd 18 (am_nd 9 (am_nd 2 (am_nd 1 (am_lf 0 (a_aload 0 1)) (am_lf 1 (a_aload 1 2))) (am_nd 5 (am_lf 2 (a_get tT 2 0 5)) (am_nd 8 (am_lf 5 (a_put tT 2 0 8)) (am_lf 8 (a_aload 1 9))))) (am_nd 13 (am_nd 12 (am_lf 9 (a_get tT 2 1 12)) (am_lf 12 (a_const (nI 0) 13))) (am_nd 14 (am_lf 13 (a_aload 0 14)) (am_nd 17 (am_lf 14 (a_get tT 2 1 17)) (am_lf 17 (a_const (nI 0) 18)))))) (am_nd 28 (am_nd 23 (am_nd 20 (am_lf 18 (a_const (nI 24) 20)) (am_lf 20 (a_copy tT 23))) (am_nd 24 (am_lf 23 (a_aload 1 24)) (am_nd 27 (am_lf 24 (a_get tT 2 2 27)) (am_lf 27 (a_const (nI 0) 28))))) (am_nd 33 (am_nd 29 (am_lf 28 (a_aload 0 29)) (am_nd 32 (am_lf 29 (a_get tT 2 2 32)) (am_lf 32 (a_const (nI 0) 33)))) (am_nd 36 (am_lf 33 (a_const (nI 240) 36)) (am_nd 39 (am_lf 36 (a_copy tT 39)) (am_lf 39 (a_ret))))))
theorem gX2_copyFrom_0 : am_Good tT mX2_copyFrom tX2_copyFrom_0 := am_nd_ok (am_nd_ok (am_nd_ok (am_nd_ok (am_lf_ok (fun _ => ok_aload_n dX2_copyFrom_0 rfl rfl)) (am_lf_ok (fun _ => ok_aload_n dX2_copyFrom_1 rfl rfl))) (am_nd_ok (am_lf_ok (fun _ => ok_get (C := RX2) (TT := TX2) (N := 3) rfl inw_X2 (Nat.le_of_ble_eq_true rfl) wd_62 dX2_copyFrom_2 rfl)) (am_nd_ok (am_lf_ok (fun _ => ok_put (C := RX2) (TT := TX2) (N := 3) (ty0 := tyX2) rfl inw_X2 tyX2_ok nmX2 (Nat.le_of_ble_eq_true rfl) rfl rfl wd_62 dX2_copyFrom_5 rfl)) (am_lf_ok (fun _ => ok_aload_n dX2_copyFrom_8 rfl rfl))))) (am_nd_ok (am_nd_ok (am_lf_ok (fun _ => ok_get (C := RX2) (TT := TX2) (N := 3) rfl inw_X2 (Nat.le_of_ble_eq_true rfl) wd_63 dX2_copyFrom_9 rfl)) (am_lf_ok (fun _ => ok_iconst dX2_copyFrom_12 cv_iconst_0 rfl))) (am_nd_ok (am_lf_ok (fun _ => ok_aload_n dX2_copyFrom_13 rfl rfl)) (am_nd_ok (am_lf_ok (fun _ => ok_get (C := RX2) (TT := TX2) (N := 3) rfl inw_X2 (Nat.le_of_ble_eq_true rfl) wd_63 dX2_copyFrom_14 rfl)) (am_lf_ok (fun _ => ok_iconst dX2_copyFrom_17 cv_iconst_0 rfl)))))) (am_nd_ok (am_nd_ok (am_nd_ok (am_lf_ok (fun _ => ok_bipush dX2_copyFrom_18 cv_bipush_24 rfl)) (am_lf_ok (fun _ => ok_copy wd_70 wd_31 wd_32 wd_33 dX2_copyFrom_20 rfl))) (am_nd_ok (am_lf_ok (fun _ => ok_aload_n dX2_copyFrom_23 rfl rfl)) (am_nd_ok (am_lf_ok (fun _ => ok_get (C := RX2) (TT := TX2) (N := 3) rfl inw_X2 (Nat.le_of_ble_eq_true rfl) wd_64 dX2_copyFrom_24 rfl)) (am_lf_ok (fun _ => ok_iconst dX2_copyFrom_27 cv_iconst_0 rfl))))) (am_nd_ok (am_nd_ok (am_lf_ok (fun _ => ok_aload_n dX2_copyFrom_28 rfl rfl)) (am_nd_ok (am_lf_ok (fun _ => ok_get (C := RX2) (TT := TX2) (N := 3) rfl inw_X2 (Nat.le_of_ble_eq_true rfl) wd_64 dX2_copyFrom_29 rfl)) (am_lf_ok (fun _ => ok_iconst dX2_copyFrom_32 cv_iconst_0 rfl)))) (am_nd_ok (am_lf_ok (fun _ => ok_sipush dX2_copyFrom_33 cv_sipush_240 rfl)) (am_nd_ok (am_lf_ok (fun _ => ok_copy wd_70 wd_31 wd_32 wd_33 dX2_copyFrom_36 rfl)) (am_lf_ok (fun _ => ok_ret rfl dX2_copyFrom_39))))))
def tX2_copyFrom : Nat → Option am_Act := tX2_copyFrom_0
theorem gX2_copyFrom : am_Good tT mX2_copyFrom tX2_copyFrom := gX2_copyFrom_0
