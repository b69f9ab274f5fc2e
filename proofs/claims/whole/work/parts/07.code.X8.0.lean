/-! ===== code of TollOfNames$Trail ===== -/
theorem dX8_forget_0 : decode cX8_forget 0 = .ok (.aload_n 0, 1) := by decide +kernel
theorem dX8_forget_1 : decode cX8_forget 1 = .ok (.iconst 0, 1) := by decide +kernel
theorem dX8_forget_2 : decode cX8_forget 2 = .ok (.putfield 15, 3) := by decide +kernel
theorem dX8_forget_5 : decode cX8_forget 5 = .ok (.return_, 1) := by decide +kernel
def tX8_forget_0 : Nat → Option am_Act := am_nd 2 (am_nd 1 (am_lf 0 (a_aload 0 1)) (am_lf 1 (a_const (nI 0) 2))) (am_nd 5 (am_lf 2 (a_put tT 8 0 5)) (am_lf 5 (a_ret)))
theorem gX8_forget_0 : am_Good tT mX8_forget tX8_forget_0 := am_nd_ok (am_nd_ok (am_lf_ok (fun _ => ok_aload_n dX8_forget_0 rfl rfl)) (am_lf_ok (fun _ => ok_iconst dX8_forget_1 cv_iconst_0 rfl))) (am_nd_ok (am_lf_ok (fun _ => ok_put (C := RX8) (TT := TX8) (N := 2) (ty0 := tyX8) rfl inw_X8 tyX8_ok nmX8 (Nat.le_of_ble_eq_true rfl) rfl rfl wd_230 dX8_forget_2 rfl)) (am_lf_ok (fun _ => ok_ret rfl dX8_forget_5)))
def tX8_forget : Nat → Option am_Act := tX8_forget_0
theorem gX8_forget : am_Good tT mX8_forget tX8_forget := gX8_forget_0
theorem dX8_part_0 : decode cX8_part 0 = .ok (.aload_n 0, 1) := by decide +kernel
theorem dX8_part_1 : decode cX8_part 1 = .ok (.getfield 11, 3) := by decide +kernel
theorem dX8_part_4 : decode cX8_part 4 = .ok (.aload_n 0, 1) := by decide +kernel
theorem dX8_part_5 : decode cX8_part 5 = .ok (.getfield 15, 3) := by decide +kernel
theorem dX8_part_8 : decode cX8_part 8 = .ok (.bipush 6, 2) := by decide +kernel
theorem dX8_part_10 : decode cX8_part 10 = .ok (.imul, 1) := by decide +kernel
theorem dX8_part_11 : decode cX8_part 11 = .ok (.iload_n 1, 1) := by decide +kernel
theorem dX8_part_12 : decode cX8_part 12 = .ok (.iadd, 1) := by decide +kernel
theorem dX8_part_13 : decode cX8_part 13 = .ok (.iaload, 1) := by decide +kernel
theorem dX8_part_14 : decode cX8_part 14 = .ok (.ireturn, 1) := by decide +kernel
def tX8_part_0 : Nat → Option am_Act := am_nd 10 (am_nd 4 (am_nd 1 (am_lf 0 (a_aload 0 1)) (am_lf 1 (a_get tT 8 1 4))) (am_nd 5 (am_lf 4 (a_aload 0 5)) (am_nd 8 (am_lf 5 (a_get tT 8 0 8)) (am_lf 8 (a_const (nI 6) 10))))) (am_nd 12 (am_nd 11 (am_lf 10 (a_bin (fun x y => x * y) 11)) (am_lf 11 (a_iload 1 12))) (am_nd 13 (am_lf 12 (a_bin (fun x y => x + y) 13)) (am_nd 14 (am_lf 13 (a_iald tT 14)) (am_lf 14 (a_iret)))))
theorem gX8_part_0 : am_Good tT mX8_part tX8_part_0 := am_nd_ok (am_nd_ok (am_nd_ok (am_lf_ok (fun _ => ok_aload_n dX8_part_0 rfl rfl)) (am_lf_ok (fun _ => ok_get (C := RX8) (TT := TX8) (N := 2) rfl inw_X8 (Nat.le_of_ble_eq_true rfl) wd_231 dX8_part_1 rfl))) (am_nd_ok (am_lf_ok (fun _ => ok_aload_n dX8_part_4 rfl rfl)) (am_nd_ok (am_lf_ok (fun _ => ok_get (C := RX8) (TT := TX8) (N := 2) rfl inw_X8 (Nat.le_of_ble_eq_true rfl) wd_230 dX8_part_5 rfl)) (am_lf_ok (fun _ => ok_bipush dX8_part_8 cv_bipush_6 rfl))))) (am_nd_ok (am_nd_ok (am_lf_ok (fun _ => ok_imul dX8_part_10 rfl)) (am_lf_ok (fun _ => ok_iload_n dX8_part_11 rfl rfl))) (am_nd_ok (am_lf_ok (fun _ => ok_iadd dX8_part_12 rfl)) (am_nd_ok (am_lf_ok (fun _ => ok_iald dX8_part_13 rfl)) (am_lf_ok (fun _ => ok_iret rfl dX8_part_14)))))
def tX8_part : Nat → Option am_Act := tX8_part_0
theorem gX8_part : am_Good tT mX8_part tX8_part := gX8_part_0
theorem dX8_add_0 : decode cX8_add 0 = .ok (.aload_n 0, 1) := by decide +kernel
theorem dX8_add_1 : decode cX8_add 1 = .ok (.getfield 15, 3) := by decide +kernel
theorem dX8_add_4 : decode cX8_add 4 = .ok (.bipush 8, 2) := by decide +kernel
theorem dX8_add_6 : decode cX8_add 6 = .ok (.if_icmp .lt 25, 3) := by decide +kernel
theorem dX8_add_9 : decode cX8_add 9 = .ok (.aload_n 0, 1) := by decide +kernel
theorem dX8_add_10 : decode cX8_add 10 = .ok (.getfield 11, 3) := by decide +kernel
theorem dX8_add_13 : decode cX8_add 13 = .ok (.bipush 6, 2) := by decide +kernel
theorem dX8_add_15 : decode cX8_add 15 = .ok (.aload_n 0, 1) := by decide +kernel
theorem dX8_add_16 : decode cX8_add 16 = .ok (.getfield 11, 3) := by decide +kernel
theorem dX8_add_19 : decode cX8_add 19 = .ok (.iconst 0, 1) := by decide +kernel
theorem dX8_add_20 : decode cX8_add 20 = .ok (.bipush 42, 2) := by decide +kernel
theorem dX8_add_22 : decode cX8_add 22 = .ok (.invokestatic 19, 3) := by decide +kernel
theorem dX8_add_25 : decode cX8_add 25 = .ok (.aload_n 0, 1) := by decide +kernel
theorem dX8_add_26 : decode cX8_add 26 = .ok (.bipush 7, 2) := by decide +kernel
theorem dX8_add_28 : decode cX8_add 28 = .ok (.putfield 15, 3) := by decide +kernel
theorem dX8_add_31 : decode cX8_add 31 = .ok (.aload_n 0, 1) := by decide +kernel
theorem dX8_add_32 : decode cX8_add 32 = .ok (.getfield 15, 3) := by decide +kernel
theorem dX8_add_35 : decode cX8_add 35 = .ok (.bipush 6, 2) := by decide +kernel
theorem dX8_add_37 : decode cX8_add 37 = .ok (.imul, 1) := by decide +kernel
theorem dX8_add_38 : decode cX8_add 38 = .ok (.istore 7, 2) := by decide +kernel
theorem dX8_add_40 : decode cX8_add 40 = .ok (.aload_n 0, 1) := by decide +kernel
theorem dX8_add_41 : decode cX8_add 41 = .ok (.getfield 11, 3) := by decide +kernel
theorem dX8_add_44 : decode cX8_add 44 = .ok (.iload 7, 2) := by decide +kernel
theorem dX8_add_46 : decode cX8_add 46 = .ok (.iconst 0, 1) := by decide +kernel
theorem dX8_add_47 : decode cX8_add 47 = .ok (.iadd, 1) := by decide +kernel
theorem dX8_add_48 : decode cX8_add 48 = .ok (.iload_n 1, 1) := by decide +kernel
theorem dX8_add_49 : decode cX8_add 49 = .ok (.iastore, 1) := by decide +kernel
theorem dX8_add_50 : decode cX8_add 50 = .ok (.aload_n 0, 1) := by decide +kernel
theorem dX8_add_51 : decode cX8_add 51 = .ok (.getfield 11, 3) := by decide +kernel
theorem dX8_add_54 : decode cX8_add 54 = .ok (.iload 7, 2) := by decide +kernel
theorem dX8_add_56 : decode cX8_add 56 = .ok (.iconst 1, 1) := by decide +kernel
theorem dX8_add_57 : decode cX8_add 57 = .ok (.iadd, 1) := by decide +kernel
theorem dX8_add_58 : decode cX8_add 58 = .ok (.iload_n 2, 1) := by decide +kernel
theorem dX8_add_59 : decode cX8_add 59 = .ok (.iastore, 1) := by decide +kernel
theorem dX8_add_60 : decode cX8_add 60 = .ok (.aload_n 0, 1) := by decide +kernel
theorem dX8_add_61 : decode cX8_add 61 = .ok (.getfield 11, 3) := by decide +kernel
theorem dX8_add_64 : decode cX8_add 64 = .ok (.iload 7, 2) := by decide +kernel
theorem dX8_add_66 : decode cX8_add 66 = .ok (.iconst 2, 1) := by decide +kernel
theorem dX8_add_67 : decode cX8_add 67 = .ok (.iadd, 1) := by decide +kernel
theorem dX8_add_68 : decode cX8_add 68 = .ok (.iload_n 3, 1) := by decide +kernel
theorem dX8_add_69 : decode cX8_add 69 = .ok (.iastore, 1) := by decide +kernel
theorem dX8_add_70 : decode cX8_add 70 = .ok (.aload_n 0, 1) := by decide +kernel
theorem dX8_add_71 : decode cX8_add 71 = .ok (.getfield 11, 3) := by decide +kernel
theorem dX8_add_74 : decode cX8_add 74 = .ok (.iload 7, 2) := by decide +kernel
theorem dX8_add_76 : decode cX8_add 76 = .ok (.iconst 3, 1) := by decide +kernel
theorem dX8_add_77 : decode cX8_add 77 = .ok (.iadd, 1) := by decide +kernel
theorem dX8_add_78 : decode cX8_add 78 = .ok (.iload 4, 2) := by decide +kernel
theorem dX8_add_80 : decode cX8_add 80 = .ok (.iastore, 1) := by decide +kernel
theorem dX8_add_81 : decode cX8_add 81 = .ok (.aload_n 0, 1) := by decide +kernel
theorem dX8_add_82 : decode cX8_add 82 = .ok (.getfield 11, 3) := by decide +kernel
theorem dX8_add_85 : decode cX8_add 85 = .ok (.iload 7, 2) := by decide +kernel
theorem dX8_add_87 : decode cX8_add 87 = .ok (.iconst 4, 1) := by decide +kernel
theorem dX8_add_88 : decode cX8_add 88 = .ok (.iadd, 1) := by decide +kernel
theorem dX8_add_89 : decode cX8_add 89 = .ok (.iload 5, 2) := by decide +kernel
theorem dX8_add_91 : decode cX8_add 91 = .ok (.iastore, 1) := by decide +kernel
theorem dX8_add_92 : decode cX8_add 92 = .ok (.aload_n 0, 1) := by decide +kernel
theorem dX8_add_93 : decode cX8_add 93 = .ok (.getfield 11, 3) := by decide +kernel
theorem dX8_add_96 : decode cX8_add 96 = .ok (.iload 7, 2) := by decide +kernel
theorem dX8_add_98 : decode cX8_add 98 = .ok (.iconst 5, 1) := by decide +kernel
theorem dX8_add_99 : decode cX8_add 99 = .ok (.iadd, 1) := by decide +kernel
theorem dX8_add_100 : decode cX8_add 100 = .ok (.iload 6, 2) := by decide +kernel
theorem dX8_add_102 : decode cX8_add 102 = .ok (.ifCond .eq 7, 3) := by decide +kernel
theorem dX8_add_105 : decode cX8_add 105 = .ok (.iconst 1, 1) := by decide +kernel
theorem dX8_add_106 : decode cX8_add 106 = .ok (.goto 4, 3) := by decide +kernel
theorem dX8_add_109 : decode cX8_add 109 = .ok (.iconst 0, 1) := by decide +kernel
theorem dX8_add_110 : decode cX8_add 110 = .ok (.iastore, 1) := by decide +kernel
theorem dX8_add_111 : decode cX8_add 111 = .ok (.aload_n 0, 1) := by decide +kernel
theorem dX8_add_112 : decode cX8_add 112 = .ok (.dup, 1) := by decide +kernel
theorem dX8_add_113 : decode cX8_add 113 = .ok (.getfield 15, 3) := by decide +kernel
theorem dX8_add_116 : decode cX8_add 116 = .ok (.iconst 1, 1) := by decide +kernel
theorem dX8_add_117 : decode cX8_add 117 = .ok (.iadd, 1) := by decide +kernel
theorem dX8_add_118 : decode cX8_add 118 = .ok (.putfield 15, 3) := by decide +kernel
theorem dX8_add_121 : decode cX8_add 121 = .ok (.return_, 1) := by decide +kernel
def tX8_add_0 : Nat → Option am_Act := am_nd 25 (am_nd 13 (am_nd 6 (am_nd 1 (am_lf 0 (a_aload 0 1)) (am_nd 4 (am_lf 1 (a_get tT 8 0 4)) (am_lf 4 (a_const (nI 8) 6)))) (am_nd 9 (am_lf 6 (a_cmp (fun x y => x < y) 31 9)) (am_nd 10 (am_lf 9 (a_aload 0 10)) (am_lf 10 (a_get tT 8 1 13))))) (am_nd 19 (am_nd 15 (am_lf 13 (a_const (nI 6) 15)) (am_nd 16 (am_lf 15 (a_aload 0 16)) (am_lf 16 (a_get tT 8 1 19)))) (am_nd 20 (am_lf 19 (a_const (nI 0) 20)) (am_nd 22 (am_lf 20 (a_const (nI 42) 22)) (am_lf 22 (a_copy tT 25)))))) (am_nd 37 (am_nd 31 (am_nd 26 (am_lf 25 (a_aload 0 26)) (am_nd 28 (am_lf 26 (a_const (nI 7) 28)) (am_lf 28 (a_put tT 8 0 31)))) (am_nd 32 (am_lf 31 (a_aload 0 32)) (am_nd 35 (am_lf 32 (a_get tT 8 0 35)) (am_lf 35 (a_const (nI 6) 37))))) (am_nd 41 (am_nd 38 (am_lf 37 (a_bin (fun x y => x * y) 38)) (am_nd 40 (am_lf 38 (a_istore 7 40)) (am_lf 40 (a_aload 0 41)))) (am_nd 44 (am_lf 41 (a_get tT 8 1 44)) (am_nd 46 (am_lf 44 (a_iload 7 46)) (am_lf 46 (a_const (nI 0) 47))))))
theorem gX8_add_0 : am_Good tT mX8_add tX8_add_0 := am_nd_ok (am_nd_ok (am_nd_ok (am_nd_ok (am_lf_ok (fun _ => ok_aload_n dX8_add_0 rfl rfl)) (am_nd_ok (am_lf_ok (fun _ => ok_get (C := RX8) (TT := TX8) (N := 2) rfl inw_X8 (Nat.le_of_ble_eq_true rfl) wd_230 dX8_add_1 rfl)) (am_lf_ok (fun _ => ok_bipush dX8_add_4 cv_bipush_8 rfl)))) (am_nd_ok (am_lf_ok (fun _ => ok_cmp_lt dX8_add_6 rfl rfl)) (am_nd_ok (am_lf_ok (fun _ => ok_aload_n dX8_add_9 rfl rfl)) (am_lf_ok (fun _ => ok_get (C := RX8) (TT := TX8) (N := 2) rfl inw_X8 (Nat.le_of_ble_eq_true rfl) wd_231 dX8_add_10 rfl))))) (am_nd_ok (am_nd_ok (am_lf_ok (fun _ => ok_bipush dX8_add_13 cv_bipush_6 rfl)) (am_nd_ok (am_lf_ok (fun _ => ok_aload_n dX8_add_15 rfl rfl)) (am_lf_ok (fun _ => ok_get (C := RX8) (TT := TX8) (N := 2) rfl inw_X8 (Nat.le_of_ble_eq_true rfl) wd_231 dX8_add_16 rfl)))) (am_nd_ok (am_lf_ok (fun _ => ok_iconst dX8_add_19 cv_iconst_0 rfl)) (am_nd_ok (am_lf_ok (fun _ => ok_bipush dX8_add_20 cv_bipush_42 rfl)) (am_lf_ok (fun _ => ok_copy wd_232 wd_31 wd_32 wd_33 dX8_add_22 rfl)))))) (am_nd_ok (am_nd_ok (am_nd_ok (am_lf_ok (fun _ => ok_aload_n dX8_add_25 rfl rfl)) (am_nd_ok (am_lf_ok (fun _ => ok_bipush dX8_add_26 cv_bipush_7 rfl)) (am_lf_ok (fun _ => ok_put (C := RX8) (TT := TX8) (N := 2) (ty0 := tyX8) rfl inw_X8 tyX8_ok nmX8 (Nat.le_of_ble_eq_true rfl) rfl rfl wd_230 dX8_add_28 rfl)))) (am_nd_ok (am_lf_ok (fun _ => ok_aload_n dX8_add_31 rfl rfl)) (am_nd_ok (am_lf_ok (fun _ => ok_get (C := RX8) (TT := TX8) (N := 2) rfl inw_X8 (Nat.le_of_ble_eq_true rfl) wd_230 dX8_add_32 rfl)) (am_lf_ok (fun _ => ok_bipush dX8_add_35 cv_bipush_6 rfl))))) (am_nd_ok (am_nd_ok (am_lf_ok (fun _ => ok_imul dX8_add_37 rfl)) (am_nd_ok (am_lf_ok (fun _ => ok_istore dX8_add_38 (Nat.le_of_ble_eq_true rfl) rfl)) (am_lf_ok (fun _ => ok_aload_n dX8_add_40 rfl rfl)))) (am_nd_ok (am_lf_ok (fun _ => ok_get (C := RX8) (TT := TX8) (N := 2) rfl inw_X8 (Nat.le_of_ble_eq_true rfl) wd_231 dX8_add_41 rfl)) (am_nd_ok (am_lf_ok (fun _ => ok_iload dX8_add_44 rfl)) (am_lf_ok (fun _ => ok_iconst dX8_add_46 cv_iconst_0 rfl))))))
def tX8_add_1 : Nat → Option am_Act := am_nd 64 (am_nd 56 (am_nd 50 (am_nd 48 (am_lf 47 (a_bin (fun x y => x + y) 48)) (am_nd 49 (am_lf 48 (a_iload 1 49)) (am_lf 49 (a_iast tT 50)))) (am_nd 51 (am_lf 50 (a_aload 0 51)) (am_nd 54 (am_lf 51 (a_get tT 8 1 54)) (am_lf 54 (a_iload 7 56))))) (am_nd 59 (am_nd 57 (am_lf 56 (a_const (nI 1) 57)) (am_nd 58 (am_lf 57 (a_bin (fun x y => x + y) 58)) (am_lf 58 (a_iload 2 59)))) (am_nd 60 (am_lf 59 (a_iast tT 60)) (am_nd 61 (am_lf 60 (a_aload 0 61)) (am_lf 61 (a_get tT 8 1 64)))))) (am_nd 71 (am_nd 68 (am_nd 66 (am_lf 64 (a_iload 7 66)) (am_nd 67 (am_lf 66 (a_const (nI 2) 67)) (am_lf 67 (a_bin (fun x y => x + y) 68)))) (am_nd 69 (am_lf 68 (a_iload 3 69)) (am_nd 70 (am_lf 69 (a_iast tT 70)) (am_lf 70 (a_aload 0 71))))) (am_nd 77 (am_nd 74 (am_lf 71 (a_get tT 8 1 74)) (am_nd 76 (am_lf 74 (a_iload 7 76)) (am_lf 76 (a_const (nI 3) 77)))) (am_nd 78 (am_lf 77 (a_bin (fun x y => x + y) 78)) (am_nd 80 (am_lf 78 (a_iload 4 80)) (am_lf 80 (a_iast tT 81))))))
theorem gX8_add_1 : am_Good tT mX8_add tX8_add_1 := am_nd_ok (am_nd_ok (am_nd_ok (am_nd_ok (am_lf_ok (fun _ => ok_iadd dX8_add_47 rfl)) (am_nd_ok (am_lf_ok (fun _ => ok_iload_n dX8_add_48 rfl rfl)) (am_lf_ok (fun _ => ok_iast dX8_add_49 rfl)))) (am_nd_ok (am_lf_ok (fun _ => ok_aload_n dX8_add_50 rfl rfl)) (am_nd_ok (am_lf_ok (fun _ => ok_get (C := RX8) (TT := TX8) (N := 2) rfl inw_X8 (Nat.le_of_ble_eq_true rfl) wd_231 dX8_add_51 rfl)) (am_lf_ok (fun _ => ok_iload dX8_add_54 rfl))))) (am_nd_ok (am_nd_ok (am_lf_ok (fun _ => ok_iconst dX8_add_56 cv_iconst_1 rfl)) (am_nd_ok (am_lf_ok (fun _ => ok_iadd dX8_add_57 rfl)) (am_lf_ok (fun _ => ok_iload_n dX8_add_58 rfl rfl)))) (am_nd_ok (am_lf_ok (fun _ => ok_iast dX8_add_59 rfl)) (am_nd_ok (am_lf_ok (fun _ => ok_aload_n dX8_add_60 rfl rfl)) (am_lf_ok (fun _ => ok_get (C := RX8) (TT := TX8) (N := 2) rfl inw_X8 (Nat.le_of_ble_eq_true rfl) wd_231 dX8_add_61 rfl)))))) (am_nd_ok (am_nd_ok (am_nd_ok (am_lf_ok (fun _ => ok_iload dX8_add_64 rfl)) (am_nd_ok (am_lf_ok (fun _ => ok_iconst dX8_add_66 cv_iconst_2 rfl)) (am_lf_ok (fun _ => ok_iadd dX8_add_67 rfl)))) (am_nd_ok (am_lf_ok (fun _ => ok_iload_n dX8_add_68 rfl rfl)) (am_nd_ok (am_lf_ok (fun _ => ok_iast dX8_add_69 rfl)) (am_lf_ok (fun _ => ok_aload_n dX8_add_70 rfl rfl))))) (am_nd_ok (am_nd_ok (am_lf_ok (fun _ => ok_get (C := RX8) (TT := TX8) (N := 2) rfl inw_X8 (Nat.le_of_ble_eq_true rfl) wd_231 dX8_add_71 rfl)) (am_nd_ok (am_lf_ok (fun _ => ok_iload dX8_add_74 rfl)) (am_lf_ok (fun _ => ok_iconst dX8_add_76 cv_iconst_3 rfl)))) (am_nd_ok (am_lf_ok (fun _ => ok_iadd dX8_add_77 rfl)) (am_nd_ok (am_lf_ok (fun _ => ok_iload dX8_add_78 rfl)) (am_lf_ok (fun _ => ok_iast dX8_add_80 rfl))))))
def tX8_add_2 : Nat → Option am_Act := am_nd 100 (am_nd 91 (am_nd 87 (am_nd 82 (am_lf 81 (a_aload 0 82)) (am_nd 85 (am_lf 82 (a_get tT 8 1 85)) (am_lf 85 (a_iload 7 87)))) (am_nd 88 (am_lf 87 (a_const (nI 4) 88)) (am_nd 89 (am_lf 88 (a_bin (fun x y => x + y) 89)) (am_lf 89 (a_iload 5 91))))) (am_nd 96 (am_nd 92 (am_lf 91 (a_iast tT 92)) (am_nd 93 (am_lf 92 (a_aload 0 93)) (am_lf 93 (a_get tT 8 1 96)))) (am_nd 98 (am_lf 96 (a_iload 7 98)) (am_nd 99 (am_lf 98 (a_const (nI 5) 99)) (am_lf 99 (a_bin (fun x y => x + y) 100)))))) (am_nd 111 (am_nd 106 (am_nd 102 (am_lf 100 (a_iload 6 102)) (am_nd 105 (am_lf 102 (a_if (fun x => x = nI 0) 109 105)) (am_lf 105 (a_const (nI 1) 106)))) (am_nd 109 (am_lf 106 (a_goto 110)) (am_nd 110 (am_lf 109 (a_const (nI 0) 110)) (am_lf 110 (a_iast tT 111))))) (am_nd 116 (am_nd 112 (am_lf 111 (a_aload 0 112)) (am_nd 113 (am_lf 112 (a_dup 113)) (am_lf 113 (a_get tT 8 0 116)))) (am_nd 117 (am_lf 116 (a_const (nI 1) 117)) (am_nd 118 (am_lf 117 (a_bin (fun x y => x + y) 118)) (am_lf 118 (a_put tT 8 0 121))))))
theorem gX8_add_2 : am_Good tT mX8_add tX8_add_2 := am_nd_ok (am_nd_ok (am_nd_ok (am_nd_ok (am_lf_ok (fun _ => ok_aload_n dX8_add_81 rfl rfl)) (am_nd_ok (am_lf_ok (fun _ => ok_get (C := RX8) (TT := TX8) (N := 2) rfl inw_X8 (Nat.le_of_ble_eq_true rfl) wd_231 dX8_add_82 rfl)) (am_lf_ok (fun _ => ok_iload dX8_add_85 rfl)))) (am_nd_ok (am_lf_ok (fun _ => ok_iconst dX8_add_87 cv_iconst_4 rfl)) (am_nd_ok (am_lf_ok (fun _ => ok_iadd dX8_add_88 rfl)) (am_lf_ok (fun _ => ok_iload dX8_add_89 rfl))))) (am_nd_ok (am_nd_ok (am_lf_ok (fun _ => ok_iast dX8_add_91 rfl)) (am_nd_ok (am_lf_ok (fun _ => ok_aload_n dX8_add_92 rfl rfl)) (am_lf_ok (fun _ => ok_get (C := RX8) (TT := TX8) (N := 2) rfl inw_X8 (Nat.le_of_ble_eq_true rfl) wd_231 dX8_add_93 rfl)))) (am_nd_ok (am_lf_ok (fun _ => ok_iload dX8_add_96 rfl)) (am_nd_ok (am_lf_ok (fun _ => ok_iconst dX8_add_98 cv_iconst_5 rfl)) (am_lf_ok (fun _ => ok_iadd dX8_add_99 rfl)))))) (am_nd_ok (am_nd_ok (am_nd_ok (am_lf_ok (fun _ => ok_iload dX8_add_100 rfl)) (am_nd_ok (am_lf_ok (fun _ => ok_if_eq dX8_add_102 rfl rfl)) (am_lf_ok (fun _ => ok_iconst dX8_add_105 cv_iconst_1 rfl)))) (am_nd_ok (am_lf_ok (fun _ => ok_goto dX8_add_106 rfl)) (am_nd_ok (am_lf_ok (fun _ => ok_iconst dX8_add_109 cv_iconst_0 rfl)) (am_lf_ok (fun _ => ok_iast dX8_add_110 rfl))))) (am_nd_ok (am_nd_ok (am_lf_ok (fun _ => ok_aload_n dX8_add_111 rfl rfl)) (am_nd_ok (am_lf_ok (fun _ => ok_dup dX8_add_112 rfl)) (am_lf_ok (fun _ => ok_get (C := RX8) (TT := TX8) (N := 2) rfl inw_X8 (Nat.le_of_ble_eq_true rfl) wd_230 dX8_add_113 rfl)))) (am_nd_ok (am_lf_ok (fun _ => ok_iconst dX8_add_116 cv_iconst_1 rfl)) (am_nd_ok (am_lf_ok (fun _ => ok_iadd dX8_add_117 rfl)) (am_lf_ok (fun _ => ok_put (C := RX8) (TT := TX8) (N := 2) (ty0 := tyX8) rfl inw_X8 tyX8_ok nmX8 (Nat.le_of_ble_eq_true rfl) rfl rfl wd_230 dX8_add_118 rfl))))))
def tX8_add_3 : Nat → Option am_Act := am_lf 121 (a_ret)
theorem gX8_add_3 : am_Good tT mX8_add tX8_add_3 := am_lf_ok (fun _ => ok_ret rfl dX8_add_121)
def tX8_add : Nat → Option am_Act := am_nd 81 (am_nd 47 (tX8_add_0) (tX8_add_1)) (am_nd 121 (tX8_add_2) (tX8_add_3))
theorem gX8_add : am_Good tT mX8_add tX8_add := am_nd_ok (am_nd_ok (gX8_add_0) (gX8_add_1)) (am_nd_ok (gX8_add_2) (gX8_add_3))
