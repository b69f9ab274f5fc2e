/-! ===== code of TollOfNames$Toll ===== -/
theorem dX7_remember_0 : decode cX7_remember 0 = .ok (.aload_n 0, 1) := by decide +kernel
theorem dX7_remember_1 : decode cX7_remember 1 = .ok (.getfield 15, 3) := by decide +kernel
theorem dX7_remember_4 : decode cX7_remember 4 = .ok (.iconst 0, 1) := by decide +kernel
theorem dX7_remember_5 : decode cX7_remember 5 = .ok (.invokestatic 26, 3) := by decide +kernel
theorem dX7_remember_8 : decode cX7_remember 8 = .ok (.aload_n 0, 1) := by decide +kernel
theorem dX7_remember_9 : decode cX7_remember 9 = .ok (.iconst 1, 1) := by decide +kernel
theorem dX7_remember_10 : decode cX7_remember 10 = .ok (.putfield 18, 3) := by decide +kernel
theorem dX7_remember_13 : decode cX7_remember 13 = .ok (.return_, 1) := by decide +kernel
def tX7_remember_0 : Nat → Option am_Act := am_nd 8 (am_nd 4 (am_nd 1 (am_lf 0 (a_aload 0 1)) (am_lf 1 (a_get tT 7 2 4))) (am_nd 5 (am_lf 4 (a_const (nI 0) 5)) (am_lf 5 (a_csV mJ7_fill_53178 2 8)))) (am_nd 10 (am_nd 9 (am_lf 8 (a_aload 0 9)) (am_lf 9 (a_const (nI 1) 10))) (am_nd 13 (am_lf 10 (a_putz tT 7 3 13)) (am_lf 13 (a_ret))))
theorem gX7_remember_0 : am_Good tT mX7_remember tX7_remember_0 := am_nd_ok (am_nd_ok (am_nd_ok (am_lf_ok (fun _ => ok_aload_n dX7_remember_0 rfl rfl)) (am_lf_ok (fun _ => ok_get (C := RX7) (TT := TX7) (N := 4) rfl inw_X7 (Nat.le_of_ble_eq_true rfl) wd_190 dX7_remember_1 rfl))) (am_nd_ok (am_lf_ok (fun _ => ok_iconst dX7_remember_4 cv_iconst_0 rfl)) (am_lf_ok (fun _ => ok_csV rfl mw_J7_fill_53178 wd_191 wd_192 dX7_remember_5 rfl)))) (am_nd_ok (am_nd_ok (am_lf_ok (fun _ => ok_aload_n dX7_remember_8 rfl rfl)) (am_lf_ok (fun _ => ok_iconst dX7_remember_9 cv_iconst_1 rfl))) (am_nd_ok (am_lf_ok (fun _ => ok_putz (C := RX7) (TT := TX7) (N := 4) (ty0 := tyX7) rfl inw_X7 tyX7_ok nmX7 (Nat.le_of_ble_eq_true rfl) rfl rfl wd_193 dX7_remember_10 rfl)) (am_lf_ok (fun _ => ok_ret rfl dX7_remember_13))))
def tX7_remember : Nat → Option am_Act := tX7_remember_0
theorem gX7_remember : am_Good tT mX7_remember tX7_remember := gX7_remember_0
theorem dX7_forget_0 : decode cX7_forget 0 = .ok (.aload_n 0, 1) := by decide +kernel
theorem dX7_forget_1 : decode cX7_forget 1 = .ok (.iconst 0, 1) := by decide +kernel
theorem dX7_forget_2 : decode cX7_forget 2 = .ok (.putfield 18, 3) := by decide +kernel
theorem dX7_forget_5 : decode cX7_forget 5 = .ok (.return_, 1) := by decide +kernel
def tX7_forget_0 : Nat → Option am_Act := am_nd 2 (am_nd 1 (am_lf 0 (a_aload 0 1)) (am_lf 1 (a_const (nI 0) 2))) (am_nd 5 (am_lf 2 (a_putz tT 7 3 5)) (am_lf 5 (a_ret)))
theorem gX7_forget_0 : am_Good tT mX7_forget tX7_forget_0 := am_nd_ok (am_nd_ok (am_lf_ok (fun _ => ok_aload_n dX7_forget_0 rfl rfl)) (am_lf_ok (fun _ => ok_iconst dX7_forget_1 cv_iconst_0 rfl))) (am_nd_ok (am_lf_ok (fun _ => ok_putz (C := RX7) (TT := TX7) (N := 4) (ty0 := tyX7) rfl inw_X7 tyX7_ok nmX7 (Nat.le_of_ble_eq_true rfl) rfl rfl wd_193 dX7_forget_2 rfl)) (am_lf_ok (fun _ => ok_ret rfl dX7_forget_5)))
def tX7_forget : Nat → Option am_Act := tX7_forget_0
theorem gX7_forget : am_Good tT mX7_forget tX7_forget := gX7_forget_0
theorem dX7_due_0 : decode cX7_due 0 = .ok (.aload_n 0, 1) := by decide +kernel
theorem dX7_due_1 : decode cX7_due 1 = .ok (.getfield 22, 3) := by decide +kernel
theorem dX7_due_4 : decode cX7_due 4 = .ok (.iload_n 1, 1) := by decide +kernel
theorem dX7_due_5 : decode cX7_due 5 = .ok (.invokevirtual 32, 3) := by decide +kernel
theorem dX7_due_8 : decode cX7_due 8 = .ok (.aload_n 0, 1) := by decide +kernel
theorem dX7_due_9 : decode cX7_due 9 = .ok (.getfield 22, 3) := by decide +kernel
theorem dX7_due_12 : decode cX7_due 12 = .ok (.getfield 38, 3) := by decide +kernel
theorem dX7_due_15 : decode cX7_due 15 = .ok (.if_icmp .gt 6, 3) := by decide +kernel
theorem dX7_due_18 : decode cX7_due 18 = .ok (.bipush 100, 2) := by decide +kernel
theorem dX7_due_20 : decode cX7_due 20 = .ok (.ireturn, 1) := by decide +kernel
theorem dX7_due_21 : decode cX7_due 21 = .ok (.iconst 0, 1) := by decide +kernel
theorem dX7_due_22 : decode cX7_due 22 = .ok (.istore_n 3, 1) := by decide +kernel
theorem dX7_due_23 : decode cX7_due 23 = .ok (.iload_n 3, 1) := by decide +kernel
theorem dX7_due_24 : decode cX7_due 24 = .ok (.aload_n 0, 1) := by decide +kernel
theorem dX7_due_25 : decode cX7_due 25 = .ok (.getfield 22, 3) := by decide +kernel
theorem dX7_due_28 : decode cX7_due 28 = .ok (.getfield 42, 3) := by decide +kernel
theorem dX7_due_31 : decode cX7_due 31 = .ok (.getfield 46, 3) := by decide +kernel
theorem dX7_due_34 : decode cX7_due 34 = .ok (.iload_n 1, 1) := by decide +kernel
theorem dX7_due_35 : decode cX7_due 35 = .ok (.iaload, 1) := by decide +kernel
theorem dX7_due_36 : decode cX7_due 36 = .ok (.if_icmp .ge 21, 3) := by decide +kernel
theorem dX7_due_39 : decode cX7_due 39 = .ok (.aload_n 0, 1) := by decide +kernel
theorem dX7_due_40 : decode cX7_due 40 = .ok (.iload_n 1, 1) := by decide +kernel
theorem dX7_due_41 : decode cX7_due 41 = .ok (.iload_n 2, 1) := by decide +kernel
theorem dX7_due_42 : decode cX7_due 42 = .ok (.iload_n 3, 1) := by decide +kernel
theorem dX7_due_43 : decode cX7_due 43 = .ok (.invokevirtual 51, 3) := by decide +kernel
theorem dX7_due_46 : decode cX7_due 46 = .ok (.ifCond .eq 5, 3) := by decide +kernel
theorem dX7_due_49 : decode cX7_due 49 = .ok (.iload_n 3, 1) := by decide +kernel
theorem dX7_due_50 : decode cX7_due 50 = .ok (.ireturn, 1) := by decide +kernel
theorem dX7_due_51 : decode cX7_due 51 = .ok (.iinc 3 1, 3) := by decide +kernel
theorem dX7_due_54 : decode cX7_due 54 = .ok (.goto (-31), 3) := by decide +kernel
theorem dX7_due_57 : decode cX7_due 57 = .ok (.bipush (-2), 2) := by decide +kernel
theorem dX7_due_59 : decode cX7_due 59 = .ok (.ireturn, 1) := by decide +kernel
def tX7_due_0 : Nat → Option am_Act := am_nd 23 (am_nd 12 (am_nd 5 (am_nd 1 (am_lf 0 (a_aload 0 1)) (am_nd 4 (am_lf 1 (a_get tT 7 0 4)) (am_lf 4 (a_iload 1 5)))) (am_nd 8 (am_lf 5 (a_cvI tT mX10_lettersOf 10 1 8)) (am_nd 9 (am_lf 8 (a_aload 0 9)) (am_lf 9 (a_get tT 7 0 12))))) (am_nd 20 (am_nd 15 (am_lf 12 (a_get tT 10 2 15)) (am_nd 18 (am_lf 15 (a_cmp (fun x y => y < x) 21 18)) (am_lf 18 (a_const (nI 100) 20)))) (am_nd 21 (am_lf 20 (a_iret)) (am_nd 22 (am_lf 21 (a_const (nI 0) 22)) (am_lf 22 (a_istore 3 23)))))) (am_nd 35 (am_nd 28 (am_nd 24 (am_lf 23 (a_iload 3 24)) (am_nd 25 (am_lf 24 (a_aload 0 25)) (am_lf 25 (a_get tT 7 0 28)))) (am_nd 31 (am_lf 28 (a_get tT 10 11 31)) (am_nd 34 (am_lf 31 (a_get tT 5 6 34)) (am_lf 34 (a_iload 1 35))))) (am_nd 40 (am_nd 36 (am_lf 35 (a_iald tT 36)) (am_nd 39 (am_lf 36 (a_cmp (fun x y => y ≤ x) 57 39)) (am_lf 39 (a_aload 0 40)))) (am_nd 41 (am_lf 40 (a_iload 1 41)) (am_nd 42 (am_lf 41 (a_iload 2 42)) (am_lf 42 (a_iload 3 43))))))
theorem gX7_due_0 : am_Good tT mX7_due tX7_due_0 := am_nd_ok (am_nd_ok (am_nd_ok (am_nd_ok (am_lf_ok (fun _ => ok_aload_n dX7_due_0 rfl rfl)) (am_nd_ok (am_lf_ok (fun _ => ok_get (C := RX7) (TT := TX7) (N := 4) rfl inw_X7 (Nat.le_of_ble_eq_true rfl) wd_194 dX7_due_1 rfl)) (am_lf_ok (fun _ => ok_iload_n dX7_due_4 rfl rfl)))) (am_nd_ok (am_lf_ok (fun _ => ok_cvI rfl mw_X10_lettersOf (ci := 10) rfl rfl wd_195 wd_196 wd_197 dX7_due_5 rfl)) (am_nd_ok (am_lf_ok (fun _ => ok_aload_n dX7_due_8 rfl rfl)) (am_lf_ok (fun _ => ok_get (C := RX7) (TT := TX7) (N := 4) rfl inw_X7 (Nat.le_of_ble_eq_true rfl) wd_194 dX7_due_9 rfl))))) (am_nd_ok (am_nd_ok (am_lf_ok (fun _ => ok_get (C := RX10) (TT := TX10) (N := 14) rfl inw_X10 (Nat.le_of_ble_eq_true rfl) wd_198 dX7_due_12 rfl)) (am_nd_ok (am_lf_ok (fun _ => ok_cmp_gt dX7_due_15 rfl rfl)) (am_lf_ok (fun _ => ok_bipush dX7_due_18 cv_bipush_100 rfl)))) (am_nd_ok (am_lf_ok (fun _ => ok_iret rfl dX7_due_20)) (am_nd_ok (am_lf_ok (fun _ => ok_iconst dX7_due_21 cv_iconst_0 rfl)) (am_lf_ok (fun _ => ok_istore_n dX7_due_22 rfl (Nat.le_of_ble_eq_true rfl) rfl)))))) (am_nd_ok (am_nd_ok (am_nd_ok (am_lf_ok (fun _ => ok_iload_n dX7_due_23 rfl rfl)) (am_nd_ok (am_lf_ok (fun _ => ok_aload_n dX7_due_24 rfl rfl)) (am_lf_ok (fun _ => ok_get (C := RX7) (TT := TX7) (N := 4) rfl inw_X7 (Nat.le_of_ble_eq_true rfl) wd_194 dX7_due_25 rfl)))) (am_nd_ok (am_lf_ok (fun _ => ok_get (C := RX10) (TT := TX10) (N := 14) rfl inw_X10 (Nat.le_of_ble_eq_true rfl) wd_199 dX7_due_28 rfl)) (am_nd_ok (am_lf_ok (fun _ => ok_get (C := RX5) (TT := TX5) (N := 8) rfl inw_X5 (Nat.le_of_ble_eq_true rfl) wd_200 dX7_due_31 rfl)) (am_lf_ok (fun _ => ok_iload_n dX7_due_34 rfl rfl))))) (am_nd_ok (am_nd_ok (am_lf_ok (fun _ => ok_iald dX7_due_35 rfl)) (am_nd_ok (am_lf_ok (fun _ => ok_cmp_ge dX7_due_36 rfl rfl)) (am_lf_ok (fun _ => ok_aload_n dX7_due_39 rfl rfl)))) (am_nd_ok (am_lf_ok (fun _ => ok_iload_n dX7_due_40 rfl rfl)) (am_nd_ok (am_lf_ok (fun _ => ok_iload_n dX7_due_41 rfl rfl)) (am_lf_ok (fun _ => ok_iload_n dX7_due_42 rfl rfl))))))
def tX7_due_1 : Nat → Option am_Act := am_nd 51 (am_nd 49 (am_nd 46 (am_lf 43 (a_cvI tT mX7_mayLeave 7 3 46)) (am_lf 46 (a_if (fun x => x = nI 0) 51 49))) (am_nd 50 (am_lf 49 (a_iload 3 50)) (am_lf 50 (a_iret)))) (am_nd 57 (am_nd 54 (am_lf 51 (a_iinc 3 (nI 1) 54)) (am_lf 54 (a_goto 23))) (am_nd 59 (am_lf 57 (a_const (-2) 59)) (am_lf 59 (a_iret))))
theorem gX7_due_1 : am_Good tT mX7_due tX7_due_1 := am_nd_ok (am_nd_ok (am_nd_ok (am_lf_ok (fun _ => ok_cvI rfl mw_X7_mayLeave (ci := 7) rfl rfl wd_201 wd_202 wd_203 dX7_due_43 rfl)) (am_lf_ok (fun _ => ok_if_eq dX7_due_46 rfl rfl))) (am_nd_ok (am_lf_ok (fun _ => ok_iload_n dX7_due_49 rfl rfl)) (am_lf_ok (fun _ => ok_iret rfl dX7_due_50)))) (am_nd_ok (am_nd_ok (am_lf_ok (fun _ => ok_iinc dX7_due_51 cv_iconst_1 (Nat.le_of_ble_eq_true rfl) rfl)) (am_lf_ok (fun _ => ok_goto dX7_due_54 rfl))) (am_nd_ok (am_lf_ok (fun _ => ok_bipush dX7_due_57 cv_bipush_m2 rfl)) (am_lf_ok (fun _ => ok_iret rfl dX7_due_59))))
def tX7_due : Nat → Option am_Act := am_nd 43 (tX7_due_0) (tX7_due_1)
theorem gX7_due : am_Good tT mX7_due tX7_due := am_nd_ok (gX7_due_0) (gX7_due_1)
theorem dX7_mayLeave_0 : decode cX7_mayLeave 0 = .ok (.aload_n 0, 1) := by decide +kernel
theorem dX7_mayLeave_1 : decode cX7_mayLeave 1 = .ok (.getfield 22, 3) := by decide +kernel
theorem dX7_mayLeave_4 : decode cX7_mayLeave 4 = .ok (.getfield 42, 3) := by decide +kernel
theorem dX7_mayLeave_7 : decode cX7_mayLeave 7 = .ok (.getfield 46, 3) := by decide +kernel
theorem dX7_mayLeave_10 : decode cX7_mayLeave 10 = .ok (.iload_n 1, 1) := by decide +kernel
theorem dX7_mayLeave_11 : decode cX7_mayLeave 11 = .ok (.iaload, 1) := by decide +kernel
theorem dX7_mayLeave_12 : decode cX7_mayLeave 12 = .ok (.istore 4, 2) := by decide +kernel
theorem dX7_mayLeave_14 : decode cX7_mayLeave 14 = .ok (.aload_n 0, 1) := by decide +kernel
theorem dX7_mayLeave_15 : decode cX7_mayLeave 15 = .ok (.getfield 22, 3) := by decide +kernel
theorem dX7_mayLeave_18 : decode cX7_mayLeave 18 = .ok (.getfield 42, 3) := by decide +kernel
theorem dX7_mayLeave_21 : decode cX7_mayLeave 21 = .ok (.iload_n 1, 1) := by decide +kernel
theorem dX7_mayLeave_22 : decode cX7_mayLeave 22 = .ok (.iload_n 3, 1) := by decide +kernel
theorem dX7_mayLeave_23 : decode cX7_mayLeave 23 = .ok (.invokevirtual 55, 3) := by decide +kernel
theorem dX7_mayLeave_26 : decode cX7_mayLeave 26 = .ok (.istore 5, 2) := by decide +kernel
theorem dX7_mayLeave_28 : decode cX7_mayLeave 28 = .ok (.iload_n 2, 1) := by decide +kernel
theorem dX7_mayLeave_29 : decode cX7_mayLeave 29 = .ok (.bipush 20, 2) := by decide +kernel
theorem dX7_mayLeave_31 : decode cX7_mayLeave 31 = .ok (.imul, 1) := by decide +kernel
theorem dX7_mayLeave_32 : decode cX7_mayLeave 32 = .ok (.iload 5, 2) := by decide +kernel
theorem dX7_mayLeave_34 : decode cX7_mayLeave 34 = .ok (.iadd, 1) := by decide +kernel
theorem dX7_mayLeave_35 : decode cX7_mayLeave 35 = .ok (.bipush 9, 2) := by decide +kernel
theorem dX7_mayLeave_37 : decode cX7_mayLeave 37 = .ok (.imul, 1) := by decide +kernel
theorem dX7_mayLeave_38 : decode cX7_mayLeave 38 = .ok (.iload 4, 2) := by decide +kernel
theorem dX7_mayLeave_40 : decode cX7_mayLeave 40 = .ok (.iadd, 1) := by decide +kernel
theorem dX7_mayLeave_41 : decode cX7_mayLeave 41 = .ok (.iconst 1, 1) := by decide +kernel
theorem dX7_mayLeave_42 : decode cX7_mayLeave 42 = .ok (.isub, 1) := by decide +kernel
theorem dX7_mayLeave_43 : decode cX7_mayLeave 43 = .ok (.istore 6, 2) := by decide +kernel
theorem dX7_mayLeave_45 : decode cX7_mayLeave 45 = .ok (.iconst 1, 1) := by decide +kernel
theorem dX7_mayLeave_46 : decode cX7_mayLeave 46 = .ok (.iconst 2, 1) := by decide +kernel
theorem dX7_mayLeave_47 : decode cX7_mayLeave 47 = .ok (.iload_n 3, 1) := by decide +kernel
theorem dX7_mayLeave_48 : decode cX7_mayLeave 48 = .ok (.imul, 1) := by decide +kernel
theorem dX7_mayLeave_49 : decode cX7_mayLeave 49 = .ok (.ishl, 1) := by decide +kernel
theorem dX7_mayLeave_50 : decode cX7_mayLeave 50 = .ok (.istore 7, 2) := by decide +kernel
theorem dX7_mayLeave_52 : decode cX7_mayLeave 52 = .ok (.iconst 2, 1) := by decide +kernel
theorem dX7_mayLeave_53 : decode cX7_mayLeave 53 = .ok (.iconst 2, 1) := by decide +kernel
theorem dX7_mayLeave_54 : decode cX7_mayLeave 54 = .ok (.iload_n 3, 1) := by decide +kernel
theorem dX7_mayLeave_55 : decode cX7_mayLeave 55 = .ok (.imul, 1) := by decide +kernel
theorem dX7_mayLeave_56 : decode cX7_mayLeave 56 = .ok (.ishl, 1) := by decide +kernel
theorem dX7_mayLeave_57 : decode cX7_mayLeave 57 = .ok (.istore 8, 2) := by decide +kernel
theorem dX7_mayLeave_59 : decode cX7_mayLeave 59 = .ok (.aload_n 0, 1) := by decide +kernel
theorem dX7_mayLeave_60 : decode cX7_mayLeave 60 = .ok (.getfield 18, 3) := by decide +kernel
theorem dX7_mayLeave_63 : decode cX7_mayLeave 63 = .ok (.ifCond .eq 35, 3) := by decide +kernel
theorem dX7_mayLeave_66 : decode cX7_mayLeave 66 = .ok (.aload_n 0, 1) := by decide +kernel
theorem dX7_mayLeave_67 : decode cX7_mayLeave 67 = .ok (.getfield 15, 3) := by decide +kernel
theorem dX7_mayLeave_70 : decode cX7_mayLeave 70 = .ok (.iload 6, 2) := by decide +kernel
theorem dX7_mayLeave_72 : decode cX7_mayLeave 72 = .ok (.iaload, 1) := by decide +kernel
theorem dX7_mayLeave_73 : decode cX7_mayLeave 73 = .ok (.iload 7, 2) := by decide +kernel
theorem dX7_mayLeave_75 : decode cX7_mayLeave 75 = .ok (.iand, 1) := by decide +kernel
theorem dX7_mayLeave_76 : decode cX7_mayLeave 76 = .ok (.ifCond .eq 22, 3) := by decide +kernel
theorem dX7_mayLeave_79 : decode cX7_mayLeave 79 = .ok (.aload_n 0, 1) := by decide +kernel
theorem dX7_mayLeave_80 : decode cX7_mayLeave 80 = .ok (.getfield 15, 3) := by decide +kernel
theorem dX7_mayLeave_83 : decode cX7_mayLeave 83 = .ok (.iload 6, 2) := by decide +kernel
theorem dX7_mayLeave_85 : decode cX7_mayLeave 85 = .ok (.iaload, 1) := by decide +kernel
theorem dX7_mayLeave_86 : decode cX7_mayLeave 86 = .ok (.iload 8, 2) := by decide +kernel
theorem dX7_mayLeave_88 : decode cX7_mayLeave 88 = .ok (.iand, 1) := by decide +kernel
theorem dX7_mayLeave_89 : decode cX7_mayLeave 89 = .ok (.ifCond .eq 7, 3) := by decide +kernel
theorem dX7_mayLeave_92 : decode cX7_mayLeave 92 = .ok (.iconst 1, 1) := by decide +kernel
theorem dX7_mayLeave_93 : decode cX7_mayLeave 93 = .ok (.goto 4, 3) := by decide +kernel
theorem dX7_mayLeave_96 : decode cX7_mayLeave 96 = .ok (.iconst 0, 1) := by decide +kernel
theorem dX7_mayLeave_97 : decode cX7_mayLeave 97 = .ok (.ireturn, 1) := by decide +kernel
theorem dX7_mayLeave_98 : decode cX7_mayLeave 98 = .ok (.aload_n 0, 1) := by decide +kernel
theorem dX7_mayLeave_99 : decode cX7_mayLeave 99 = .ok (.getfield 9, 3) := by decide +kernel
theorem dX7_mayLeave_102 : decode cX7_mayLeave 102 = .ok (.iconst 0, 1) := by decide +kernel
theorem dX7_mayLeave_103 : decode cX7_mayLeave 103 = .ok (.aload_n 0, 1) := by decide +kernel
theorem dX7_mayLeave_104 : decode cX7_mayLeave 104 = .ok (.getfield 22, 3) := by decide +kernel
theorem dX7_mayLeave_107 : decode cX7_mayLeave 107 = .ok (.getfield 59, 3) := by decide +kernel
theorem dX7_mayLeave_110 : decode cX7_mayLeave 110 = .ok (.iload 5, 2) := by decide +kernel
theorem dX7_mayLeave_112 : decode cX7_mayLeave 112 = .ok (.iaload, 1) := by decide +kernel
theorem dX7_mayLeave_113 : decode cX7_mayLeave 113 = .ok (.iastore, 1) := by decide +kernel
theorem dX7_mayLeave_114 : decode cX7_mayLeave 114 = .ok (.aload_n 0, 1) := by decide +kernel
theorem dX7_mayLeave_115 : decode cX7_mayLeave 115 = .ok (.getfield 9, 3) := by decide +kernel
theorem dX7_mayLeave_118 : decode cX7_mayLeave 118 = .ok (.iconst 1, 1) := by decide +kernel
theorem dX7_mayLeave_119 : decode cX7_mayLeave 119 = .ok (.aload_n 0, 1) := by decide +kernel
theorem dX7_mayLeave_120 : decode cX7_mayLeave 120 = .ok (.getfield 22, 3) := by decide +kernel
theorem dX7_mayLeave_123 : decode cX7_mayLeave 123 = .ok (.getfield 62, 3) := by decide +kernel
theorem dX7_mayLeave_126 : decode cX7_mayLeave 126 = .ok (.iload 5, 2) := by decide +kernel
theorem dX7_mayLeave_128 : decode cX7_mayLeave 128 = .ok (.iaload, 1) := by decide +kernel
theorem dX7_mayLeave_129 : decode cX7_mayLeave 129 = .ok (.iastore, 1) := by decide +kernel
theorem dX7_mayLeave_130 : decode cX7_mayLeave 130 = .ok (.aload_n 0, 1) := by decide +kernel
theorem dX7_mayLeave_131 : decode cX7_mayLeave 131 = .ok (.getfield 9, 3) := by decide +kernel
theorem dX7_mayLeave_134 : decode cX7_mayLeave 134 = .ok (.iconst 2, 1) := by decide +kernel
theorem dX7_mayLeave_135 : decode cX7_mayLeave 135 = .ok (.iload 4, 2) := by decide +kernel
theorem dX7_mayLeave_137 : decode cX7_mayLeave 137 = .ok (.iastore, 1) := by decide +kernel
theorem dX7_mayLeave_138 : decode cX7_mayLeave 138 = .ok (.aload_n 0, 1) := by decide +kernel
theorem dX7_mayLeave_139 : decode cX7_mayLeave 139 = .ok (.getfield 9, 3) := by decide +kernel
theorem dX7_mayLeave_142 : decode cX7_mayLeave 142 = .ok (.iconst 3, 1) := by decide +kernel
theorem dX7_mayLeave_143 : decode cX7_mayLeave 143 = .ok (.iload_n 3, 1) := by decide +kernel
theorem dX7_mayLeave_144 : decode cX7_mayLeave 144 = .ok (.iastore, 1) := by decide +kernel
theorem dX7_mayLeave_145 : decode cX7_mayLeave 145 = .ok (.aload_n 0, 1) := by decide +kernel
theorem dX7_mayLeave_146 : decode cX7_mayLeave 146 = .ok (.getfield 9, 3) := by decide +kernel
theorem dX7_mayLeave_149 : decode cX7_mayLeave 149 = .ok (.iconst 4, 1) := by decide +kernel
theorem dX7_mayLeave_150 : decode cX7_mayLeave 150 = .ok (.aload_n 0, 1) := by decide +kernel
theorem dX7_mayLeave_151 : decode cX7_mayLeave 151 = .ok (.getfield 22, 3) := by decide +kernel
theorem dX7_mayLeave_154 : decode cX7_mayLeave 154 = .ok (.getfield 42, 3) := by decide +kernel
theorem dX7_mayLeave_157 : decode cX7_mayLeave 157 = .ok (.iload_n 1, 1) := by decide +kernel
theorem dX7_mayLeave_158 : decode cX7_mayLeave 158 = .ok (.iload 5, 2) := by decide +kernel
theorem dX7_mayLeave_160 : decode cX7_mayLeave 160 = .ok (.invokevirtual 65, 3) := by decide +kernel
theorem dX7_mayLeave_163 : decode cX7_mayLeave 163 = .ok (.iastore, 1) := by decide +kernel
theorem dX7_mayLeave_164 : decode cX7_mayLeave 164 = .ok (.aload_n 0, 1) := by decide +kernel
theorem dX7_mayLeave_165 : decode cX7_mayLeave 165 = .ok (.getfield 9, 3) := by decide +kernel
theorem dX7_mayLeave_168 : decode cX7_mayLeave 168 = .ok (.iconst 5, 1) := by decide +kernel
theorem dX7_mayLeave_169 : decode cX7_mayLeave 169 = .ok (.iload_n 2, 1) := by decide +kernel
theorem dX7_mayLeave_170 : decode cX7_mayLeave 170 = .ok (.iastore, 1) := by decide +kernel
theorem dX7_mayLeave_171 : decode cX7_mayLeave 171 = .ok (.aload_n 0, 1) := by decide +kernel
theorem dX7_mayLeave_172 : decode cX7_mayLeave 172 = .ok (.getfield 9, 3) := by decide +kernel
theorem dX7_mayLeave_175 : decode cX7_mayLeave 175 = .ok (.bipush 6, 2) := by decide +kernel
theorem dX7_mayLeave_177 : decode cX7_mayLeave 177 = .ok (.aload_n 0, 1) := by decide +kernel
theorem dX7_mayLeave_178 : decode cX7_mayLeave 178 = .ok (.getfield 22, 3) := by decide +kernel
theorem dX7_mayLeave_181 : decode cX7_mayLeave 181 = .ok (.getfield 68, 3) := by decide +kernel
theorem dX7_mayLeave_184 : decode cX7_mayLeave 184 = .ok (.iastore, 1) := by decide +kernel
theorem dX7_mayLeave_185 : decode cX7_mayLeave 185 = .ok (.aload_n 0, 1) := by decide +kernel
theorem dX7_mayLeave_186 : decode cX7_mayLeave 186 = .ok (.getfield 9, 3) := by decide +kernel
theorem dX7_mayLeave_189 : decode cX7_mayLeave 189 = .ok (.bipush 7, 2) := by decide +kernel
theorem dX7_mayLeave_191 : decode cX7_mayLeave 191 = .ok (.aload_n 0, 1) := by decide +kernel
theorem dX7_mayLeave_192 : decode cX7_mayLeave 192 = .ok (.getfield 22, 3) := by decide +kernel
theorem dX7_mayLeave_195 : decode cX7_mayLeave 195 = .ok (.getfield 71, 3) := by decide +kernel
theorem dX7_mayLeave_198 : decode cX7_mayLeave 198 = .ok (.iload_n 2, 1) := by decide +kernel
theorem dX7_mayLeave_199 : decode cX7_mayLeave 199 = .ok (.iload 5, 2) := by decide +kernel
theorem dX7_mayLeave_201 : decode cX7_mayLeave 201 = .ok (.invokevirtual 75, 3) := by decide +kernel
theorem dX7_mayLeave_204 : decode cX7_mayLeave 204 = .ok (.iastore, 1) := by decide +kernel
theorem dX7_mayLeave_205 : decode cX7_mayLeave 205 = .ok (.aload_n 0, 1) := by decide +kernel
theorem dX7_mayLeave_206 : decode cX7_mayLeave 206 = .ok (.getfield 22, 3) := by decide +kernel
theorem dX7_mayLeave_209 : decode cX7_mayLeave 209 = .ok (.getfield 80, 3) := by decide +kernel
theorem dX7_mayLeave_212 : decode cX7_mayLeave 212 = .ok (.aload_n 0, 1) := by decide +kernel
theorem dX7_mayLeave_213 : decode cX7_mayLeave 213 = .ok (.getfield 9, 3) := by decide +kernel
theorem dX7_mayLeave_216 : decode cX7_mayLeave 216 = .ok (.invokevirtual 84, 3) := by decide +kernel
theorem dX7_mayLeave_219 : decode cX7_mayLeave 219 = .ok (.istore 9, 2) := by decide +kernel
theorem dX7_mayLeave_221 : decode cX7_mayLeave 221 = .ok (.aload_n 0, 1) := by decide +kernel
theorem dX7_mayLeave_222 : decode cX7_mayLeave 222 = .ok (.getfield 18, 3) := by decide +kernel
theorem dX7_mayLeave_225 : decode cX7_mayLeave 225 = .ok (.ifCond .eq 28, 3) := by decide +kernel
theorem dX7_mayLeave_228 : decode cX7_mayLeave 228 = .ok (.aload_n 0, 1) := by decide +kernel
theorem dX7_mayLeave_229 : decode cX7_mayLeave 229 = .ok (.getfield 15, 3) := by decide +kernel
theorem dX7_mayLeave_232 : decode cX7_mayLeave 232 = .ok (.iload 6, 2) := by decide +kernel
theorem dX7_mayLeave_234 : decode cX7_mayLeave 234 = .ok (.dup2, 1) := by decide +kernel
theorem dX7_mayLeave_235 : decode cX7_mayLeave 235 = .ok (.iaload, 1) := by decide +kernel
theorem dX7_mayLeave_236 : decode cX7_mayLeave 236 = .ok (.iload 9, 2) := by decide +kernel
theorem dX7_mayLeave_238 : decode cX7_mayLeave 238 = .ok (.ifCond .eq 11, 3) := by decide +kernel
theorem dX7_mayLeave_241 : decode cX7_mayLeave 241 = .ok (.iload 7, 2) := by decide +kernel
theorem dX7_mayLeave_243 : decode cX7_mayLeave 243 = .ok (.iload 8, 2) := by decide +kernel
theorem dX7_mayLeave_245 : decode cX7_mayLeave 245 = .ok (.ior, 1) := by decide +kernel
theorem dX7_mayLeave_246 : decode cX7_mayLeave 246 = .ok (.goto 5, 3) := by decide +kernel
theorem dX7_mayLeave_249 : decode cX7_mayLeave 249 = .ok (.iload 7, 2) := by decide +kernel
theorem dX7_mayLeave_251 : decode cX7_mayLeave 251 = .ok (.ior, 1) := by decide +kernel
theorem dX7_mayLeave_252 : decode cX7_mayLeave 252 = .ok (.iastore, 1) := by decide +kernel
theorem dX7_mayLeave_253 : decode cX7_mayLeave 253 = .ok (.iload 9, 2) := by decide +kernel
theorem dX7_mayLeave_255 : decode cX7_mayLeave 255 = .ok (.ireturn, 1) := by decide +kernel
def tX7_mayLeave_0 : Nat → Option am_Act := am_nd 23 (am_nd 12 (am_nd 7 (am_nd 1 (am_lf 0 (a_aload 0 1)) (am_nd 4 (am_lf 1 (a_get tT 7 0 4)) (am_lf 4 (a_get tT 10 11 7)))) (am_nd 10 (am_lf 7 (a_get tT 5 6 10)) (am_nd 11 (am_lf 10 (a_iload 1 11)) (am_lf 11 (a_iald tT 12))))) (am_nd 18 (am_nd 14 (am_lf 12 (a_istore 4 14)) (am_nd 15 (am_lf 14 (a_aload 0 15)) (am_lf 15 (a_get tT 7 0 18)))) (am_nd 21 (am_lf 18 (a_get tT 10 11 21)) (am_nd 22 (am_lf 21 (a_iload 1 22)) (am_lf 22 (a_iload 3 23)))))) (am_nd 34 (am_nd 29 (am_nd 26 (am_lf 23 (a_cvI tT mX5_nameAt 5 2 26)) (am_nd 28 (am_lf 26 (a_istore 5 28)) (am_lf 28 (a_iload 2 29)))) (am_nd 31 (am_lf 29 (a_const (nI 20) 31)) (am_nd 32 (am_lf 31 (a_bin (fun x y => x * y) 32)) (am_lf 32 (a_iload 5 34))))) (am_nd 38 (am_nd 35 (am_lf 34 (a_bin (fun x y => x + y) 35)) (am_nd 37 (am_lf 35 (a_const (nI 9) 37)) (am_lf 37 (a_bin (fun x y => x * y) 38)))) (am_nd 40 (am_lf 38 (a_iload 4 40)) (am_nd 41 (am_lf 40 (a_bin (fun x y => x + y) 41)) (am_lf 41 (a_const (nI 1) 42))))))
theorem gX7_mayLeave_0 : am_Good tT mX7_mayLeave tX7_mayLeave_0 := am_nd_ok (am_nd_ok (am_nd_ok (am_nd_ok (am_lf_ok (fun _ => ok_aload_n dX7_mayLeave_0 rfl rfl)) (am_nd_ok (am_lf_ok (fun _ => ok_get (C := RX7) (TT := TX7) (N := 4) rfl inw_X7 (Nat.le_of_ble_eq_true rfl) wd_194 dX7_mayLeave_1 rfl)) (am_lf_ok (fun _ => ok_get (C := RX10) (TT := TX10) (N := 14) rfl inw_X10 (Nat.le_of_ble_eq_true rfl) wd_199 dX7_mayLeave_4 rfl)))) (am_nd_ok (am_lf_ok (fun _ => ok_get (C := RX5) (TT := TX5) (N := 8) rfl inw_X5 (Nat.le_of_ble_eq_true rfl) wd_200 dX7_mayLeave_7 rfl)) (am_nd_ok (am_lf_ok (fun _ => ok_iload_n dX7_mayLeave_10 rfl rfl)) (am_lf_ok (fun _ => ok_iald dX7_mayLeave_11 rfl))))) (am_nd_ok (am_nd_ok (am_lf_ok (fun _ => ok_istore dX7_mayLeave_12 (Nat.le_of_ble_eq_true rfl) rfl)) (am_nd_ok (am_lf_ok (fun _ => ok_aload_n dX7_mayLeave_14 rfl rfl)) (am_lf_ok (fun _ => ok_get (C := RX7) (TT := TX7) (N := 4) rfl inw_X7 (Nat.le_of_ble_eq_true rfl) wd_194 dX7_mayLeave_15 rfl)))) (am_nd_ok (am_lf_ok (fun _ => ok_get (C := RX10) (TT := TX10) (N := 14) rfl inw_X10 (Nat.le_of_ble_eq_true rfl) wd_199 dX7_mayLeave_18 rfl)) (am_nd_ok (am_lf_ok (fun _ => ok_iload_n dX7_mayLeave_21 rfl rfl)) (am_lf_ok (fun _ => ok_iload_n dX7_mayLeave_22 rfl rfl)))))) (am_nd_ok (am_nd_ok (am_nd_ok (am_lf_ok (fun _ => ok_cvI rfl mw_X5_nameAt (ci := 5) rfl rfl wd_204 wd_205 wd_206 dX7_mayLeave_23 rfl)) (am_nd_ok (am_lf_ok (fun _ => ok_istore dX7_mayLeave_26 (Nat.le_of_ble_eq_true rfl) rfl)) (am_lf_ok (fun _ => ok_iload_n dX7_mayLeave_28 rfl rfl)))) (am_nd_ok (am_lf_ok (fun _ => ok_bipush dX7_mayLeave_29 cv_bipush_20 rfl)) (am_nd_ok (am_lf_ok (fun _ => ok_imul dX7_mayLeave_31 rfl)) (am_lf_ok (fun _ => ok_iload dX7_mayLeave_32 rfl))))) (am_nd_ok (am_nd_ok (am_lf_ok (fun _ => ok_iadd dX7_mayLeave_34 rfl)) (am_nd_ok (am_lf_ok (fun _ => ok_bipush dX7_mayLeave_35 cv_bipush_9 rfl)) (am_lf_ok (fun _ => ok_imul dX7_mayLeave_37 rfl)))) (am_nd_ok (am_lf_ok (fun _ => ok_iload dX7_mayLeave_38 rfl)) (am_nd_ok (am_lf_ok (fun _ => ok_iadd dX7_mayLeave_40 rfl)) (am_lf_ok (fun _ => ok_iconst dX7_mayLeave_41 cv_iconst_1 rfl))))))
def tX7_mayLeave_1 : Nat → Option am_Act := am_nd 56 (am_nd 49 (am_nd 46 (am_nd 43 (am_lf 42 (a_bin (fun x y => x - y) 43)) (am_nd 45 (am_lf 43 (a_istore 6 45)) (am_lf 45 (a_const (nI 1) 46)))) (am_nd 47 (am_lf 46 (a_const (nI 2) 47)) (am_nd 48 (am_lf 47 (a_iload 3 48)) (am_lf 48 (a_bin (fun x y => x * y) 49))))) (am_nd 53 (am_nd 50 (am_lf 49 (a_bin (fun x y => x <<< (y &&& 31)) 50)) (am_nd 52 (am_lf 50 (a_istore 7 52)) (am_lf 52 (a_const (nI 2) 53)))) (am_nd 54 (am_lf 53 (a_const (nI 2) 54)) (am_nd 55 (am_lf 54 (a_iload 3 55)) (am_lf 55 (a_bin (fun x y => x * y) 56)))))) (am_nd 67 (am_nd 60 (am_nd 57 (am_lf 56 (a_bin (fun x y => x <<< (y &&& 31)) 57)) (am_nd 59 (am_lf 57 (a_istore 8 59)) (am_lf 59 (a_aload 0 60)))) (am_nd 63 (am_lf 60 (a_get tT 7 3 63)) (am_nd 66 (am_lf 63 (a_if (fun x => x = nI 0) 98 66)) (am_lf 66 (a_aload 0 67))))) (am_nd 73 (am_nd 70 (am_lf 67 (a_get tT 7 2 70)) (am_nd 72 (am_lf 70 (a_iload 6 72)) (am_lf 72 (a_iald tT 73)))) (am_nd 75 (am_lf 73 (a_iload 7 75)) (am_nd 76 (am_lf 75 (a_bin (fun x y => x &&& y) 76)) (am_lf 76 (a_if (fun x => x = nI 0) 98 79))))))
theorem gX7_mayLeave_1 : am_Good tT mX7_mayLeave tX7_mayLeave_1 := am_nd_ok (am_nd_ok (am_nd_ok (am_nd_ok (am_lf_ok (fun _ => ok_isub dX7_mayLeave_42 rfl)) (am_nd_ok (am_lf_ok (fun _ => ok_istore dX7_mayLeave_43 (Nat.le_of_ble_eq_true rfl) rfl)) (am_lf_ok (fun _ => ok_iconst dX7_mayLeave_45 cv_iconst_1 rfl)))) (am_nd_ok (am_lf_ok (fun _ => ok_iconst dX7_mayLeave_46 cv_iconst_2 rfl)) (am_nd_ok (am_lf_ok (fun _ => ok_iload_n dX7_mayLeave_47 rfl rfl)) (am_lf_ok (fun _ => ok_imul dX7_mayLeave_48 rfl))))) (am_nd_ok (am_nd_ok (am_lf_ok (fun _ => ok_ishl dX7_mayLeave_49 rfl)) (am_nd_ok (am_lf_ok (fun _ => ok_istore dX7_mayLeave_50 (Nat.le_of_ble_eq_true rfl) rfl)) (am_lf_ok (fun _ => ok_iconst dX7_mayLeave_52 cv_iconst_2 rfl)))) (am_nd_ok (am_lf_ok (fun _ => ok_iconst dX7_mayLeave_53 cv_iconst_2 rfl)) (am_nd_ok (am_lf_ok (fun _ => ok_iload_n dX7_mayLeave_54 rfl rfl)) (am_lf_ok (fun _ => ok_imul dX7_mayLeave_55 rfl)))))) (am_nd_ok (am_nd_ok (am_nd_ok (am_lf_ok (fun _ => ok_ishl dX7_mayLeave_56 rfl)) (am_nd_ok (am_lf_ok (fun _ => ok_istore dX7_mayLeave_57 (Nat.le_of_ble_eq_true rfl) rfl)) (am_lf_ok (fun _ => ok_aload_n dX7_mayLeave_59 rfl rfl)))) (am_nd_ok (am_lf_ok (fun _ => ok_get (C := RX7) (TT := TX7) (N := 4) rfl inw_X7 (Nat.le_of_ble_eq_true rfl) wd_193 dX7_mayLeave_60 rfl)) (am_nd_ok (am_lf_ok (fun _ => ok_if_eq dX7_mayLeave_63 rfl rfl)) (am_lf_ok (fun _ => ok_aload_n dX7_mayLeave_66 rfl rfl))))) (am_nd_ok (am_nd_ok (am_lf_ok (fun _ => ok_get (C := RX7) (TT := TX7) (N := 4) rfl inw_X7 (Nat.le_of_ble_eq_true rfl) wd_190 dX7_mayLeave_67 rfl)) (am_nd_ok (am_lf_ok (fun _ => ok_iload dX7_mayLeave_70 rfl)) (am_lf_ok (fun _ => ok_iald dX7_mayLeave_72 rfl)))) (am_nd_ok (am_lf_ok (fun _ => ok_iload dX7_mayLeave_73 rfl)) (am_nd_ok (am_lf_ok (fun _ => ok_iand dX7_mayLeave_75 rfl)) (am_lf_ok (fun _ => ok_if_eq dX7_mayLeave_76 rfl rfl))))))
def tX7_mayLeave_2 : Nat → Option am_Act := am_nd 99 (am_nd 89 (am_nd 85 (am_nd 80 (am_lf 79 (a_aload 0 80)) (am_nd 83 (am_lf 80 (a_get tT 7 2 83)) (am_lf 83 (a_iload 6 85)))) (am_nd 86 (am_lf 85 (a_iald tT 86)) (am_nd 88 (am_lf 86 (a_iload 8 88)) (am_lf 88 (a_bin (fun x y => x &&& y) 89))))) (am_nd 96 (am_nd 92 (am_lf 89 (a_if (fun x => x = nI 0) 96 92)) (am_nd 93 (am_lf 92 (a_const (nI 1) 93)) (am_lf 93 (a_goto 97)))) (am_nd 97 (am_lf 96 (a_const (nI 0) 97)) (am_nd 98 (am_lf 97 (a_zret)) (am_lf 98 (a_aload 0 99)))))) (am_nd 112 (am_nd 104 (am_nd 102 (am_lf 99 (a_get tT 7 1 102)) (am_nd 103 (am_lf 102 (a_const (nI 0) 103)) (am_lf 103 (a_aload 0 104)))) (am_nd 107 (am_lf 104 (a_get tT 7 0 107)) (am_nd 110 (am_lf 107 (a_get tT 10 5 110)) (am_lf 110 (a_iload 5 112))))) (am_nd 115 (am_nd 113 (am_lf 112 (a_iald tT 113)) (am_nd 114 (am_lf 113 (a_iast tT 114)) (am_lf 114 (a_aload 0 115)))) (am_nd 118 (am_lf 115 (a_get tT 7 1 118)) (am_nd 119 (am_lf 118 (a_const (nI 1) 119)) (am_lf 119 (a_aload 0 120))))))
theorem gX7_mayLeave_2 : am_Good tT mX7_mayLeave tX7_mayLeave_2 := am_nd_ok (am_nd_ok (am_nd_ok (am_nd_ok (am_lf_ok (fun _ => ok_aload_n dX7_mayLeave_79 rfl rfl)) (am_nd_ok (am_lf_ok (fun _ => ok_get (C := RX7) (TT := TX7) (N := 4) rfl inw_X7 (Nat.le_of_ble_eq_true rfl) wd_190 dX7_mayLeave_80 rfl)) (am_lf_ok (fun _ => ok_iload dX7_mayLeave_83 rfl)))) (am_nd_ok (am_lf_ok (fun _ => ok_iald dX7_mayLeave_85 rfl)) (am_nd_ok (am_lf_ok (fun _ => ok_iload dX7_mayLeave_86 rfl)) (am_lf_ok (fun _ => ok_iand dX7_mayLeave_88 rfl))))) (am_nd_ok (am_nd_ok (am_lf_ok (fun _ => ok_if_eq dX7_mayLeave_89 rfl rfl)) (am_nd_ok (am_lf_ok (fun _ => ok_iconst dX7_mayLeave_92 cv_iconst_1 rfl)) (am_lf_ok (fun _ => ok_goto dX7_mayLeave_93 rfl)))) (am_nd_ok (am_lf_ok (fun _ => ok_iconst dX7_mayLeave_96 cv_iconst_0 rfl)) (am_nd_ok (am_lf_ok (fun _ => ok_zret rfl dX7_mayLeave_97)) (am_lf_ok (fun _ => ok_aload_n dX7_mayLeave_98 rfl rfl)))))) (am_nd_ok (am_nd_ok (am_nd_ok (am_lf_ok (fun _ => ok_get (C := RX7) (TT := TX7) (N := 4) rfl inw_X7 (Nat.le_of_ble_eq_true rfl) wd_207 dX7_mayLeave_99 rfl)) (am_nd_ok (am_lf_ok (fun _ => ok_iconst dX7_mayLeave_102 cv_iconst_0 rfl)) (am_lf_ok (fun _ => ok_aload_n dX7_mayLeave_103 rfl rfl)))) (am_nd_ok (am_lf_ok (fun _ => ok_get (C := RX7) (TT := TX7) (N := 4) rfl inw_X7 (Nat.le_of_ble_eq_true rfl) wd_194 dX7_mayLeave_104 rfl)) (am_nd_ok (am_lf_ok (fun _ => ok_get (C := RX10) (TT := TX10) (N := 14) rfl inw_X10 (Nat.le_of_ble_eq_true rfl) wd_208 dX7_mayLeave_107 rfl)) (am_lf_ok (fun _ => ok_iload dX7_mayLeave_110 rfl))))) (am_nd_ok (am_nd_ok (am_lf_ok (fun _ => ok_iald dX7_mayLeave_112 rfl)) (am_nd_ok (am_lf_ok (fun _ => ok_iast dX7_mayLeave_113 rfl)) (am_lf_ok (fun _ => ok_aload_n dX7_mayLeave_114 rfl rfl)))) (am_nd_ok (am_lf_ok (fun _ => ok_get (C := RX7) (TT := TX7) (N := 4) rfl inw_X7 (Nat.le_of_ble_eq_true rfl) wd_207 dX7_mayLeave_115 rfl)) (am_nd_ok (am_lf_ok (fun _ => ok_iconst dX7_mayLeave_118 cv_iconst_1 rfl)) (am_lf_ok (fun _ => ok_aload_n dX7_mayLeave_119 rfl rfl))))))
def tX7_mayLeave_3 : Nat → Option am_Act := am_nd 142 (am_nd 131 (am_nd 128 (am_nd 123 (am_lf 120 (a_get tT 7 0 123)) (am_nd 126 (am_lf 123 (a_get tT 10 6 126)) (am_lf 126 (a_iload 5 128)))) (am_nd 129 (am_lf 128 (a_iald tT 129)) (am_nd 130 (am_lf 129 (a_iast tT 130)) (am_lf 130 (a_aload 0 131))))) (am_nd 137 (am_nd 134 (am_lf 131 (a_get tT 7 1 134)) (am_nd 135 (am_lf 134 (a_const (nI 2) 135)) (am_lf 135 (a_iload 4 137)))) (am_nd 138 (am_lf 137 (a_iast tT 138)) (am_nd 139 (am_lf 138 (a_aload 0 139)) (am_lf 139 (a_get tT 7 1 142)))))) (am_nd 150 (am_nd 145 (am_nd 143 (am_lf 142 (a_const (nI 3) 143)) (am_nd 144 (am_lf 143 (a_iload 3 144)) (am_lf 144 (a_iast tT 145)))) (am_nd 146 (am_lf 145 (a_aload 0 146)) (am_nd 149 (am_lf 146 (a_get tT 7 1 149)) (am_lf 149 (a_const (nI 4) 150))))) (am_nd 157 (am_nd 151 (am_lf 150 (a_aload 0 151)) (am_nd 154 (am_lf 151 (a_get tT 7 0 154)) (am_lf 154 (a_get tT 10 11 157)))) (am_nd 158 (am_lf 157 (a_iload 1 158)) (am_nd 160 (am_lf 158 (a_iload 5 160)) (am_lf 160 (a_cvI tT mX5_othersWith 5 2 163))))))
theorem gX7_mayLeave_3 : am_Good tT mX7_mayLeave tX7_mayLeave_3 := am_nd_ok (am_nd_ok (am_nd_ok (am_nd_ok (am_lf_ok (fun _ => ok_get (C := RX7) (TT := TX7) (N := 4) rfl inw_X7 (Nat.le_of_ble_eq_true rfl) wd_194 dX7_mayLeave_120 rfl)) (am_nd_ok (am_lf_ok (fun _ => ok_get (C := RX10) (TT := TX10) (N := 14) rfl inw_X10 (Nat.le_of_ble_eq_true rfl) wd_209 dX7_mayLeave_123 rfl)) (am_lf_ok (fun _ => ok_iload dX7_mayLeave_126 rfl)))) (am_nd_ok (am_lf_ok (fun _ => ok_iald dX7_mayLeave_128 rfl)) (am_nd_ok (am_lf_ok (fun _ => ok_iast dX7_mayLeave_129 rfl)) (am_lf_ok (fun _ => ok_aload_n dX7_mayLeave_130 rfl rfl))))) (am_nd_ok (am_nd_ok (am_lf_ok (fun _ => ok_get (C := RX7) (TT := TX7) (N := 4) rfl inw_X7 (Nat.le_of_ble_eq_true rfl) wd_207 dX7_mayLeave_131 rfl)) (am_nd_ok (am_lf_ok (fun _ => ok_iconst dX7_mayLeave_134 cv_iconst_2 rfl)) (am_lf_ok (fun _ => ok_iload dX7_mayLeave_135 rfl)))) (am_nd_ok (am_lf_ok (fun _ => ok_iast dX7_mayLeave_137 rfl)) (am_nd_ok (am_lf_ok (fun _ => ok_aload_n dX7_mayLeave_138 rfl rfl)) (am_lf_ok (fun _ => ok_get (C := RX7) (TT := TX7) (N := 4) rfl inw_X7 (Nat.le_of_ble_eq_true rfl) wd_207 dX7_mayLeave_139 rfl)))))) (am_nd_ok (am_nd_ok (am_nd_ok (am_lf_ok (fun _ => ok_iconst dX7_mayLeave_142 cv_iconst_3 rfl)) (am_nd_ok (am_lf_ok (fun _ => ok_iload_n dX7_mayLeave_143 rfl rfl)) (am_lf_ok (fun _ => ok_iast dX7_mayLeave_144 rfl)))) (am_nd_ok (am_lf_ok (fun _ => ok_aload_n dX7_mayLeave_145 rfl rfl)) (am_nd_ok (am_lf_ok (fun _ => ok_get (C := RX7) (TT := TX7) (N := 4) rfl inw_X7 (Nat.le_of_ble_eq_true rfl) wd_207 dX7_mayLeave_146 rfl)) (am_lf_ok (fun _ => ok_iconst dX7_mayLeave_149 cv_iconst_4 rfl))))) (am_nd_ok (am_nd_ok (am_lf_ok (fun _ => ok_aload_n dX7_mayLeave_150 rfl rfl)) (am_nd_ok (am_lf_ok (fun _ => ok_get (C := RX7) (TT := TX7) (N := 4) rfl inw_X7 (Nat.le_of_ble_eq_true rfl) wd_194 dX7_mayLeave_151 rfl)) (am_lf_ok (fun _ => ok_get (C := RX10) (TT := TX10) (N := 14) rfl inw_X10 (Nat.le_of_ble_eq_true rfl) wd_199 dX7_mayLeave_154 rfl)))) (am_nd_ok (am_lf_ok (fun _ => ok_iload_n dX7_mayLeave_157 rfl rfl)) (am_nd_ok (am_lf_ok (fun _ => ok_iload dX7_mayLeave_158 rfl)) (am_lf_ok (fun _ => ok_cvI rfl mw_X5_othersWith (ci := 5) rfl rfl wd_210 wd_211 wd_212 dX7_mayLeave_160 rfl))))))
def tX7_mayLeave_4 : Nat → Option am_Act := am_nd 184 (am_nd 171 (am_nd 168 (am_nd 164 (am_lf 163 (a_iast tT 164)) (am_nd 165 (am_lf 164 (a_aload 0 165)) (am_lf 165 (a_get tT 7 1 168)))) (am_nd 169 (am_lf 168 (a_const (nI 5) 169)) (am_nd 170 (am_lf 169 (a_iload 2 170)) (am_lf 170 (a_iast tT 171))))) (am_nd 177 (am_nd 172 (am_lf 171 (a_aload 0 172)) (am_nd 175 (am_lf 172 (a_get tT 7 1 175)) (am_lf 175 (a_const (nI 6) 177)))) (am_nd 178 (am_lf 177 (a_aload 0 178)) (am_nd 181 (am_lf 178 (a_get tT 7 0 181)) (am_lf 181 (a_get tT 10 3 184)))))) (am_nd 195 (am_nd 189 (am_nd 185 (am_lf 184 (a_iast tT 185)) (am_nd 186 (am_lf 185 (a_aload 0 186)) (am_lf 186 (a_get tT 7 1 189)))) (am_nd 191 (am_lf 189 (a_const (nI 7) 191)) (am_nd 192 (am_lf 191 (a_aload 0 192)) (am_lf 192 (a_get tT 7 0 195))))) (am_nd 201 (am_nd 198 (am_lf 195 (a_get tT 10 12 198)) (am_nd 199 (am_lf 198 (a_iload 2 199)) (am_lf 199 (a_iload 5 201)))) (am_nd 204 (am_lf 201 (a_cvI tT mX2_keptOf 2 2 204)) (am_nd 205 (am_lf 204 (a_iast tT 205)) (am_lf 205 (a_aload 0 206))))))
theorem gX7_mayLeave_4 : am_Good tT mX7_mayLeave tX7_mayLeave_4 := am_nd_ok (am_nd_ok (am_nd_ok (am_nd_ok (am_lf_ok (fun _ => ok_iast dX7_mayLeave_163 rfl)) (am_nd_ok (am_lf_ok (fun _ => ok_aload_n dX7_mayLeave_164 rfl rfl)) (am_lf_ok (fun _ => ok_get (C := RX7) (TT := TX7) (N := 4) rfl inw_X7 (Nat.le_of_ble_eq_true rfl) wd_207 dX7_mayLeave_165 rfl)))) (am_nd_ok (am_lf_ok (fun _ => ok_iconst dX7_mayLeave_168 cv_iconst_5 rfl)) (am_nd_ok (am_lf_ok (fun _ => ok_iload_n dX7_mayLeave_169 rfl rfl)) (am_lf_ok (fun _ => ok_iast dX7_mayLeave_170 rfl))))) (am_nd_ok (am_nd_ok (am_lf_ok (fun _ => ok_aload_n dX7_mayLeave_171 rfl rfl)) (am_nd_ok (am_lf_ok (fun _ => ok_get (C := RX7) (TT := TX7) (N := 4) rfl inw_X7 (Nat.le_of_ble_eq_true rfl) wd_207 dX7_mayLeave_172 rfl)) (am_lf_ok (fun _ => ok_bipush dX7_mayLeave_175 cv_bipush_6 rfl)))) (am_nd_ok (am_lf_ok (fun _ => ok_aload_n dX7_mayLeave_177 rfl rfl)) (am_nd_ok (am_lf_ok (fun _ => ok_get (C := RX7) (TT := TX7) (N := 4) rfl inw_X7 (Nat.le_of_ble_eq_true rfl) wd_194 dX7_mayLeave_178 rfl)) (am_lf_ok (fun _ => ok_get (C := RX10) (TT := TX10) (N := 14) rfl inw_X10 (Nat.le_of_ble_eq_true rfl) wd_213 dX7_mayLeave_181 rfl)))))) (am_nd_ok (am_nd_ok (am_nd_ok (am_lf_ok (fun _ => ok_iast dX7_mayLeave_184 rfl)) (am_nd_ok (am_lf_ok (fun _ => ok_aload_n dX7_mayLeave_185 rfl rfl)) (am_lf_ok (fun _ => ok_get (C := RX7) (TT := TX7) (N := 4) rfl inw_X7 (Nat.le_of_ble_eq_true rfl) wd_207 dX7_mayLeave_186 rfl)))) (am_nd_ok (am_lf_ok (fun _ => ok_bipush dX7_mayLeave_189 cv_bipush_7 rfl)) (am_nd_ok (am_lf_ok (fun _ => ok_aload_n dX7_mayLeave_191 rfl rfl)) (am_lf_ok (fun _ => ok_get (C := RX7) (TT := TX7) (N := 4) rfl inw_X7 (Nat.le_of_ble_eq_true rfl) wd_194 dX7_mayLeave_192 rfl))))) (am_nd_ok (am_nd_ok (am_lf_ok (fun _ => ok_get (C := RX10) (TT := TX10) (N := 14) rfl inw_X10 (Nat.le_of_ble_eq_true rfl) wd_214 dX7_mayLeave_195 rfl)) (am_nd_ok (am_lf_ok (fun _ => ok_iload_n dX7_mayLeave_198 rfl rfl)) (am_lf_ok (fun _ => ok_iload dX7_mayLeave_199 rfl)))) (am_nd_ok (am_lf_ok (fun _ => ok_cvI rfl mw_X2_keptOf (ci := 2) rfl rfl wd_215 wd_68 wd_69 dX7_mayLeave_201 rfl)) (am_nd_ok (am_lf_ok (fun _ => ok_iast dX7_mayLeave_204 rfl)) (am_lf_ok (fun _ => ok_aload_n dX7_mayLeave_205 rfl rfl))))))
def tX7_mayLeave_5 : Nat → Option am_Act := am_nd 234 (am_nd 221 (am_nd 213 (am_nd 209 (am_lf 206 (a_get tT 7 0 209)) (am_nd 212 (am_lf 209 (a_get tT 10 13 212)) (am_lf 212 (a_aload 0 213)))) (am_nd 216 (am_lf 213 (a_get tT 7 1 216)) (am_nd 219 (am_lf 216 (a_cvI tT mX3_allows 3 1 219)) (am_lf 219 (a_istore 9 221))))) (am_nd 228 (am_nd 222 (am_lf 221 (a_aload 0 222)) (am_nd 225 (am_lf 222 (a_get tT 7 3 225)) (am_lf 225 (a_if (fun x => x = nI 0) 253 228)))) (am_nd 229 (am_lf 228 (a_aload 0 229)) (am_nd 232 (am_lf 229 (a_get tT 7 2 232)) (am_lf 232 (a_iload 6 234)))))) (am_nd 245 (am_nd 238 (am_nd 235 (am_lf 234 (a_dup2 235)) (am_nd 236 (am_lf 235 (a_iald tT 236)) (am_lf 236 (a_iload 9 238)))) (am_nd 241 (am_lf 238 (a_if (fun x => x = nI 0) 249 241)) (am_nd 243 (am_lf 241 (a_iload 7 243)) (am_lf 243 (a_iload 8 245))))) (am_nd 251 (am_nd 246 (am_lf 245 (a_bin (fun x y => x ||| y) 246)) (am_nd 249 (am_lf 246 (a_goto 251)) (am_lf 249 (a_iload 7 251)))) (am_nd 252 (am_lf 251 (a_bin (fun x y => x ||| y) 252)) (am_nd 253 (am_lf 252 (a_iast tT 253)) (am_lf 253 (a_iload 9 255))))))
theorem gX7_mayLeave_5 : am_Good tT mX7_mayLeave tX7_mayLeave_5 := am_nd_ok (am_nd_ok (am_nd_ok (am_nd_ok (am_lf_ok (fun _ => ok_get (C := RX7) (TT := TX7) (N := 4) rfl inw_X7 (Nat.le_of_ble_eq_true rfl) wd_194 dX7_mayLeave_206 rfl)) (am_nd_ok (am_lf_ok (fun _ => ok_get (C := RX10) (TT := TX10) (N := 14) rfl inw_X10 (Nat.le_of_ble_eq_true rfl) wd_216 dX7_mayLeave_209 rfl)) (am_lf_ok (fun _ => ok_aload_n dX7_mayLeave_212 rfl rfl)))) (am_nd_ok (am_lf_ok (fun _ => ok_get (C := RX7) (TT := TX7) (N := 4) rfl inw_X7 (Nat.le_of_ble_eq_true rfl) wd_207 dX7_mayLeave_213 rfl)) (am_nd_ok (am_lf_ok (fun _ => ok_cvI rfl mw_X3_allows (ci := 3) rfl rfl wd_217 wd_218 wd_219 dX7_mayLeave_216 rfl)) (am_lf_ok (fun _ => ok_istore dX7_mayLeave_219 (Nat.le_of_ble_eq_true rfl) rfl))))) (am_nd_ok (am_nd_ok (am_lf_ok (fun _ => ok_aload_n dX7_mayLeave_221 rfl rfl)) (am_nd_ok (am_lf_ok (fun _ => ok_get (C := RX7) (TT := TX7) (N := 4) rfl inw_X7 (Nat.le_of_ble_eq_true rfl) wd_193 dX7_mayLeave_222 rfl)) (am_lf_ok (fun _ => ok_if_eq dX7_mayLeave_225 rfl rfl)))) (am_nd_ok (am_lf_ok (fun _ => ok_aload_n dX7_mayLeave_228 rfl rfl)) (am_nd_ok (am_lf_ok (fun _ => ok_get (C := RX7) (TT := TX7) (N := 4) rfl inw_X7 (Nat.le_of_ble_eq_true rfl) wd_190 dX7_mayLeave_229 rfl)) (am_lf_ok (fun _ => ok_iload dX7_mayLeave_232 rfl)))))) (am_nd_ok (am_nd_ok (am_nd_ok (am_lf_ok (fun _ => ok_dup2 dX7_mayLeave_234 rfl)) (am_nd_ok (am_lf_ok (fun _ => ok_iald dX7_mayLeave_235 rfl)) (am_lf_ok (fun _ => ok_iload dX7_mayLeave_236 rfl)))) (am_nd_ok (am_lf_ok (fun _ => ok_if_eq dX7_mayLeave_238 rfl rfl)) (am_nd_ok (am_lf_ok (fun _ => ok_iload dX7_mayLeave_241 rfl)) (am_lf_ok (fun _ => ok_iload dX7_mayLeave_243 rfl))))) (am_nd_ok (am_nd_ok (am_lf_ok (fun _ => ok_ior dX7_mayLeave_245 rfl)) (am_nd_ok (am_lf_ok (fun _ => ok_goto dX7_mayLeave_246 rfl)) (am_lf_ok (fun _ => ok_iload dX7_mayLeave_249 rfl)))) (am_nd_ok (am_lf_ok (fun _ => ok_ior dX7_mayLeave_251 rfl)) (am_nd_ok (am_lf_ok (fun _ => ok_iast dX7_mayLeave_252 rfl)) (am_lf_ok (fun _ => ok_iload dX7_mayLeave_253 rfl))))))
def tX7_mayLeave_6 : Nat → Option am_Act := am_lf 255 (a_zret)
theorem gX7_mayLeave_6 : am_Good tT mX7_mayLeave tX7_mayLeave_6 := am_lf_ok (fun _ => ok_zret rfl dX7_mayLeave_255)
def tX7_mayLeave : Nat → Option am_Act := am_nd 120 (am_nd 42 (tX7_mayLeave_0) (am_nd 79 (tX7_mayLeave_1) (tX7_mayLeave_2))) (am_nd 206 (am_nd 163 (tX7_mayLeave_3) (tX7_mayLeave_4)) (am_nd 255 (tX7_mayLeave_5) (tX7_mayLeave_6)))
theorem gX7_mayLeave : am_Good tT mX7_mayLeave tX7_mayLeave := am_nd_ok (am_nd_ok (gX7_mayLeave_0) (am_nd_ok (gX7_mayLeave_1) (gX7_mayLeave_2))) (am_nd_ok (am_nd_ok (gX7_mayLeave_3) (gX7_mayLeave_4)) (am_nd_ok (gX7_mayLeave_5) (gX7_mayLeave_6)))
theorem dX7_pass_0 : decode cX7_pass 0 = .ok (.aload_n 0, 1) := by decide +kernel
theorem dX7_pass_1 : decode cX7_pass 1 = .ok (.iload_n 1, 1) := by decide +kernel
theorem dX7_pass_2 : decode cX7_pass 2 = .ok (.iload_n 2, 1) := by decide +kernel
theorem dX7_pass_3 : decode cX7_pass 3 = .ok (.invokevirtual 90, 3) := by decide +kernel
theorem dX7_pass_6 : decode cX7_pass 6 = .ok (.iload_n 3, 1) := by decide +kernel
theorem dX7_pass_7 : decode cX7_pass 7 = .ok (.bipush 100, 2) := by decide +kernel
theorem dX7_pass_9 : decode cX7_pass 9 = .ok (.if_icmp .ne 6, 3) := by decide +kernel
theorem dX7_pass_12 : decode cX7_pass 12 = .ok (.bipush 100, 2) := by decide +kernel
theorem dX7_pass_14 : decode cX7_pass 14 = .ok (.ireturn, 1) := by decide +kernel
theorem dX7_pass_15 : decode cX7_pass 15 = .ok (.aload_n 0, 1) := by decide +kernel
theorem dX7_pass_16 : decode cX7_pass 16 = .ok (.getfield 22, 3) := by decide +kernel
theorem dX7_pass_19 : decode cX7_pass 19 = .ok (.getfield 42, 3) := by decide +kernel
theorem dX7_pass_22 : decode cX7_pass 22 = .ok (.iload_n 1, 1) := by decide +kernel
theorem dX7_pass_23 : decode cX7_pass 23 = .ok (.iload_n 3, 1) := by decide +kernel
theorem dX7_pass_24 : decode cX7_pass 24 = .ok (.invokevirtual 55, 3) := by decide +kernel
theorem dX7_pass_27 : decode cX7_pass 27 = .ok (.istore 4, 2) := by decide +kernel
theorem dX7_pass_29 : decode cX7_pass 29 = .ok (.aload_n 0, 1) := by decide +kernel
theorem dX7_pass_30 : decode cX7_pass 30 = .ok (.getfield 22, 3) := by decide +kernel
theorem dX7_pass_33 : decode cX7_pass 33 = .ok (.getfield 42, 3) := by decide +kernel
theorem dX7_pass_36 : decode cX7_pass 36 = .ok (.iload_n 1, 1) := by decide +kernel
theorem dX7_pass_37 : decode cX7_pass 37 = .ok (.iload_n 3, 1) := by decide +kernel
theorem dX7_pass_38 : decode cX7_pass 38 = .ok (.invokevirtual 94, 3) := by decide +kernel
theorem dX7_pass_41 : decode cX7_pass 41 = .ok (.aload_n 0, 1) := by decide +kernel
theorem dX7_pass_42 : decode cX7_pass 42 = .ok (.getfield 22, 3) := by decide +kernel
theorem dX7_pass_45 : decode cX7_pass 45 = .ok (.getfield 71, 3) := by decide +kernel
theorem dX7_pass_48 : decode cX7_pass 48 = .ok (.iload_n 2, 1) := by decide +kernel
theorem dX7_pass_49 : decode cX7_pass 49 = .ok (.iload 4, 2) := by decide +kernel
theorem dX7_pass_51 : decode cX7_pass 51 = .ok (.iconst 1, 1) := by decide +kernel
theorem dX7_pass_52 : decode cX7_pass 52 = .ok (.invokevirtual 97, 3) := by decide +kernel
theorem dX7_pass_55 : decode cX7_pass 55 = .ok (.iload 4, 2) := by decide +kernel
theorem dX7_pass_57 : decode cX7_pass 57 = .ok (.ireturn, 1) := by decide +kernel
def tX7_pass_0 : Nat → Option am_Act := am_nd 22 (am_nd 9 (am_nd 3 (am_nd 1 (am_lf 0 (a_aload 0 1)) (am_nd 2 (am_lf 1 (a_iload 1 2)) (am_lf 2 (a_iload 2 3)))) (am_nd 6 (am_lf 3 (a_cvV tT mX7_changeSides 7 2 6)) (am_nd 7 (am_lf 6 (a_iload 3 7)) (am_lf 7 (a_const (nI 100) 9))))) (am_nd 15 (am_nd 12 (am_lf 9 (a_cmp (fun x y => x = y) 12 15)) (am_nd 14 (am_lf 12 (a_const (nI 100) 14)) (am_lf 14 (a_iret)))) (am_nd 16 (am_lf 15 (a_aload 0 16)) (am_nd 19 (am_lf 16 (a_get tT 7 0 19)) (am_lf 19 (a_get tT 10 11 22)))))) (am_nd 33 (am_nd 27 (am_nd 23 (am_lf 22 (a_iload 1 23)) (am_nd 24 (am_lf 23 (a_iload 3 24)) (am_lf 24 (a_cvI tT mX5_nameAt 5 2 27)))) (am_nd 29 (am_lf 27 (a_istore 4 29)) (am_nd 30 (am_lf 29 (a_aload 0 30)) (am_lf 30 (a_get tT 7 0 33))))) (am_nd 38 (am_nd 36 (am_lf 33 (a_get tT 10 11 36)) (am_nd 37 (am_lf 36 (a_iload 1 37)) (am_lf 37 (a_iload 3 38)))) (am_nd 41 (am_lf 38 (a_cvV tT mX5_remove 5 2 41)) (am_nd 42 (am_lf 41 (a_aload 0 42)) (am_lf 42 (a_get tT 7 0 45))))))
theorem gX7_pass_0 : am_Good tT mX7_pass tX7_pass_0 := am_nd_ok (am_nd_ok (am_nd_ok (am_nd_ok (am_lf_ok (fun _ => ok_aload_n dX7_pass_0 rfl rfl)) (am_nd_ok (am_lf_ok (fun _ => ok_iload_n dX7_pass_1 rfl rfl)) (am_lf_ok (fun _ => ok_iload_n dX7_pass_2 rfl rfl)))) (am_nd_ok (am_lf_ok (fun _ => ok_cvV rfl mw_X7_changeSides (ci := 7) rfl rfl wd_220 wd_221 wd_222 dX7_pass_3 rfl)) (am_nd_ok (am_lf_ok (fun _ => ok_iload_n dX7_pass_6 rfl rfl)) (am_lf_ok (fun _ => ok_bipush dX7_pass_7 cv_bipush_100 rfl))))) (am_nd_ok (am_nd_ok (am_lf_ok (fun _ => ok_cmp_ne dX7_pass_9 rfl rfl)) (am_nd_ok (am_lf_ok (fun _ => ok_bipush dX7_pass_12 cv_bipush_100 rfl)) (am_lf_ok (fun _ => ok_iret rfl dX7_pass_14)))) (am_nd_ok (am_lf_ok (fun _ => ok_aload_n dX7_pass_15 rfl rfl)) (am_nd_ok (am_lf_ok (fun _ => ok_get (C := RX7) (TT := TX7) (N := 4) rfl inw_X7 (Nat.le_of_ble_eq_true rfl) wd_194 dX7_pass_16 rfl)) (am_lf_ok (fun _ => ok_get (C := RX10) (TT := TX10) (N := 14) rfl inw_X10 (Nat.le_of_ble_eq_true rfl) wd_199 dX7_pass_19 rfl)))))) (am_nd_ok (am_nd_ok (am_nd_ok (am_lf_ok (fun _ => ok_iload_n dX7_pass_22 rfl rfl)) (am_nd_ok (am_lf_ok (fun _ => ok_iload_n dX7_pass_23 rfl rfl)) (am_lf_ok (fun _ => ok_cvI rfl mw_X5_nameAt (ci := 5) rfl rfl wd_204 wd_205 wd_206 dX7_pass_24 rfl)))) (am_nd_ok (am_lf_ok (fun _ => ok_istore dX7_pass_27 (Nat.le_of_ble_eq_true rfl) rfl)) (am_nd_ok (am_lf_ok (fun _ => ok_aload_n dX7_pass_29 rfl rfl)) (am_lf_ok (fun _ => ok_get (C := RX7) (TT := TX7) (N := 4) rfl inw_X7 (Nat.le_of_ble_eq_true rfl) wd_194 dX7_pass_30 rfl))))) (am_nd_ok (am_nd_ok (am_lf_ok (fun _ => ok_get (C := RX10) (TT := TX10) (N := 14) rfl inw_X10 (Nat.le_of_ble_eq_true rfl) wd_199 dX7_pass_33 rfl)) (am_nd_ok (am_lf_ok (fun _ => ok_iload_n dX7_pass_36 rfl rfl)) (am_lf_ok (fun _ => ok_iload_n dX7_pass_37 rfl rfl)))) (am_nd_ok (am_lf_ok (fun _ => ok_cvV rfl mw_X5_remove (ci := 5) rfl rfl wd_223 wd_188 wd_189 dX7_pass_38 rfl)) (am_nd_ok (am_lf_ok (fun _ => ok_aload_n dX7_pass_41 rfl rfl)) (am_lf_ok (fun _ => ok_get (C := RX7) (TT := TX7) (N := 4) rfl inw_X7 (Nat.le_of_ble_eq_true rfl) wd_194 dX7_pass_42 rfl))))))
def tX7_pass_1 : Nat → Option am_Act := am_nd 51 (am_nd 48 (am_lf 45 (a_get tT 10 12 48)) (am_nd 49 (am_lf 48 (a_iload 2 49)) (am_lf 49 (a_iload 4 51)))) (am_nd 55 (am_nd 52 (am_lf 51 (a_const (nI 1) 52)) (am_lf 52 (a_cvV tT mX2_changeKept 2 3 55))) (am_nd 57 (am_lf 55 (a_iload 4 57)) (am_lf 57 (a_iret))))
theorem gX7_pass_1 : am_Good tT mX7_pass tX7_pass_1 := am_nd_ok (am_nd_ok (am_lf_ok (fun _ => ok_get (C := RX10) (TT := TX10) (N := 14) rfl inw_X10 (Nat.le_of_ble_eq_true rfl) wd_214 dX7_pass_45 rfl)) (am_nd_ok (am_lf_ok (fun _ => ok_iload_n dX7_pass_48 rfl rfl)) (am_lf_ok (fun _ => ok_iload dX7_pass_49 rfl)))) (am_nd_ok (am_nd_ok (am_lf_ok (fun _ => ok_iconst dX7_pass_51 cv_iconst_1 rfl)) (am_lf_ok (fun _ => ok_cvV rfl mw_X2_changeKept (ci := 2) rfl rfl wd_224 wd_225 wd_226 dX7_pass_52 rfl))) (am_nd_ok (am_lf_ok (fun _ => ok_iload dX7_pass_55 rfl)) (am_lf_ok (fun _ => ok_iret rfl dX7_pass_57))))
def tX7_pass : Nat → Option am_Act := am_nd 45 (tX7_pass_0) (tX7_pass_1)
theorem gX7_pass : am_Good tT mX7_pass tX7_pass := am_nd_ok (gX7_pass_0) (gX7_pass_1)
theorem dX7_back_0 : decode cX7_back 0 = .ok (.aload_n 0, 1) := by decide +kernel
theorem dX7_back_1 : decode cX7_back 1 = .ok (.iload_n 1, 1) := by decide +kernel
theorem dX7_back_2 : decode cX7_back 2 = .ok (.iload_n 2, 1) := by decide +kernel
theorem dX7_back_3 : decode cX7_back 3 = .ok (.invokevirtual 90, 3) := by decide +kernel
theorem dX7_back_6 : decode cX7_back 6 = .ok (.iload_n 3, 1) := by decide +kernel
theorem dX7_back_7 : decode cX7_back 7 = .ok (.bipush 100, 2) := by decide +kernel
theorem dX7_back_9 : decode cX7_back 9 = .ok (.if_icmp .eq 31, 3) := by decide +kernel
theorem dX7_back_12 : decode cX7_back 12 = .ok (.aload_n 0, 1) := by decide +kernel
theorem dX7_back_13 : decode cX7_back 13 = .ok (.getfield 22, 3) := by decide +kernel
theorem dX7_back_16 : decode cX7_back 16 = .ok (.getfield 71, 3) := by decide +kernel
theorem dX7_back_19 : decode cX7_back 19 = .ok (.iload_n 2, 1) := by decide +kernel
theorem dX7_back_20 : decode cX7_back 20 = .ok (.iload 4, 2) := by decide +kernel
theorem dX7_back_22 : decode cX7_back 22 = .ok (.iconst (-1), 1) := by decide +kernel
theorem dX7_back_23 : decode cX7_back 23 = .ok (.invokevirtual 97, 3) := by decide +kernel
theorem dX7_back_26 : decode cX7_back 26 = .ok (.aload_n 0, 1) := by decide +kernel
theorem dX7_back_27 : decode cX7_back 27 = .ok (.getfield 22, 3) := by decide +kernel
theorem dX7_back_30 : decode cX7_back 30 = .ok (.getfield 42, 3) := by decide +kernel
theorem dX7_back_33 : decode cX7_back 33 = .ok (.iload_n 1, 1) := by decide +kernel
theorem dX7_back_34 : decode cX7_back 34 = .ok (.iload_n 3, 1) := by decide +kernel
theorem dX7_back_35 : decode cX7_back 35 = .ok (.iload 4, 2) := by decide +kernel
theorem dX7_back_37 : decode cX7_back 37 = .ok (.invokevirtual 101, 3) := by decide +kernel
theorem dX7_back_40 : decode cX7_back 40 = .ok (.return_, 1) := by decide +kernel
def tX7_back_0 : Nat → Option am_Act := am_nd 20 (am_nd 7 (am_nd 2 (am_nd 1 (am_lf 0 (a_aload 0 1)) (am_lf 1 (a_iload 1 2))) (am_nd 3 (am_lf 2 (a_iload 2 3)) (am_nd 6 (am_lf 3 (a_cvV tT mX7_changeSides 7 2 6)) (am_lf 6 (a_iload 3 7))))) (am_nd 13 (am_nd 9 (am_lf 7 (a_const (nI 100) 9)) (am_nd 12 (am_lf 9 (a_cmp (fun x y => x = y) 40 12)) (am_lf 12 (a_aload 0 13)))) (am_nd 16 (am_lf 13 (a_get tT 7 0 16)) (am_nd 19 (am_lf 16 (a_get tT 10 12 19)) (am_lf 19 (a_iload 2 20)))))) (am_nd 30 (am_nd 23 (am_nd 22 (am_lf 20 (a_iload 4 22)) (am_lf 22 (a_const (-1) 23))) (am_nd 26 (am_lf 23 (a_cvV tT mX2_changeKept 2 3 26)) (am_nd 27 (am_lf 26 (a_aload 0 27)) (am_lf 27 (a_get tT 7 0 30))))) (am_nd 35 (am_nd 33 (am_lf 30 (a_get tT 10 11 33)) (am_nd 34 (am_lf 33 (a_iload 1 34)) (am_lf 34 (a_iload 3 35)))) (am_nd 37 (am_lf 35 (a_iload 4 37)) (am_nd 40 (am_lf 37 (a_cvV tT mX5_insert 5 3 40)) (am_lf 40 (a_ret))))))
theorem gX7_back_0 : am_Good tT mX7_back tX7_back_0 := am_nd_ok (am_nd_ok (am_nd_ok (am_nd_ok (am_lf_ok (fun _ => ok_aload_n dX7_back_0 rfl rfl)) (am_lf_ok (fun _ => ok_iload_n dX7_back_1 rfl rfl))) (am_nd_ok (am_lf_ok (fun _ => ok_iload_n dX7_back_2 rfl rfl)) (am_nd_ok (am_lf_ok (fun _ => ok_cvV rfl mw_X7_changeSides (ci := 7) rfl rfl wd_220 wd_221 wd_222 dX7_back_3 rfl)) (am_lf_ok (fun _ => ok_iload_n dX7_back_6 rfl rfl))))) (am_nd_ok (am_nd_ok (am_lf_ok (fun _ => ok_bipush dX7_back_7 cv_bipush_100 rfl)) (am_nd_ok (am_lf_ok (fun _ => ok_cmp_eq dX7_back_9 rfl rfl)) (am_lf_ok (fun _ => ok_aload_n dX7_back_12 rfl rfl)))) (am_nd_ok (am_lf_ok (fun _ => ok_get (C := RX7) (TT := TX7) (N := 4) rfl inw_X7 (Nat.le_of_ble_eq_true rfl) wd_194 dX7_back_13 rfl)) (am_nd_ok (am_lf_ok (fun _ => ok_get (C := RX10) (TT := TX10) (N := 14) rfl inw_X10 (Nat.le_of_ble_eq_true rfl) wd_214 dX7_back_16 rfl)) (am_lf_ok (fun _ => ok_iload_n dX7_back_19 rfl rfl)))))) (am_nd_ok (am_nd_ok (am_nd_ok (am_lf_ok (fun _ => ok_iload dX7_back_20 rfl)) (am_lf_ok (fun _ => ok_iconst dX7_back_22 cv_iconst_m1 rfl))) (am_nd_ok (am_lf_ok (fun _ => ok_cvV rfl mw_X2_changeKept (ci := 2) rfl rfl wd_224 wd_225 wd_226 dX7_back_23 rfl)) (am_nd_ok (am_lf_ok (fun _ => ok_aload_n dX7_back_26 rfl rfl)) (am_lf_ok (fun _ => ok_get (C := RX7) (TT := TX7) (N := 4) rfl inw_X7 (Nat.le_of_ble_eq_true rfl) wd_194 dX7_back_27 rfl))))) (am_nd_ok (am_nd_ok (am_lf_ok (fun _ => ok_get (C := RX10) (TT := TX10) (N := 14) rfl inw_X10 (Nat.le_of_ble_eq_true rfl) wd_199 dX7_back_30 rfl)) (am_nd_ok (am_lf_ok (fun _ => ok_iload_n dX7_back_33 rfl rfl)) (am_lf_ok (fun _ => ok_iload_n dX7_back_34 rfl rfl)))) (am_nd_ok (am_lf_ok (fun _ => ok_iload dX7_back_35 rfl)) (am_nd_ok (am_lf_ok (fun _ => ok_cvV rfl mw_X5_insert (ci := 5) rfl rfl wd_227 wd_163 wd_164 dX7_back_37 rfl)) (am_lf_ok (fun _ => ok_ret rfl dX7_back_40))))))
def tX7_back : Nat → Option am_Act := tX7_back_0
theorem gX7_back : am_Good tT mX7_back tX7_back := gX7_back_0
theorem dX7_changeSides_0 : decode cX7_changeSides 0 = .ok (.aload_n 0, 1) := by decide +kernel
theorem dX7_changeSides_1 : decode cX7_changeSides 1 = .ok (.getfield 22, 3) := by decide +kernel
theorem dX7_changeSides_4 : decode cX7_changeSides 4 = .ok (.getfield 42, 3) := by decide +kernel
theorem dX7_changeSides_7 : decode cX7_changeSides 7 = .ok (.getfield 104, 3) := by decide +kernel
theorem dX7_changeSides_10 : decode cX7_changeSides 10 = .ok (.iload_n 1, 1) := by decide +kernel
theorem dX7_changeSides_11 : decode cX7_changeSides 11 = .ok (.aload_n 0, 1) := by decide +kernel
theorem dX7_changeSides_12 : decode cX7_changeSides 12 = .ok (.getfield 22, 3) := by decide +kernel
theorem dX7_changeSides_15 : decode cX7_changeSides 15 = .ok (.getfield 71, 3) := by decide +kernel
theorem dX7_changeSides_18 : decode cX7_changeSides 18 = .ok (.iload_n 2, 1) := by decide +kernel
theorem dX7_changeSides_19 : decode cX7_changeSides 19 = .ok (.aload_n 0, 1) := by decide +kernel
theorem dX7_changeSides_20 : decode cX7_changeSides 20 = .ok (.getfield 22, 3) := by decide +kernel
theorem dX7_changeSides_23 : decode cX7_changeSides 23 = .ok (.getfield 42, 3) := by decide +kernel
theorem dX7_changeSides_26 : decode cX7_changeSides 26 = .ok (.getfield 104, 3) := by decide +kernel
theorem dX7_changeSides_29 : decode cX7_changeSides 29 = .ok (.iload_n 1, 1) := by decide +kernel
theorem dX7_changeSides_30 : decode cX7_changeSides 30 = .ok (.iaload, 1) := by decide +kernel
theorem dX7_changeSides_31 : decode cX7_changeSides 31 = .ok (.invokevirtual 107, 3) := by decide +kernel
theorem dX7_changeSides_34 : decode cX7_changeSides 34 = .ok (.iastore, 1) := by decide +kernel
theorem dX7_changeSides_35 : decode cX7_changeSides 35 = .ok (.return_, 1) := by decide +kernel
def tX7_changeSides_0 : Nat → Option am_Act := am_nd 19 (am_nd 10 (am_nd 4 (am_nd 1 (am_lf 0 (a_aload 0 1)) (am_lf 1 (a_get tT 7 0 4))) (am_nd 7 (am_lf 4 (a_get tT 10 11 7)) (am_lf 7 (a_get tT 5 1 10)))) (am_nd 12 (am_nd 11 (am_lf 10 (a_iload 1 11)) (am_lf 11 (a_aload 0 12))) (am_nd 15 (am_lf 12 (a_get tT 7 0 15)) (am_nd 18 (am_lf 15 (a_get tT 10 12 18)) (am_lf 18 (a_iload 2 19)))))) (am_nd 29 (am_nd 23 (am_nd 20 (am_lf 19 (a_aload 0 20)) (am_lf 20 (a_get tT 7 0 23))) (am_nd 26 (am_lf 23 (a_get tT 10 11 26)) (am_lf 26 (a_get tT 5 1 29)))) (am_nd 31 (am_nd 30 (am_lf 29 (a_iload 1 30)) (am_lf 30 (a_iald tT 31))) (am_nd 34 (am_lf 31 (a_cvI tT mX2_across 2 2 34)) (am_nd 35 (am_lf 34 (a_iast tT 35)) (am_lf 35 (a_ret))))))
theorem gX7_changeSides_0 : am_Good tT mX7_changeSides tX7_changeSides_0 := am_nd_ok (am_nd_ok (am_nd_ok (am_nd_ok (am_lf_ok (fun _ => ok_aload_n dX7_changeSides_0 rfl rfl)) (am_lf_ok (fun _ => ok_get (C := RX7) (TT := TX7) (N := 4) rfl inw_X7 (Nat.le_of_ble_eq_true rfl) wd_194 dX7_changeSides_1 rfl))) (am_nd_ok (am_lf_ok (fun _ => ok_get (C := RX10) (TT := TX10) (N := 14) rfl inw_X10 (Nat.le_of_ble_eq_true rfl) wd_199 dX7_changeSides_4 rfl)) (am_lf_ok (fun _ => ok_get (C := RX5) (TT := TX5) (N := 8) rfl inw_X5 (Nat.le_of_ble_eq_true rfl) wd_228 dX7_changeSides_7 rfl)))) (am_nd_ok (am_nd_ok (am_lf_ok (fun _ => ok_iload_n dX7_changeSides_10 rfl rfl)) (am_lf_ok (fun _ => ok_aload_n dX7_changeSides_11 rfl rfl))) (am_nd_ok (am_lf_ok (fun _ => ok_get (C := RX7) (TT := TX7) (N := 4) rfl inw_X7 (Nat.le_of_ble_eq_true rfl) wd_194 dX7_changeSides_12 rfl)) (am_nd_ok (am_lf_ok (fun _ => ok_get (C := RX10) (TT := TX10) (N := 14) rfl inw_X10 (Nat.le_of_ble_eq_true rfl) wd_214 dX7_changeSides_15 rfl)) (am_lf_ok (fun _ => ok_iload_n dX7_changeSides_18 rfl rfl)))))) (am_nd_ok (am_nd_ok (am_nd_ok (am_lf_ok (fun _ => ok_aload_n dX7_changeSides_19 rfl rfl)) (am_lf_ok (fun _ => ok_get (C := RX7) (TT := TX7) (N := 4) rfl inw_X7 (Nat.le_of_ble_eq_true rfl) wd_194 dX7_changeSides_20 rfl))) (am_nd_ok (am_lf_ok (fun _ => ok_get (C := RX10) (TT := TX10) (N := 14) rfl inw_X10 (Nat.le_of_ble_eq_true rfl) wd_199 dX7_changeSides_23 rfl)) (am_lf_ok (fun _ => ok_get (C := RX5) (TT := TX5) (N := 8) rfl inw_X5 (Nat.le_of_ble_eq_true rfl) wd_228 dX7_changeSides_26 rfl)))) (am_nd_ok (am_nd_ok (am_lf_ok (fun _ => ok_iload_n dX7_changeSides_29 rfl rfl)) (am_lf_ok (fun _ => ok_iald dX7_changeSides_30 rfl))) (am_nd_ok (am_lf_ok (fun _ => ok_cvI rfl mw_X2_across (ci := 2) rfl rfl wd_229 wd_47 wd_48 dX7_changeSides_31 rfl)) (am_nd_ok (am_lf_ok (fun _ => ok_iast dX7_changeSides_34 rfl)) (am_lf_ok (fun _ => ok_ret rfl dX7_changeSides_35))))))
def tX7_changeSides : Nat → Option am_Act := tX7_changeSides_0
theorem gX7_changeSides : am_Good tT mX7_changeSides tX7_changeSides := gX7_changeSides_0
