/-! ===== code of java/util/Arrays ===== -/
theorem dJ7_rangeCheck_23922_0 : decode cJ7_rangeCheck_23922 0 = .ok (.iload_n 1, 1) := by decide +kernel
theorem dJ7_rangeCheck_23922_1 : decode cJ7_rangeCheck_23922 1 = .ok (.iload_n 2, 1) := by decide +kernel
theorem dJ7_rangeCheck_23922_2 : decode cJ7_rangeCheck_23922 2 = .ok (.if_icmp .le 44, 3) := by decide +kernel
theorem dJ7_rangeCheck_23922_8 : decode cJ7_rangeCheck_23922 8 = .ok (.dup, 1) := by decide +kernel
theorem dJ7_rangeCheck_23922_12 : decode cJ7_rangeCheck_23922 12 = .ok (.dup, 1) := by decide +kernel
theorem dJ7_rangeCheck_23922_21 : decode cJ7_rangeCheck_23922 21 = .ok (.iload_n 1, 1) := by decide +kernel
theorem dJ7_rangeCheck_23922_30 : decode cJ7_rangeCheck_23922 30 = .ok (.iload_n 2, 1) := by decide +kernel
theorem dJ7_rangeCheck_23922_46 : decode cJ7_rangeCheck_23922 46 = .ok (.iload_n 1, 1) := by decide +kernel
theorem dJ7_rangeCheck_23922_47 : decode cJ7_rangeCheck_23922 47 = .ok (.ifCond .ge 12, 3) := by decide +kernel
theorem dJ7_rangeCheck_23922_53 : decode cJ7_rangeCheck_23922 53 = .ok (.dup, 1) := by decide +kernel
theorem dJ7_rangeCheck_23922_54 : decode cJ7_rangeCheck_23922 54 = .ok (.iload_n 1, 1) := by decide +kernel
theorem dJ7_rangeCheck_23922_59 : decode cJ7_rangeCheck_23922 59 = .ok (.iload_n 2, 1) := by decide +kernel
theorem dJ7_rangeCheck_23922_60 : decode cJ7_rangeCheck_23922 60 = .ok (.iload_n 0, 1) := by decide +kernel
theorem dJ7_rangeCheck_23922_61 : decode cJ7_rangeCheck_23922 61 = .ok (.if_icmp .le 12, 3) := by decide +kernel
theorem dJ7_rangeCheck_23922_67 : decode cJ7_rangeCheck_23922 67 = .ok (.dup, 1) := by decide +kernel
theorem dJ7_rangeCheck_23922_68 : decode cJ7_rangeCheck_23922 68 = .ok (.iload_n 2, 1) := by decide +kernel
theorem dJ7_rangeCheck_23922_73 : decode cJ7_rangeCheck_23922 73 = .ok (.return_, 1) := by decide +kernel
def tJ7_rangeCheck_23922_0 : Nat → Option am_Act := am_nd 47 (am_nd 12 (am_nd 2 (am_nd 1 (am_lf 0 (a_iload 1 1)) (am_lf 1 (a_iload 2 2))) (am_nd 8 (am_lf 2 (a_cmp (fun x y => x ≤ y) 46 5)) (am_lf 8 (a_dup 9)))) (am_nd 30 (am_nd 21 (am_lf 12 (a_dup 13)) (am_lf 21 (a_iload 1 22))) (am_nd 46 (am_lf 30 (a_iload 2 31)) (am_lf 46 (a_iload 1 47))))) (am_nd 60 (am_nd 54 (am_nd 53 (am_lf 47 (a_if (fun x => nI 0 ≤ x) 59 50)) (am_lf 53 (a_dup 54))) (am_nd 59 (am_lf 54 (a_iload 1 55)) (am_lf 59 (a_iload 2 60)))) (am_nd 67 (am_nd 61 (am_lf 60 (a_iload 0 61)) (am_lf 61 (a_cmp (fun x y => x ≤ y) 73 64))) (am_nd 68 (am_lf 67 (a_dup 68)) (am_nd 73 (am_lf 68 (a_iload 2 69)) (am_lf 73 (a_ret))))))
theorem gJ7_rangeCheck_23922_0 : am_Good tT mJ7_rangeCheck_23922 tJ7_rangeCheck_23922_0 := am_nd_ok (am_nd_ok (am_nd_ok (am_nd_ok (am_lf_ok (fun _ => ok_iload_n dJ7_rangeCheck_23922_0 rfl rfl)) (am_lf_ok (fun _ => ok_iload_n dJ7_rangeCheck_23922_1 rfl rfl))) (am_nd_ok (am_lf_ok (fun _ => ok_cmp_le dJ7_rangeCheck_23922_2 rfl rfl)) (am_lf_ok (fun _ => ok_dup dJ7_rangeCheck_23922_8 rfl)))) (am_nd_ok (am_nd_ok (am_lf_ok (fun _ => ok_dup dJ7_rangeCheck_23922_12 rfl)) (am_lf_ok (fun _ => ok_iload_n dJ7_rangeCheck_23922_21 rfl rfl))) (am_nd_ok (am_lf_ok (fun _ => ok_iload_n dJ7_rangeCheck_23922_30 rfl rfl)) (am_lf_ok (fun _ => ok_iload_n dJ7_rangeCheck_23922_46 rfl rfl))))) (am_nd_ok (am_nd_ok (am_nd_ok (am_lf_ok (fun _ => ok_if_ge dJ7_rangeCheck_23922_47 rfl rfl)) (am_lf_ok (fun _ => ok_dup dJ7_rangeCheck_23922_53 rfl))) (am_nd_ok (am_lf_ok (fun _ => ok_iload_n dJ7_rangeCheck_23922_54 rfl rfl)) (am_lf_ok (fun _ => ok_iload_n dJ7_rangeCheck_23922_59 rfl rfl)))) (am_nd_ok (am_nd_ok (am_lf_ok (fun _ => ok_iload_n dJ7_rangeCheck_23922_60 rfl rfl)) (am_lf_ok (fun _ => ok_cmp_le dJ7_rangeCheck_23922_61 rfl rfl))) (am_nd_ok (am_lf_ok (fun _ => ok_dup dJ7_rangeCheck_23922_67 rfl)) (am_nd_ok (am_lf_ok (fun _ => ok_iload_n dJ7_rangeCheck_23922_68 rfl rfl)) (am_lf_ok (fun _ => ok_ret rfl dJ7_rangeCheck_23922_73))))))
def tJ7_rangeCheck_23922 : Nat → Option am_Act := tJ7_rangeCheck_23922_0
theorem gJ7_rangeCheck_23922 : am_Good tT mJ7_rangeCheck_23922 tJ7_rangeCheck_23922 := gJ7_rangeCheck_23922_0
theorem dJ7_fill_53178_0 : decode cJ7_fill_53178 0 = .ok (.iconst 0, 1) := by decide +kernel
theorem dJ7_fill_53178_1 : decode cJ7_fill_53178 1 = .ok (.istore_n 2, 1) := by decide +kernel
theorem dJ7_fill_53178_2 : decode cJ7_fill_53178 2 = .ok (.aload_n 0, 1) := by decide +kernel
theorem dJ7_fill_53178_3 : decode cJ7_fill_53178 3 = .ok (.arraylength, 1) := by decide +kernel
theorem dJ7_fill_53178_4 : decode cJ7_fill_53178 4 = .ok (.istore_n 3, 1) := by decide +kernel
theorem dJ7_fill_53178_5 : decode cJ7_fill_53178 5 = .ok (.iload_n 2, 1) := by decide +kernel
theorem dJ7_fill_53178_6 : decode cJ7_fill_53178 6 = .ok (.iload_n 3, 1) := by decide +kernel
theorem dJ7_fill_53178_7 : decode cJ7_fill_53178 7 = .ok (.if_icmp .ge 13, 3) := by decide +kernel
theorem dJ7_fill_53178_10 : decode cJ7_fill_53178 10 = .ok (.aload_n 0, 1) := by decide +kernel
theorem dJ7_fill_53178_11 : decode cJ7_fill_53178 11 = .ok (.iload_n 2, 1) := by decide +kernel
theorem dJ7_fill_53178_12 : decode cJ7_fill_53178 12 = .ok (.iload_n 1, 1) := by decide +kernel
theorem dJ7_fill_53178_13 : decode cJ7_fill_53178 13 = .ok (.iastore, 1) := by decide +kernel
theorem dJ7_fill_53178_14 : decode cJ7_fill_53178 14 = .ok (.iinc 2 1, 3) := by decide +kernel
theorem dJ7_fill_53178_17 : decode cJ7_fill_53178 17 = .ok (.goto (-12), 3) := by decide +kernel
theorem dJ7_fill_53178_20 : decode cJ7_fill_53178 20 = .ok (.return_, 1) := by decide +kernel
def tJ7_fill_53178_0 : Nat → Option am_Act := am_nd 7 (am_nd 3 (am_nd 1 (am_lf 0 (a_const (nI 0) 1)) (am_nd 2 (am_lf 1 (a_istore 2 2)) (am_lf 2 (a_aload 0 3)))) (am_nd 5 (am_nd 4 (am_lf 3 (a_alen tT 4)) (am_lf 4 (a_istore 3 5))) (am_nd 6 (am_lf 5 (a_iload 2 6)) (am_lf 6 (a_iload 3 7))))) (am_nd 13 (am_nd 11 (am_nd 10 (am_lf 7 (a_cmp (fun x y => y ≤ x) 20 10)) (am_lf 10 (a_aload 0 11))) (am_nd 12 (am_lf 11 (a_iload 2 12)) (am_lf 12 (a_iload 1 13)))) (am_nd 17 (am_nd 14 (am_lf 13 (a_iast tT 14)) (am_lf 14 (a_iinc 2 (nI 1) 17))) (am_nd 20 (am_lf 17 (a_goto 5)) (am_lf 20 (a_ret)))))
theorem gJ7_fill_53178_0 : am_Good tT mJ7_fill_53178 tJ7_fill_53178_0 := am_nd_ok (am_nd_ok (am_nd_ok (am_lf_ok (fun _ => ok_iconst dJ7_fill_53178_0 cv_iconst_0 rfl)) (am_nd_ok (am_lf_ok (fun _ => ok_istore_n dJ7_fill_53178_1 rfl (Nat.le_of_ble_eq_true rfl) rfl)) (am_lf_ok (fun _ => ok_aload_n dJ7_fill_53178_2 rfl rfl)))) (am_nd_ok (am_nd_ok (am_lf_ok (fun _ => ok_alen dJ7_fill_53178_3 rfl)) (am_lf_ok (fun _ => ok_istore_n dJ7_fill_53178_4 rfl (Nat.le_of_ble_eq_true rfl) rfl))) (am_nd_ok (am_lf_ok (fun _ => ok_iload_n dJ7_fill_53178_5 rfl rfl)) (am_lf_ok (fun _ => ok_iload_n dJ7_fill_53178_6 rfl rfl))))) (am_nd_ok (am_nd_ok (am_nd_ok (am_lf_ok (fun _ => ok_cmp_ge dJ7_fill_53178_7 rfl rfl)) (am_lf_ok (fun _ => ok_aload_n dJ7_fill_53178_10 rfl rfl))) (am_nd_ok (am_lf_ok (fun _ => ok_iload_n dJ7_fill_53178_11 rfl rfl)) (am_lf_ok (fun _ => ok_iload_n dJ7_fill_53178_12 rfl rfl)))) (am_nd_ok (am_nd_ok (am_lf_ok (fun _ => ok_iast dJ7_fill_53178_13 rfl)) (am_lf_ok (fun _ => ok_iinc dJ7_fill_53178_14 cv_iconst_1 (Nat.le_of_ble_eq_true rfl) rfl))) (am_nd_ok (am_lf_ok (fun _ => ok_goto dJ7_fill_53178_17 rfl)) (am_lf_ok (fun _ => ok_ret rfl dJ7_fill_53178_20)))))
def tJ7_fill_53178 : Nat → Option am_Act := tJ7_fill_53178_0
theorem gJ7_fill_53178 : am_Good tT mJ7_fill_53178 tJ7_fill_53178 := gJ7_fill_53178_0
theorem dJ7_fill_fda19_0 : decode cJ7_fill_fda19 0 = .ok (.aload_n 0, 1) := by decide +kernel
theorem dJ7_fill_fda19_1 : decode cJ7_fill_fda19 1 = .ok (.arraylength, 1) := by decide +kernel
theorem dJ7_fill_fda19_2 : decode cJ7_fill_fda19 2 = .ok (.iload_n 1, 1) := by decide +kernel
theorem dJ7_fill_fda19_3 : decode cJ7_fill_fda19 3 = .ok (.iload_n 2, 1) := by decide +kernel
theorem dJ7_fill_fda19_4 : decode cJ7_fill_fda19 4 = .ok (.invokestatic 13, 3) := by decide +kernel
theorem dJ7_fill_fda19_7 : decode cJ7_fill_fda19 7 = .ok (.iload_n 1, 1) := by decide +kernel
theorem dJ7_fill_fda19_8 : decode cJ7_fill_fda19 8 = .ok (.istore 4, 2) := by decide +kernel
theorem dJ7_fill_fda19_10 : decode cJ7_fill_fda19 10 = .ok (.iload 4, 2) := by decide +kernel
theorem dJ7_fill_fda19_12 : decode cJ7_fill_fda19 12 = .ok (.iload_n 2, 1) := by decide +kernel
theorem dJ7_fill_fda19_13 : decode cJ7_fill_fda19 13 = .ok (.if_icmp .ge 14, 3) := by decide +kernel
theorem dJ7_fill_fda19_16 : decode cJ7_fill_fda19 16 = .ok (.aload_n 0, 1) := by decide +kernel
theorem dJ7_fill_fda19_17 : decode cJ7_fill_fda19 17 = .ok (.iload 4, 2) := by decide +kernel
theorem dJ7_fill_fda19_19 : decode cJ7_fill_fda19 19 = .ok (.iload_n 3, 1) := by decide +kernel
theorem dJ7_fill_fda19_20 : decode cJ7_fill_fda19 20 = .ok (.iastore, 1) := by decide +kernel
theorem dJ7_fill_fda19_21 : decode cJ7_fill_fda19 21 = .ok (.iinc 4 1, 3) := by decide +kernel
theorem dJ7_fill_fda19_24 : decode cJ7_fill_fda19 24 = .ok (.goto (-14), 3) := by decide +kernel
theorem dJ7_fill_fda19_27 : decode cJ7_fill_fda19 27 = .ok (.return_, 1) := by decide +kernel
def tJ7_fill_fda19_0 : Nat → Option am_Act := am_nd 12 (am_nd 4 (am_nd 2 (am_nd 1 (am_lf 0 (a_aload 0 1)) (am_lf 1 (a_alen tT 2))) (am_nd 3 (am_lf 2 (a_iload 1 3)) (am_lf 3 (a_iload 2 4)))) (am_nd 8 (am_nd 7 (am_lf 4 (a_csV mJ7_rangeCheck_23922 3 7)) (am_lf 7 (a_iload 1 8))) (am_nd 10 (am_lf 8 (a_istore 4 10)) (am_lf 10 (a_iload 4 12))))) (am_nd 19 (am_nd 16 (am_nd 13 (am_lf 12 (a_iload 2 13)) (am_lf 13 (a_cmp (fun x y => y ≤ x) 27 16))) (am_nd 17 (am_lf 16 (a_aload 0 17)) (am_lf 17 (a_iload 4 19)))) (am_nd 21 (am_nd 20 (am_lf 19 (a_iload 3 20)) (am_lf 20 (a_iast tT 21))) (am_nd 24 (am_lf 21 (a_iinc 4 (nI 1) 24)) (am_nd 27 (am_lf 24 (a_goto 10)) (am_lf 27 (a_ret))))))
theorem gJ7_fill_fda19_0 : am_Good tT mJ7_fill_fda19 tJ7_fill_fda19_0 := am_nd_ok (am_nd_ok (am_nd_ok (am_nd_ok (am_lf_ok (fun _ => ok_aload_n dJ7_fill_fda19_0 rfl rfl)) (am_lf_ok (fun _ => ok_alen dJ7_fill_fda19_1 rfl))) (am_nd_ok (am_lf_ok (fun _ => ok_iload_n dJ7_fill_fda19_2 rfl rfl)) (am_lf_ok (fun _ => ok_iload_n dJ7_fill_fda19_3 rfl rfl)))) (am_nd_ok (am_nd_ok (am_lf_ok (fun _ => ok_csV rfl mw_J7_rangeCheck_23922 wd_666 wd_667 dJ7_fill_fda19_4 rfl)) (am_lf_ok (fun _ => ok_iload_n dJ7_fill_fda19_7 rfl rfl))) (am_nd_ok (am_lf_ok (fun _ => ok_istore dJ7_fill_fda19_8 (Nat.le_of_ble_eq_true rfl) rfl)) (am_lf_ok (fun _ => ok_iload dJ7_fill_fda19_10 rfl))))) (am_nd_ok (am_nd_ok (am_nd_ok (am_lf_ok (fun _ => ok_iload_n dJ7_fill_fda19_12 rfl rfl)) (am_lf_ok (fun _ => ok_cmp_ge dJ7_fill_fda19_13 rfl rfl))) (am_nd_ok (am_lf_ok (fun _ => ok_aload_n dJ7_fill_fda19_16 rfl rfl)) (am_lf_ok (fun _ => ok_iload dJ7_fill_fda19_17 rfl)))) (am_nd_ok (am_nd_ok (am_lf_ok (fun _ => ok_iload_n dJ7_fill_fda19_19 rfl rfl)) (am_lf_ok (fun _ => ok_iast dJ7_fill_fda19_20 rfl))) (am_nd_ok (am_lf_ok (fun _ => ok_iinc dJ7_fill_fda19_21 cv_iconst_1 (Nat.le_of_ble_eq_true rfl) rfl)) (am_nd_ok (am_lf_ok (fun _ => ok_goto dJ7_fill_fda19_24 rfl)) (am_lf_ok (fun _ => ok_ret rfl dJ7_fill_fda19_27))))))
def tJ7_fill_fda19 : Nat → Option am_Act := tJ7_fill_fda19_0
theorem gJ7_fill_fda19 : am_Good tT mJ7_fill_fda19 tJ7_fill_fda19 := gJ7_fill_fda19_0
