/-! ===== code of TollOfNamesModel ===== -/
theorem dX12_feed_0 : decode cX12_feed 0 = .ok (.aload_n 0, 1) := by decide +kernel
theorem dX12_feed_1 : decode cX12_feed 1 = .ok (.getfield 97, 3) := by decide +kernel
theorem dX12_feed_4 : decode cX12_feed 4 = .ok (.bipush 20, 2) := by decide +kernel
theorem dX12_feed_6 : decode cX12_feed 6 = .ok (.iadd, 1) := by decide +kernel
theorem dX12_feed_7 : decode cX12_feed 7 = .ok (.sipush 400, 3) := by decide +kernel
theorem dX12_feed_10 : decode cX12_feed 10 = .ok (.if_icmp .le 5, 3) := by decide +kernel
theorem dX12_feed_13 : decode cX12_feed 13 = .ok (.iconst (-1), 1) := by decide +kernel
theorem dX12_feed_14 : decode cX12_feed 14 = .ok (.ireturn, 1) := by decide +kernel
theorem dX12_feed_15 : decode cX12_feed 15 = .ok (.iconst 0, 1) := by decide +kernel
theorem dX12_feed_16 : decode cX12_feed 16 = .ok (.istore 6, 2) := by decide +kernel
theorem dX12_feed_18 : decode cX12_feed 18 = .ok (.iload 6, 2) := by decide +kernel
theorem dX12_feed_20 : decode cX12_feed 20 = .ok (.bipush 20, 2) := by decide +kernel
theorem dX12_feed_22 : decode cX12_feed 22 = .ok (.if_icmp .ge 93, 3) := by decide +kernel
theorem dX12_feed_25 : decode cX12_feed 25 = .ok (.iload 6, 2) := by decide +kernel
theorem dX12_feed_27 : decode cX12_feed 27 = .ok (.iconst 4, 1) := by decide +kernel
theorem dX12_feed_28 : decode cX12_feed 28 = .ok (.if_icmp .ge 7, 3) := by decide +kernel
theorem dX12_feed_31 : decode cX12_feed 31 = .ok (.iload_n 1, 1) := by decide +kernel
theorem dX12_feed_32 : decode cX12_feed 32 = .ok (.goto 39, 3) := by decide +kernel
theorem dX12_feed_35 : decode cX12_feed 35 = .ok (.iload 6, 2) := by decide +kernel
theorem dX12_feed_37 : decode cX12_feed 37 = .ok (.bipush 8, 2) := by decide +kernel
theorem dX12_feed_39 : decode cX12_feed 39 = .ok (.if_icmp .ge 7, 3) := by decide +kernel
theorem dX12_feed_42 : decode cX12_feed 42 = .ok (.iload_n 2, 1) := by decide +kernel
theorem dX12_feed_43 : decode cX12_feed 43 = .ok (.goto 28, 3) := by decide +kernel
theorem dX12_feed_46 : decode cX12_feed 46 = .ok (.iload 6, 2) := by decide +kernel
theorem dX12_feed_48 : decode cX12_feed 48 = .ok (.bipush 12, 2) := by decide +kernel
theorem dX12_feed_50 : decode cX12_feed 50 = .ok (.if_icmp .ge 7, 3) := by decide +kernel
theorem dX12_feed_53 : decode cX12_feed 53 = .ok (.iload_n 3, 1) := by decide +kernel
theorem dX12_feed_54 : decode cX12_feed 54 = .ok (.goto 17, 3) := by decide +kernel
theorem dX12_feed_57 : decode cX12_feed 57 = .ok (.iload 6, 2) := by decide +kernel
theorem dX12_feed_59 : decode cX12_feed 59 = .ok (.bipush 16, 2) := by decide +kernel
theorem dX12_feed_61 : decode cX12_feed 61 = .ok (.if_icmp .ge 8, 3) := by decide +kernel
theorem dX12_feed_64 : decode cX12_feed 64 = .ok (.iload 4, 2) := by decide +kernel
theorem dX12_feed_66 : decode cX12_feed 66 = .ok (.goto 5, 3) := by decide +kernel
theorem dX12_feed_69 : decode cX12_feed 69 = .ok (.iload 5, 2) := by decide +kernel
theorem dX12_feed_71 : decode cX12_feed 71 = .ok (.istore 7, 2) := by decide +kernel
theorem dX12_feed_73 : decode cX12_feed 73 = .ok (.aload_n 0, 1) := by decide +kernel
theorem dX12_feed_74 : decode cX12_feed 74 = .ok (.getfield 28, 3) := by decide +kernel
theorem dX12_feed_77 : decode cX12_feed 77 = .ok (.aload_n 0, 1) := by decide +kernel
theorem dX12_feed_78 : decode cX12_feed 78 = .ok (.getfield 97, 3) := by decide +kernel
theorem dX12_feed_81 : decode cX12_feed 81 = .ok (.iload 7, 2) := by decide +kernel
theorem dX12_feed_83 : decode cX12_feed 83 = .ok (.bipush 24, 2) := by decide +kernel
theorem dX12_feed_85 : decode cX12_feed 85 = .ok (.bipush 8, 2) := by decide +kernel
theorem dX12_feed_87 : decode cX12_feed 87 = .ok (.iload 6, 2) := by decide +kernel
theorem dX12_feed_89 : decode cX12_feed 89 = .ok (.iconst 4, 1) := by decide +kernel
theorem dX12_feed_90 : decode cX12_feed 90 = .ok (.irem, 1) := by decide +kernel
theorem dX12_feed_91 : decode cX12_feed 91 = .ok (.imul, 1) := by decide +kernel
theorem dX12_feed_92 : decode cX12_feed 92 = .ok (.isub, 1) := by decide +kernel
theorem dX12_feed_93 : decode cX12_feed 93 = .ok (.ishr, 1) := by decide +kernel
theorem dX12_feed_94 : decode cX12_feed 94 = .ok (.sipush 255, 3) := by decide +kernel
theorem dX12_feed_97 : decode cX12_feed 97 = .ok (.iand, 1) := by decide +kernel
theorem dX12_feed_98 : decode cX12_feed 98 = .ok (.iastore, 1) := by decide +kernel
theorem dX12_feed_99 : decode cX12_feed 99 = .ok (.aload_n 0, 1) := by decide +kernel
theorem dX12_feed_100 : decode cX12_feed 100 = .ok (.dup, 1) := by decide +kernel
theorem dX12_feed_101 : decode cX12_feed 101 = .ok (.getfield 97, 3) := by decide +kernel
theorem dX12_feed_104 : decode cX12_feed 104 = .ok (.iconst 1, 1) := by decide +kernel
theorem dX12_feed_105 : decode cX12_feed 105 = .ok (.iadd, 1) := by decide +kernel
theorem dX12_feed_106 : decode cX12_feed 106 = .ok (.putfield 97, 3) := by decide +kernel
theorem dX12_feed_109 : decode cX12_feed 109 = .ok (.iinc 6 1, 3) := by decide +kernel
theorem dX12_feed_112 : decode cX12_feed 112 = .ok (.goto (-94), 3) := by decide +kernel
theorem dX12_feed_115 : decode cX12_feed 115 = .ok (.aload_n 0, 1) := by decide +kernel
theorem dX12_feed_116 : decode cX12_feed 116 = .ok (.getfield 97, 3) := by decide +kernel
theorem dX12_feed_119 : decode cX12_feed 119 = .ok (.ireturn, 1) := by decide +kernel
def tX12_feed_0 : Nat → Option am_Act := am_nd 22 (am_nd 13 (am_nd 6 (am_nd 1 (am_lf 0 (a_aload 0 1)) (am_nd 4 (am_lf 1 (a_get tT 12 13 4)) (am_lf 4 (a_const (nI 20) 6)))) (am_nd 7 (am_lf 6 (a_bin (fun x y => x + y) 7)) (am_nd 10 (am_lf 7 (a_const (nI 400) 10)) (am_lf 10 (a_cmp (fun x y => x ≤ y) 15 13))))) (am_nd 16 (am_nd 14 (am_lf 13 (a_const (-1) 14)) (am_nd 15 (am_lf 14 (a_iret)) (am_lf 15 (a_const (nI 0) 16)))) (am_nd 18 (am_lf 16 (a_istore 6 18)) (am_nd 20 (am_lf 18 (a_iload 6 20)) (am_lf 20 (a_const (nI 20) 22)))))) (am_nd 35 (am_nd 28 (am_nd 25 (am_lf 22 (a_cmp (fun x y => y ≤ x) 115 25)) (am_nd 27 (am_lf 25 (a_iload 6 27)) (am_lf 27 (a_const (nI 4) 28)))) (am_nd 31 (am_lf 28 (a_cmp (fun x y => y ≤ x) 35 31)) (am_nd 32 (am_lf 31 (a_iload 1 32)) (am_lf 32 (a_goto 71))))) (am_nd 42 (am_nd 37 (am_lf 35 (a_iload 6 37)) (am_nd 39 (am_lf 37 (a_const (nI 8) 39)) (am_lf 39 (a_cmp (fun x y => y ≤ x) 46 42)))) (am_nd 43 (am_lf 42 (a_iload 2 43)) (am_nd 46 (am_lf 43 (a_goto 71)) (am_lf 46 (a_iload 6 48))))))
theorem gX12_feed_0 : am_Good tT mX12_feed tX12_feed_0 := am_nd_ok (am_nd_ok (am_nd_ok (am_nd_ok (am_lf_ok (fun _ => ok_aload_n dX12_feed_0 rfl rfl)) (am_nd_ok (am_lf_ok (fun _ => ok_get (C := RX12) (TT := TX12) (N := 31) rfl inw_X12 (Nat.le_of_ble_eq_true rfl) wd_480 dX12_feed_1 rfl)) (am_lf_ok (fun _ => ok_bipush dX12_feed_4 cv_bipush_20 rfl)))) (am_nd_ok (am_lf_ok (fun _ => ok_iadd dX12_feed_6 rfl)) (am_nd_ok (am_lf_ok (fun _ => ok_sipush dX12_feed_7 cv_sipush_400 rfl)) (am_lf_ok (fun _ => ok_cmp_le dX12_feed_10 rfl rfl))))) (am_nd_ok (am_nd_ok (am_lf_ok (fun _ => ok_iconst dX12_feed_13 cv_iconst_m1 rfl)) (am_nd_ok (am_lf_ok (fun _ => ok_iret rfl dX12_feed_14)) (am_lf_ok (fun _ => ok_iconst dX12_feed_15 cv_iconst_0 rfl)))) (am_nd_ok (am_lf_ok (fun _ => ok_istore dX12_feed_16 (Nat.le_of_ble_eq_true rfl) rfl)) (am_nd_ok (am_lf_ok (fun _ => ok_iload dX12_feed_18 rfl)) (am_lf_ok (fun _ => ok_bipush dX12_feed_20 cv_bipush_20 rfl)))))) (am_nd_ok (am_nd_ok (am_nd_ok (am_lf_ok (fun _ => ok_cmp_ge dX12_feed_22 rfl rfl)) (am_nd_ok (am_lf_ok (fun _ => ok_iload dX12_feed_25 rfl)) (am_lf_ok (fun _ => ok_iconst dX12_feed_27 cv_iconst_4 rfl)))) (am_nd_ok (am_lf_ok (fun _ => ok_cmp_ge dX12_feed_28 rfl rfl)) (am_nd_ok (am_lf_ok (fun _ => ok_iload_n dX12_feed_31 rfl rfl)) (am_lf_ok (fun _ => ok_goto dX12_feed_32 rfl))))) (am_nd_ok (am_nd_ok (am_lf_ok (fun _ => ok_iload dX12_feed_35 rfl)) (am_nd_ok (am_lf_ok (fun _ => ok_bipush dX12_feed_37 cv_bipush_8 rfl)) (am_lf_ok (fun _ => ok_cmp_ge dX12_feed_39 rfl rfl)))) (am_nd_ok (am_lf_ok (fun _ => ok_iload_n dX12_feed_42 rfl rfl)) (am_nd_ok (am_lf_ok (fun _ => ok_goto dX12_feed_43 rfl)) (am_lf_ok (fun _ => ok_iload dX12_feed_46 rfl))))))
def tX12_feed_1 : Nat → Option am_Act := am_nd 74 (am_nd 61 (am_nd 54 (am_nd 50 (am_lf 48 (a_const (nI 12) 50)) (am_nd 53 (am_lf 50 (a_cmp (fun x y => y ≤ x) 57 53)) (am_lf 53 (a_iload 3 54)))) (am_nd 57 (am_lf 54 (a_goto 71)) (am_nd 59 (am_lf 57 (a_iload 6 59)) (am_lf 59 (a_const (nI 16) 61))))) (am_nd 69 (am_nd 64 (am_lf 61 (a_cmp (fun x y => y ≤ x) 69 64)) (am_nd 66 (am_lf 64 (a_iload 4 66)) (am_lf 66 (a_goto 71)))) (am_nd 71 (am_lf 69 (a_iload 5 71)) (am_nd 73 (am_lf 71 (a_istore 7 73)) (am_lf 73 (a_aload 0 74)))))) (am_nd 87 (am_nd 81 (am_nd 77 (am_lf 74 (a_get tT 12 8 77)) (am_nd 78 (am_lf 77 (a_aload 0 78)) (am_lf 78 (a_get tT 12 13 81)))) (am_nd 83 (am_lf 81 (a_iload 7 83)) (am_nd 85 (am_lf 83 (a_const (nI 24) 85)) (am_lf 85 (a_const (nI 8) 87))))) (am_nd 91 (am_nd 89 (am_lf 87 (a_iload 6 89)) (am_nd 90 (am_lf 89 (a_const (nI 4) 90)) (am_lf 90 (a_divr (fun x y => x - x / y * y) 91)))) (am_nd 92 (am_lf 91 (a_bin (fun x y => x * y) 92)) (am_nd 93 (am_lf 92 (a_bin (fun x y => x - y) 93)) (am_lf 93 (a_bin (fun x y => x >>> (y &&& 31)) 94))))))
theorem gX12_feed_1 : am_Good tT mX12_feed tX12_feed_1 := am_nd_ok (am_nd_ok (am_nd_ok (am_nd_ok (am_lf_ok (fun _ => ok_bipush dX12_feed_48 cv_bipush_12 rfl)) (am_nd_ok (am_lf_ok (fun _ => ok_cmp_ge dX12_feed_50 rfl rfl)) (am_lf_ok (fun _ => ok_iload_n dX12_feed_53 rfl rfl)))) (am_nd_ok (am_lf_ok (fun _ => ok_goto dX12_feed_54 rfl)) (am_nd_ok (am_lf_ok (fun _ => ok_iload dX12_feed_57 rfl)) (am_lf_ok (fun _ => ok_bipush dX12_feed_59 cv_bipush_16 rfl))))) (am_nd_ok (am_nd_ok (am_lf_ok (fun _ => ok_cmp_ge dX12_feed_61 rfl rfl)) (am_nd_ok (am_lf_ok (fun _ => ok_iload dX12_feed_64 rfl)) (am_lf_ok (fun _ => ok_goto dX12_feed_66 rfl)))) (am_nd_ok (am_lf_ok (fun _ => ok_iload dX12_feed_69 rfl)) (am_nd_ok (am_lf_ok (fun _ => ok_istore dX12_feed_71 (Nat.le_of_ble_eq_true rfl) rfl)) (am_lf_ok (fun _ => ok_aload_n dX12_feed_73 rfl rfl)))))) (am_nd_ok (am_nd_ok (am_nd_ok (am_lf_ok (fun _ => ok_get (C := RX12) (TT := TX12) (N := 31) rfl inw_X12 (Nat.le_of_ble_eq_true rfl) wd_481 dX12_feed_74 rfl)) (am_nd_ok (am_lf_ok (fun _ => ok_aload_n dX12_feed_77 rfl rfl)) (am_lf_ok (fun _ => ok_get (C := RX12) (TT := TX12) (N := 31) rfl inw_X12 (Nat.le_of_ble_eq_true rfl) wd_480 dX12_feed_78 rfl)))) (am_nd_ok (am_lf_ok (fun _ => ok_iload dX12_feed_81 rfl)) (am_nd_ok (am_lf_ok (fun _ => ok_bipush dX12_feed_83 cv_bipush_24 rfl)) (am_lf_ok (fun _ => ok_bipush dX12_feed_85 cv_bipush_8 rfl))))) (am_nd_ok (am_nd_ok (am_lf_ok (fun _ => ok_iload dX12_feed_87 rfl)) (am_nd_ok (am_lf_ok (fun _ => ok_iconst dX12_feed_89 cv_iconst_4 rfl)) (am_lf_ok (fun _ => ok_irem dX12_feed_90 rfl)))) (am_nd_ok (am_lf_ok (fun _ => ok_imul dX12_feed_91 rfl)) (am_nd_ok (am_lf_ok (fun _ => ok_isub dX12_feed_92 rfl)) (am_lf_ok (fun _ => ok_ishr dX12_feed_93 rfl))))))
def tX12_feed_2 : Nat → Option am_Act := am_nd 105 (am_nd 99 (am_nd 97 (am_lf 94 (a_const (nI 255) 97)) (am_nd 98 (am_lf 97 (a_bin (fun x y => x &&& y) 98)) (am_lf 98 (a_iast tT 99)))) (am_nd 101 (am_nd 100 (am_lf 99 (a_aload 0 100)) (am_lf 100 (a_dup 101))) (am_nd 104 (am_lf 101 (a_get tT 12 13 104)) (am_lf 104 (a_const (nI 1) 105))))) (am_nd 112 (am_nd 106 (am_lf 105 (a_bin (fun x y => x + y) 106)) (am_nd 109 (am_lf 106 (a_put tT 12 13 109)) (am_lf 109 (a_iinc 6 (nI 1) 112)))) (am_nd 116 (am_nd 115 (am_lf 112 (a_goto 18)) (am_lf 115 (a_aload 0 116))) (am_nd 119 (am_lf 116 (a_get tT 12 13 119)) (am_lf 119 (a_iret)))))
theorem gX12_feed_2 : am_Good tT mX12_feed tX12_feed_2 := am_nd_ok (am_nd_ok (am_nd_ok (am_lf_ok (fun _ => ok_sipush dX12_feed_94 cv_sipush_255 rfl)) (am_nd_ok (am_lf_ok (fun _ => ok_iand dX12_feed_97 rfl)) (am_lf_ok (fun _ => ok_iast dX12_feed_98 rfl)))) (am_nd_ok (am_nd_ok (am_lf_ok (fun _ => ok_aload_n dX12_feed_99 rfl rfl)) (am_lf_ok (fun _ => ok_dup dX12_feed_100 rfl))) (am_nd_ok (am_lf_ok (fun _ => ok_get (C := RX12) (TT := TX12) (N := 31) rfl inw_X12 (Nat.le_of_ble_eq_true rfl) wd_480 dX12_feed_101 rfl)) (am_lf_ok (fun _ => ok_iconst dX12_feed_104 cv_iconst_1 rfl))))) (am_nd_ok (am_nd_ok (am_lf_ok (fun _ => ok_iadd dX12_feed_105 rfl)) (am_nd_ok (am_lf_ok (fun _ => ok_put (C := RX12) (TT := TX12) (N := 31) (ty0 := tyX12) rfl inw_X12 tyX12_ok nmX12 (Nat.le_of_ble_eq_true rfl) rfl rfl wd_480 dX12_feed_106 rfl)) (am_lf_ok (fun _ => ok_iinc dX12_feed_109 cv_iconst_1 (Nat.le_of_ble_eq_true rfl) rfl)))) (am_nd_ok (am_nd_ok (am_lf_ok (fun _ => ok_goto dX12_feed_112 rfl)) (am_lf_ok (fun _ => ok_aload_n dX12_feed_115 rfl rfl))) (am_nd_ok (am_lf_ok (fun _ => ok_get (C := RX12) (TT := TX12) (N := 31) rfl inw_X12 (Nat.le_of_ble_eq_true rfl) wd_480 dX12_feed_116 rfl)) (am_lf_ok (fun _ => ok_iret rfl dX12_feed_119)))))
def tX12_feed : Nat → Option am_Act := am_nd 48 (tX12_feed_0) (am_nd 94 (tX12_feed_1) (tX12_feed_2))
theorem gX12_feed : am_Good tT mX12_feed tX12_feed := am_nd_ok (gX12_feed_0) (am_nd_ok (gX12_feed_1) (gX12_feed_2))
theorem dX12_end_0 : decode cX12_end 0 = .ok (.iload_n 1, 1) := by decide +kernel
theorem dX12_end_1 : decode cX12_end 1 = .ok (.iconst 0, 1) := by decide +kernel
theorem dX12_end_2 : decode cX12_end 2 = .ok (.aload_n 0, 1) := by decide +kernel
theorem dX12_end_3 : decode cX12_end 3 = .ok (.getfield 97, 3) := by decide +kernel
theorem dX12_end_6 : decode cX12_end 6 = .ok (.invokestatic 56, 3) := by decide +kernel
theorem dX12_end_9 : decode cX12_end 9 = .ok (.ifCond .ne 5, 3) := by decide +kernel
theorem dX12_end_12 : decode cX12_end 12 = .ok (.iconst 0, 1) := by decide +kernel
theorem dX12_end_13 : decode cX12_end 13 = .ok (.ireturn, 1) := by decide +kernel
theorem dX12_end_14 : decode cX12_end 14 = .ok (.aload_n 0, 1) := by decide +kernel
theorem dX12_end_15 : decode cX12_end 15 = .ok (.iload_n 1, 1) := by decide +kernel
theorem dX12_end_16 : decode cX12_end 16 = .ok (.putfield 97, 3) := by decide +kernel
theorem dX12_end_19 : decode cX12_end 19 = .ok (.iconst 1, 1) := by decide +kernel
theorem dX12_end_20 : decode cX12_end 20 = .ok (.ireturn, 1) := by decide +kernel
def tX12_end_0 : Nat → Option am_Act := am_nd 12 (am_nd 3 (am_nd 1 (am_lf 0 (a_iload 1 1)) (am_nd 2 (am_lf 1 (a_const (nI 0) 2)) (am_lf 2 (a_aload 0 3)))) (am_nd 6 (am_lf 3 (a_get tT 12 13 6)) (am_nd 9 (am_lf 6 (a_csI mX12_isIn 3 9)) (am_lf 9 (a_if (fun x => x = nI 0) 12 14))))) (am_nd 15 (am_nd 13 (am_lf 12 (a_const (nI 0) 13)) (am_nd 14 (am_lf 13 (a_zret)) (am_lf 14 (a_aload 0 15)))) (am_nd 19 (am_nd 16 (am_lf 15 (a_iload 1 16)) (am_lf 16 (a_put tT 12 13 19))) (am_nd 20 (am_lf 19 (a_const (nI 1) 20)) (am_lf 20 (a_zret)))))
theorem gX12_end_0 : am_Good tT mX12_end tX12_end_0 := am_nd_ok (am_nd_ok (am_nd_ok (am_lf_ok (fun _ => ok_iload_n dX12_end_0 rfl rfl)) (am_nd_ok (am_lf_ok (fun _ => ok_iconst dX12_end_1 cv_iconst_0 rfl)) (am_lf_ok (fun _ => ok_aload_n dX12_end_2 rfl rfl)))) (am_nd_ok (am_lf_ok (fun _ => ok_get (C := RX12) (TT := TX12) (N := 31) rfl inw_X12 (Nat.le_of_ble_eq_true rfl) wd_480 dX12_end_3 rfl)) (am_nd_ok (am_lf_ok (fun _ => ok_csI rfl mw_X12_isIn wd_449 wd_450 dX12_end_6 rfl)) (am_lf_ok (fun _ => ok_if_ne dX12_end_9 rfl rfl))))) (am_nd_ok (am_nd_ok (am_lf_ok (fun _ => ok_iconst dX12_end_12 cv_iconst_0 rfl)) (am_nd_ok (am_lf_ok (fun _ => ok_zret rfl dX12_end_13)) (am_lf_ok (fun _ => ok_aload_n dX12_end_14 rfl rfl)))) (am_nd_ok (am_nd_ok (am_lf_ok (fun _ => ok_iload_n dX12_end_15 rfl rfl)) (am_lf_ok (fun _ => ok_put (C := RX12) (TT := TX12) (N := 31) (ty0 := tyX12) rfl inw_X12 tyX12_ok nmX12 (Nat.le_of_ble_eq_true rfl) rfl rfl wd_480 dX12_end_16 rfl))) (am_nd_ok (am_lf_ok (fun _ => ok_iconst dX12_end_19 cv_iconst_1 rfl)) (am_lf_ok (fun _ => ok_zret rfl dX12_end_20)))))
def tX12_end : Nat → Option am_Act := tX12_end_0
theorem gX12_end : am_Good tT mX12_end tX12_end := gX12_end_0
theorem dX12_see_0 : decode cX12_see 0 = .ok (.iload_n 1, 1) := by decide +kernel
theorem dX12_see_1 : decode cX12_see 1 = .ok (.aload_n 0, 1) := by decide +kernel
theorem dX12_see_2 : decode cX12_see 2 = .ok (.getfield 97, 3) := by decide +kernel
theorem dX12_see_5 : decode cX12_see 5 = .ok (.if_icmp .ge 12, 3) := by decide +kernel
theorem dX12_see_8 : decode cX12_see 8 = .ok (.aload_n 0, 1) := by decide +kernel
theorem dX12_see_9 : decode cX12_see 9 = .ok (.getfield 28, 3) := by decide +kernel
theorem dX12_see_12 : decode cX12_see 12 = .ok (.iload_n 1, 1) := by decide +kernel
theorem dX12_see_13 : decode cX12_see 13 = .ok (.iaload, 1) := by decide +kernel
theorem dX12_see_14 : decode cX12_see 14 = .ok (.goto 4, 3) := by decide +kernel
theorem dX12_see_17 : decode cX12_see 17 = .ok (.iconst (-1), 1) := by decide +kernel
theorem dX12_see_18 : decode cX12_see 18 = .ok (.ireturn, 1) := by decide +kernel
def tX12_see_0 : Nat → Option am_Act := am_nd 9 (am_nd 2 (am_nd 1 (am_lf 0 (a_iload 1 1)) (am_lf 1 (a_aload 0 2))) (am_nd 5 (am_lf 2 (a_get tT 12 13 5)) (am_nd 8 (am_lf 5 (a_cmp (fun x y => y ≤ x) 17 8)) (am_lf 8 (a_aload 0 9))))) (am_nd 14 (am_nd 12 (am_lf 9 (a_get tT 12 8 12)) (am_nd 13 (am_lf 12 (a_iload 1 13)) (am_lf 13 (a_iald tT 14)))) (am_nd 17 (am_lf 14 (a_goto 18)) (am_nd 18 (am_lf 17 (a_const (-1) 18)) (am_lf 18 (a_iret)))))
theorem gX12_see_0 : am_Good tT mX12_see tX12_see_0 := am_nd_ok (am_nd_ok (am_nd_ok (am_lf_ok (fun _ => ok_iload_n dX12_see_0 rfl rfl)) (am_lf_ok (fun _ => ok_aload_n dX12_see_1 rfl rfl))) (am_nd_ok (am_lf_ok (fun _ => ok_get (C := RX12) (TT := TX12) (N := 31) rfl inw_X12 (Nat.le_of_ble_eq_true rfl) wd_480 dX12_see_2 rfl)) (am_nd_ok (am_lf_ok (fun _ => ok_cmp_ge dX12_see_5 rfl rfl)) (am_lf_ok (fun _ => ok_aload_n dX12_see_8 rfl rfl))))) (am_nd_ok (am_nd_ok (am_lf_ok (fun _ => ok_get (C := RX12) (TT := TX12) (N := 31) rfl inw_X12 (Nat.le_of_ble_eq_true rfl) wd_481 dX12_see_9 rfl)) (am_nd_ok (am_lf_ok (fun _ => ok_iload_n dX12_see_12 rfl rfl)) (am_lf_ok (fun _ => ok_iald dX12_see_13 rfl)))) (am_nd_ok (am_lf_ok (fun _ => ok_goto dX12_see_14 rfl)) (am_nd_ok (am_lf_ok (fun _ => ok_iconst dX12_see_17 cv_iconst_m1 rfl)) (am_lf_ok (fun _ => ok_iret rfl dX12_see_18)))))
def tX12_see : Nat → Option am_Act := tX12_see_0
theorem gX12_see : am_Good tT mX12_see tX12_see := gX12_see_0
theorem dX12_isLetter_0 : decode cX12_isLetter 0 = .ok (.iload_n 0, 1) := by decide +kernel
theorem dX12_isLetter_1 : decode cX12_isLetter 1 = .ok (.bipush 97, 2) := by decide +kernel
theorem dX12_isLetter_3 : decode cX12_isLetter 3 = .ok (.bipush 122, 2) := by decide +kernel
theorem dX12_isLetter_5 : decode cX12_isLetter 5 = .ok (.invokestatic 56, 3) := by decide +kernel
theorem dX12_isLetter_8 : decode cX12_isLetter 8 = .ok (.ifCond .ne 14, 3) := by decide +kernel
theorem dX12_isLetter_11 : decode cX12_isLetter 11 = .ok (.iload_n 0, 1) := by decide +kernel
theorem dX12_isLetter_12 : decode cX12_isLetter 12 = .ok (.bipush 65, 2) := by decide +kernel
theorem dX12_isLetter_14 : decode cX12_isLetter 14 = .ok (.bipush 90, 2) := by decide +kernel
theorem dX12_isLetter_16 : decode cX12_isLetter 16 = .ok (.invokestatic 56, 3) := by decide +kernel
theorem dX12_isLetter_19 : decode cX12_isLetter 19 = .ok (.ifCond .eq 7, 3) := by decide +kernel
theorem dX12_isLetter_22 : decode cX12_isLetter 22 = .ok (.iconst 1, 1) := by decide +kernel
theorem dX12_isLetter_23 : decode cX12_isLetter 23 = .ok (.goto 4, 3) := by decide +kernel
theorem dX12_isLetter_26 : decode cX12_isLetter 26 = .ok (.iconst 0, 1) := by decide +kernel
theorem dX12_isLetter_27 : decode cX12_isLetter 27 = .ok (.ireturn, 1) := by decide +kernel
def tX12_isLetter_0 : Nat → Option am_Act := am_nd 14 (am_nd 5 (am_nd 1 (am_lf 0 (a_iload 0 1)) (am_nd 3 (am_lf 1 (a_const (nI 97) 3)) (am_lf 3 (a_const (nI 122) 5)))) (am_nd 11 (am_nd 8 (am_lf 5 (a_csI mX12_isIn 3 8)) (am_lf 8 (a_if (fun x => x = nI 0) 11 22))) (am_nd 12 (am_lf 11 (a_iload 0 12)) (am_lf 12 (a_const (nI 65) 14))))) (am_nd 22 (am_nd 16 (am_lf 14 (a_const (nI 90) 16)) (am_nd 19 (am_lf 16 (a_csI mX12_isIn 3 19)) (am_lf 19 (a_if (fun x => x = nI 0) 26 22)))) (am_nd 26 (am_nd 23 (am_lf 22 (a_const (nI 1) 23)) (am_lf 23 (a_goto 27))) (am_nd 27 (am_lf 26 (a_const (nI 0) 27)) (am_lf 27 (a_zret)))))
theorem gX12_isLetter_0 : am_Good tT mX12_isLetter tX12_isLetter_0 := am_nd_ok (am_nd_ok (am_nd_ok (am_lf_ok (fun _ => ok_iload_n dX12_isLetter_0 rfl rfl)) (am_nd_ok (am_lf_ok (fun _ => ok_bipush dX12_isLetter_1 cv_bipush_97 rfl)) (am_lf_ok (fun _ => ok_bipush dX12_isLetter_3 cv_bipush_122 rfl)))) (am_nd_ok (am_nd_ok (am_lf_ok (fun _ => ok_csI rfl mw_X12_isIn wd_449 wd_450 dX12_isLetter_5 rfl)) (am_lf_ok (fun _ => ok_if_ne dX12_isLetter_8 rfl rfl))) (am_nd_ok (am_lf_ok (fun _ => ok_iload_n dX12_isLetter_11 rfl rfl)) (am_lf_ok (fun _ => ok_bipush dX12_isLetter_12 cv_bipush_65 rfl))))) (am_nd_ok (am_nd_ok (am_lf_ok (fun _ => ok_bipush dX12_isLetter_14 cv_bipush_90 rfl)) (am_nd_ok (am_lf_ok (fun _ => ok_csI rfl mw_X12_isIn wd_449 wd_450 dX12_isLetter_16 rfl)) (am_lf_ok (fun _ => ok_if_eq dX12_isLetter_19 rfl rfl)))) (am_nd_ok (am_nd_ok (am_lf_ok (fun _ => ok_iconst dX12_isLetter_22 cv_iconst_1 rfl)) (am_lf_ok (fun _ => ok_goto dX12_isLetter_23 rfl))) (am_nd_ok (am_lf_ok (fun _ => ok_iconst dX12_isLetter_26 cv_iconst_0 rfl)) (am_lf_ok (fun _ => ok_zret rfl dX12_isLetter_27)))))
def tX12_isLetter : Nat → Option am_Act := tX12_isLetter_0
theorem gX12_isLetter : am_Good tT mX12_isLetter tX12_isLetter := gX12_isLetter_0
theorem dX12_isDigit_0 : decode cX12_isDigit 0 = .ok (.iload_n 0, 1) := by decide +kernel
theorem dX12_isDigit_1 : decode cX12_isDigit 1 = .ok (.bipush 48, 2) := by decide +kernel
theorem dX12_isDigit_3 : decode cX12_isDigit 3 = .ok (.bipush 57, 2) := by decide +kernel
theorem dX12_isDigit_5 : decode cX12_isDigit 5 = .ok (.invokestatic 56, 3) := by decide +kernel
theorem dX12_isDigit_8 : decode cX12_isDigit 8 = .ok (.ireturn, 1) := by decide +kernel
def tX12_isDigit_0 : Nat → Option am_Act := am_nd 3 (am_nd 1 (am_lf 0 (a_iload 0 1)) (am_lf 1 (a_const (nI 48) 3))) (am_nd 5 (am_lf 3 (a_const (nI 57) 5)) (am_nd 8 (am_lf 5 (a_csI mX12_isIn 3 8)) (am_lf 8 (a_zret))))
theorem gX12_isDigit_0 : am_Good tT mX12_isDigit tX12_isDigit_0 := am_nd_ok (am_nd_ok (am_lf_ok (fun _ => ok_iload_n dX12_isDigit_0 rfl rfl)) (am_lf_ok (fun _ => ok_bipush dX12_isDigit_1 cv_bipush_48 rfl))) (am_nd_ok (am_lf_ok (fun _ => ok_bipush dX12_isDigit_3 cv_bipush_57 rfl)) (am_nd_ok (am_lf_ok (fun _ => ok_csI rfl mw_X12_isIn wd_449 wd_450 dX12_isDigit_5 rfl)) (am_lf_ok (fun _ => ok_zret rfl dX12_isDigit_8))))
def tX12_isDigit : Nat → Option am_Act := tX12_isDigit_0
theorem gX12_isDigit : am_Good tT mX12_isDigit tX12_isDigit := gX12_isDigit_0
theorem dX12_is_0 : decode cX12_is 0 = .ok (.aload_n 0, 1) := by decide +kernel
theorem dX12_is_1 : decode cX12_is 1 = .ok (.getfield 100, 3) := by decide +kernel
theorem dX12_is_4 : decode cX12_is 4 = .ok (.aload_n 0, 1) := by decide +kernel
theorem dX12_is_5 : decode cX12_is 5 = .ok (.getfield 103, 3) := by decide +kernel
theorem dX12_is_8 : decode cX12_is 8 = .ok (.isub, 1) := by decide +kernel
theorem dX12_is_9 : decode cX12_is 9 = .ok (.aload_n 1, 1) := by decide +kernel
theorem dX12_is_10 : decode cX12_is 10 = .ok (.invokevirtual 106, 3) := by decide +kernel
theorem dX12_is_13 : decode cX12_is 13 = .ok (.if_icmp .ne 7, 3) := by decide +kernel
theorem dX12_is_16 : decode cX12_is 16 = .ok (.iconst 1, 1) := by decide +kernel
theorem dX12_is_17 : decode cX12_is 17 = .ok (.goto 4, 3) := by decide +kernel
theorem dX12_is_20 : decode cX12_is 20 = .ok (.iconst 0, 1) := by decide +kernel
theorem dX12_is_21 : decode cX12_is 21 = .ok (.istore_n 2, 1) := by decide +kernel
theorem dX12_is_22 : decode cX12_is 22 = .ok (.iconst 0, 1) := by decide +kernel
theorem dX12_is_23 : decode cX12_is 23 = .ok (.istore_n 3, 1) := by decide +kernel
theorem dX12_is_24 : decode cX12_is 24 = .ok (.iload_n 3, 1) := by decide +kernel
theorem dX12_is_25 : decode cX12_is 25 = .ok (.aload_n 1, 1) := by decide +kernel
theorem dX12_is_26 : decode cX12_is 26 = .ok (.invokevirtual 106, 3) := by decide +kernel
theorem dX12_is_29 : decode cX12_is 29 = .ok (.if_icmp .ge 38, 3) := by decide +kernel
theorem dX12_is_32 : decode cX12_is 32 = .ok (.iload_n 2, 1) := by decide +kernel
theorem dX12_is_33 : decode cX12_is 33 = .ok (.ifCond .eq 34, 3) := by decide +kernel
theorem dX12_is_36 : decode cX12_is 36 = .ok (.aload_n 0, 1) := by decide +kernel
theorem dX12_is_37 : decode cX12_is 37 = .ok (.getfield 28, 3) := by decide +kernel
theorem dX12_is_40 : decode cX12_is 40 = .ok (.aload_n 0, 1) := by decide +kernel
theorem dX12_is_41 : decode cX12_is 41 = .ok (.getfield 103, 3) := by decide +kernel
theorem dX12_is_44 : decode cX12_is 44 = .ok (.iload_n 3, 1) := by decide +kernel
theorem dX12_is_45 : decode cX12_is 45 = .ok (.iadd, 1) := by decide +kernel
theorem dX12_is_46 : decode cX12_is 46 = .ok (.iaload, 1) := by decide +kernel
theorem dX12_is_47 : decode cX12_is 47 = .ok (.aload_n 1, 1) := by decide +kernel
theorem dX12_is_48 : decode cX12_is 48 = .ok (.iload_n 3, 1) := by decide +kernel
theorem dX12_is_49 : decode cX12_is 49 = .ok (.invokevirtual 112, 3) := by decide +kernel
theorem dX12_is_52 : decode cX12_is 52 = .ok (.if_icmp .ne 7, 3) := by decide +kernel
theorem dX12_is_55 : decode cX12_is 55 = .ok (.iconst 1, 1) := by decide +kernel
theorem dX12_is_56 : decode cX12_is 56 = .ok (.goto 4, 3) := by decide +kernel
theorem dX12_is_59 : decode cX12_is 59 = .ok (.iconst 0, 1) := by decide +kernel
theorem dX12_is_60 : decode cX12_is 60 = .ok (.istore_n 2, 1) := by decide +kernel
theorem dX12_is_61 : decode cX12_is 61 = .ok (.iinc 3 1, 3) := by decide +kernel
theorem dX12_is_64 : decode cX12_is 64 = .ok (.goto (-40), 3) := by decide +kernel
theorem dX12_is_67 : decode cX12_is 67 = .ok (.iload_n 2, 1) := by decide +kernel
theorem dX12_is_68 : decode cX12_is 68 = .ok (.ireturn, 1) := by decide +kernel
def tX12_is_0 : Nat → Option am_Act := am_nd 22 (am_nd 10 (am_nd 5 (am_nd 1 (am_lf 0 (a_aload 0 1)) (am_nd 4 (am_lf 1 (a_get tT 12 14 4)) (am_lf 4 (a_aload 0 5)))) (am_nd 8 (am_lf 5 (a_get tT 12 16 8)) (am_nd 9 (am_lf 8 (a_bin (fun x y => x - y) 9)) (am_lf 9 (a_aload 1 10))))) (am_nd 17 (am_nd 13 (am_lf 10 (a_cvS tT mJ0_length_8abf5 0 13)) (am_nd 16 (am_lf 13 (a_cmp (fun x y => x = y) 16 20)) (am_lf 16 (a_const (nI 1) 17)))) (am_nd 20 (am_lf 17 (a_goto 21)) (am_nd 21 (am_lf 20 (a_const (nI 0) 21)) (am_lf 21 (a_istore 2 22)))))) (am_nd 32 (am_nd 25 (am_nd 23 (am_lf 22 (a_const (nI 0) 23)) (am_nd 24 (am_lf 23 (a_istore 3 24)) (am_lf 24 (a_iload 3 25)))) (am_nd 26 (am_lf 25 (a_aload 1 26)) (am_nd 29 (am_lf 26 (a_cvS tT mJ0_length_8abf5 0 29)) (am_lf 29 (a_cmp (fun x y => y ≤ x) 67 32))))) (am_nd 37 (am_nd 33 (am_lf 32 (a_iload 2 33)) (am_nd 36 (am_lf 33 (a_if (fun x => x = nI 0) 67 36)) (am_lf 36 (a_aload 0 37)))) (am_nd 40 (am_lf 37 (a_get tT 12 8 40)) (am_nd 41 (am_lf 40 (a_aload 0 41)) (am_lf 41 (a_get tT 12 16 44))))))
theorem gX12_is_0 : am_Good tT mX12_is tX12_is_0 := am_nd_ok (am_nd_ok (am_nd_ok (am_nd_ok (am_lf_ok (fun _ => ok_aload_n dX12_is_0 rfl rfl)) (am_nd_ok (am_lf_ok (fun _ => ok_get (C := RX12) (TT := TX12) (N := 31) rfl inw_X12 (Nat.le_of_ble_eq_true rfl) wd_482 dX12_is_1 rfl)) (am_lf_ok (fun _ => ok_aload_n dX12_is_4 rfl rfl)))) (am_nd_ok (am_lf_ok (fun _ => ok_get (C := RX12) (TT := TX12) (N := 31) rfl inw_X12 (Nat.le_of_ble_eq_true rfl) wd_483 dX12_is_5 rfl)) (am_nd_ok (am_lf_ok (fun _ => ok_isub dX12_is_8 rfl)) (am_lf_ok (fun _ => ok_aload_n dX12_is_9 rfl rfl))))) (am_nd_ok (am_nd_ok (am_lf_ok (fun _ => ok_cvS rfl mw_J0_length_8abf5 rfl wd_484 wd_143 wd_144 dX12_is_10 rfl)) (am_nd_ok (am_lf_ok (fun _ => ok_cmp_ne dX12_is_13 rfl rfl)) (am_lf_ok (fun _ => ok_iconst dX12_is_16 cv_iconst_1 rfl)))) (am_nd_ok (am_lf_ok (fun _ => ok_goto dX12_is_17 rfl)) (am_nd_ok (am_lf_ok (fun _ => ok_iconst dX12_is_20 cv_iconst_0 rfl)) (am_lf_ok (fun _ => ok_istore_n dX12_is_21 rfl (Nat.le_of_ble_eq_true rfl) rfl)))))) (am_nd_ok (am_nd_ok (am_nd_ok (am_lf_ok (fun _ => ok_iconst dX12_is_22 cv_iconst_0 rfl)) (am_nd_ok (am_lf_ok (fun _ => ok_istore_n dX12_is_23 rfl (Nat.le_of_ble_eq_true rfl) rfl)) (am_lf_ok (fun _ => ok_iload_n dX12_is_24 rfl rfl)))) (am_nd_ok (am_lf_ok (fun _ => ok_aload_n dX12_is_25 rfl rfl)) (am_nd_ok (am_lf_ok (fun _ => ok_cvS rfl mw_J0_length_8abf5 rfl wd_484 wd_143 wd_144 dX12_is_26 rfl)) (am_lf_ok (fun _ => ok_cmp_ge dX12_is_29 rfl rfl))))) (am_nd_ok (am_nd_ok (am_lf_ok (fun _ => ok_iload_n dX12_is_32 rfl rfl)) (am_nd_ok (am_lf_ok (fun _ => ok_if_eq dX12_is_33 rfl rfl)) (am_lf_ok (fun _ => ok_aload_n dX12_is_36 rfl rfl)))) (am_nd_ok (am_lf_ok (fun _ => ok_get (C := RX12) (TT := TX12) (N := 31) rfl inw_X12 (Nat.le_of_ble_eq_true rfl) wd_481 dX12_is_37 rfl)) (am_nd_ok (am_lf_ok (fun _ => ok_aload_n dX12_is_40 rfl rfl)) (am_lf_ok (fun _ => ok_get (C := RX12) (TT := TX12) (N := 31) rfl inw_X12 (Nat.le_of_ble_eq_true rfl) wd_483 dX12_is_41 rfl))))))
def tX12_is_1 : Nat → Option am_Act := am_nd 55 (am_nd 47 (am_nd 45 (am_lf 44 (a_iload 3 45)) (am_nd 46 (am_lf 45 (a_bin (fun x y => x + y) 46)) (am_lf 46 (a_iald tT 47)))) (am_nd 49 (am_nd 48 (am_lf 47 (a_aload 1 48)) (am_lf 48 (a_iload 3 49))) (am_nd 52 (am_lf 49 (a_cvS tT mJ0_charAt_5068e 1 52)) (am_lf 52 (a_cmp (fun x y => x = y) 55 59))))) (am_nd 61 (am_nd 59 (am_nd 56 (am_lf 55 (a_const (nI 1) 56)) (am_lf 56 (a_goto 60))) (am_nd 60 (am_lf 59 (a_const (nI 0) 60)) (am_lf 60 (a_istore 2 61)))) (am_nd 67 (am_nd 64 (am_lf 61 (a_iinc 3 (nI 1) 64)) (am_lf 64 (a_goto 24))) (am_nd 68 (am_lf 67 (a_iload 2 68)) (am_lf 68 (a_zret)))))
theorem gX12_is_1 : am_Good tT mX12_is tX12_is_1 := am_nd_ok (am_nd_ok (am_nd_ok (am_lf_ok (fun _ => ok_iload_n dX12_is_44 rfl rfl)) (am_nd_ok (am_lf_ok (fun _ => ok_iadd dX12_is_45 rfl)) (am_lf_ok (fun _ => ok_iald dX12_is_46 rfl)))) (am_nd_ok (am_nd_ok (am_lf_ok (fun _ => ok_aload_n dX12_is_47 rfl rfl)) (am_lf_ok (fun _ => ok_iload_n dX12_is_48 rfl rfl))) (am_nd_ok (am_lf_ok (fun _ => ok_cvS rfl mw_J0_charAt_5068e rfl wd_485 wd_146 wd_147 dX12_is_49 rfl)) (am_lf_ok (fun _ => ok_cmp_ne dX12_is_52 rfl rfl))))) (am_nd_ok (am_nd_ok (am_nd_ok (am_lf_ok (fun _ => ok_iconst dX12_is_55 cv_iconst_1 rfl)) (am_lf_ok (fun _ => ok_goto dX12_is_56 rfl))) (am_nd_ok (am_lf_ok (fun _ => ok_iconst dX12_is_59 cv_iconst_0 rfl)) (am_lf_ok (fun _ => ok_istore_n dX12_is_60 rfl (Nat.le_of_ble_eq_true rfl) rfl)))) (am_nd_ok (am_nd_ok (am_lf_ok (fun _ => ok_iinc dX12_is_61 cv_iconst_1 (Nat.le_of_ble_eq_true rfl) rfl)) (am_lf_ok (fun _ => ok_goto dX12_is_64 rfl))) (am_nd_ok (am_lf_ok (fun _ => ok_iload_n dX12_is_67 rfl rfl)) (am_lf_ok (fun _ => ok_zret rfl dX12_is_68)))))
def tX12_is : Nat → Option am_Act := am_nd 44 (tX12_is_0) (tX12_is_1)
theorem gX12_is : am_Good tT mX12_is tX12_is := am_nd_ok (gX12_is_0) (gX12_is_1)
theorem dX12_nameWord_0 : decode cX12_nameWord 0 = .ok (.aload_n 0, 1) := by decide +kernel
theorem dX12_nameWord_1 : decode cX12_nameWord 1 = .ok (.ldc 116, 2) := by decide +kernel
theorem dX12_nameWord_3 : decode cX12_nameWord 3 = .ok (.invokevirtual 118, 3) := by decide +kernel
theorem dX12_nameWord_6 : decode cX12_nameWord 6 = .ok (.ifCond .eq 6, 3) := by decide +kernel
theorem dX12_nameWord_9 : decode cX12_nameWord 9 = .ok (.bipush 41, 2) := by decide +kernel
theorem dX12_nameWord_11 : decode cX12_nameWord 11 = .ok (.ireturn, 1) := by decide +kernel
theorem dX12_nameWord_12 : decode cX12_nameWord 12 = .ok (.aload_n 0, 1) := by decide +kernel
theorem dX12_nameWord_13 : decode cX12_nameWord 13 = .ok (.ldc 122, 2) := by decide +kernel
theorem dX12_nameWord_15 : decode cX12_nameWord 15 = .ok (.invokevirtual 118, 3) := by decide +kernel
theorem dX12_nameWord_18 : decode cX12_nameWord 18 = .ok (.ifCond .eq 6, 3) := by decide +kernel
theorem dX12_nameWord_21 : decode cX12_nameWord 21 = .ok (.bipush 42, 2) := by decide +kernel
theorem dX12_nameWord_23 : decode cX12_nameWord 23 = .ok (.ireturn, 1) := by decide +kernel
theorem dX12_nameWord_24 : decode cX12_nameWord 24 = .ok (.aload_n 0, 1) := by decide +kernel
theorem dX12_nameWord_25 : decode cX12_nameWord 25 = .ok (.ldc 124, 2) := by decide +kernel
theorem dX12_nameWord_27 : decode cX12_nameWord 27 = .ok (.invokevirtual 118, 3) := by decide +kernel
theorem dX12_nameWord_30 : decode cX12_nameWord 30 = .ok (.ifCond .eq 6, 3) := by decide +kernel
theorem dX12_nameWord_33 : decode cX12_nameWord 33 = .ok (.bipush 43, 2) := by decide +kernel
theorem dX12_nameWord_35 : decode cX12_nameWord 35 = .ok (.ireturn, 1) := by decide +kernel
theorem dX12_nameWord_36 : decode cX12_nameWord 36 = .ok (.aload_n 0, 1) := by decide +kernel
theorem dX12_nameWord_37 : decode cX12_nameWord 37 = .ok (.ldc 126, 2) := by decide +kernel
theorem dX12_nameWord_39 : decode cX12_nameWord 39 = .ok (.invokevirtual 118, 3) := by decide +kernel
theorem dX12_nameWord_42 : decode cX12_nameWord 42 = .ok (.ifCond .eq 6, 3) := by decide +kernel
theorem dX12_nameWord_45 : decode cX12_nameWord 45 = .ok (.bipush 44, 2) := by decide +kernel
theorem dX12_nameWord_47 : decode cX12_nameWord 47 = .ok (.ireturn, 1) := by decide +kernel
theorem dX12_nameWord_48 : decode cX12_nameWord 48 = .ok (.aload_n 0, 1) := by decide +kernel
theorem dX12_nameWord_49 : decode cX12_nameWord 49 = .ok (.ldc 128, 2) := by decide +kernel
theorem dX12_nameWord_51 : decode cX12_nameWord 51 = .ok (.invokevirtual 118, 3) := by decide +kernel
theorem dX12_nameWord_54 : decode cX12_nameWord 54 = .ok (.ifCond .eq 6, 3) := by decide +kernel
theorem dX12_nameWord_57 : decode cX12_nameWord 57 = .ok (.bipush 45, 2) := by decide +kernel
theorem dX12_nameWord_59 : decode cX12_nameWord 59 = .ok (.ireturn, 1) := by decide +kernel
theorem dX12_nameWord_60 : decode cX12_nameWord 60 = .ok (.aload_n 0, 1) := by decide +kernel
theorem dX12_nameWord_61 : decode cX12_nameWord 61 = .ok (.ldc 130, 2) := by decide +kernel
theorem dX12_nameWord_63 : decode cX12_nameWord 63 = .ok (.invokevirtual 118, 3) := by decide +kernel
theorem dX12_nameWord_66 : decode cX12_nameWord 66 = .ok (.ifCond .eq 6, 3) := by decide +kernel
theorem dX12_nameWord_69 : decode cX12_nameWord 69 = .ok (.bipush 46, 2) := by decide +kernel
theorem dX12_nameWord_71 : decode cX12_nameWord 71 = .ok (.ireturn, 1) := by decide +kernel
theorem dX12_nameWord_72 : decode cX12_nameWord 72 = .ok (.aload_n 0, 1) := by decide +kernel
theorem dX12_nameWord_73 : decode cX12_nameWord 73 = .ok (.ldc 132, 2) := by decide +kernel
theorem dX12_nameWord_75 : decode cX12_nameWord 75 = .ok (.invokevirtual 118, 3) := by decide +kernel
theorem dX12_nameWord_78 : decode cX12_nameWord 78 = .ok (.ifCond .eq 6, 3) := by decide +kernel
theorem dX12_nameWord_81 : decode cX12_nameWord 81 = .ok (.bipush 47, 2) := by decide +kernel
theorem dX12_nameWord_83 : decode cX12_nameWord 83 = .ok (.ireturn, 1) := by decide +kernel
theorem dX12_nameWord_84 : decode cX12_nameWord 84 = .ok (.aload_n 0, 1) := by decide +kernel
theorem dX12_nameWord_85 : decode cX12_nameWord 85 = .ok (.ldc 134, 2) := by decide +kernel
theorem dX12_nameWord_87 : decode cX12_nameWord 87 = .ok (.invokevirtual 118, 3) := by decide +kernel
theorem dX12_nameWord_90 : decode cX12_nameWord 90 = .ok (.ifCond .eq 8, 3) := by decide +kernel
theorem dX12_nameWord_93 : decode cX12_nameWord 93 = .ok (.bipush 48, 2) := by decide +kernel
theorem dX12_nameWord_95 : decode cX12_nameWord 95 = .ok (.goto 4, 3) := by decide +kernel
theorem dX12_nameWord_98 : decode cX12_nameWord 98 = .ok (.iconst 1, 1) := by decide +kernel
theorem dX12_nameWord_99 : decode cX12_nameWord 99 = .ok (.ireturn, 1) := by decide +kernel
def tX12_nameWord_0 : Nat → Option am_Act := am_nd 24 (am_nd 12 (am_nd 6 (am_nd 1 (am_lf 0 (a_aload 0 1)) (am_nd 3 (am_lf 1 (a_ldS 8 3)) (am_lf 3 (a_cvI tT mX12_is 12 1 6)))) (am_nd 9 (am_lf 6 (a_if (fun x => x = nI 0) 12 9)) (am_nd 11 (am_lf 9 (a_const (nI 41) 11)) (am_lf 11 (a_iret))))) (am_nd 18 (am_nd 13 (am_lf 12 (a_aload 0 13)) (am_nd 15 (am_lf 13 (a_ldS 9 15)) (am_lf 15 (a_cvI tT mX12_is 12 1 18)))) (am_nd 21 (am_lf 18 (a_if (fun x => x = nI 0) 24 21)) (am_nd 23 (am_lf 21 (a_const (nI 42) 23)) (am_lf 23 (a_iret)))))) (am_nd 36 (am_nd 30 (am_nd 25 (am_lf 24 (a_aload 0 25)) (am_nd 27 (am_lf 25 (a_ldS 10 27)) (am_lf 27 (a_cvI tT mX12_is 12 1 30)))) (am_nd 33 (am_lf 30 (a_if (fun x => x = nI 0) 36 33)) (am_nd 35 (am_lf 33 (a_const (nI 43) 35)) (am_lf 35 (a_iret))))) (am_nd 42 (am_nd 37 (am_lf 36 (a_aload 0 37)) (am_nd 39 (am_lf 37 (a_ldS 11 39)) (am_lf 39 (a_cvI tT mX12_is 12 1 42)))) (am_nd 45 (am_lf 42 (a_if (fun x => x = nI 0) 48 45)) (am_nd 47 (am_lf 45 (a_const (nI 44) 47)) (am_lf 47 (a_iret))))))
theorem gX12_nameWord_0 : am_Good tT mX12_nameWord tX12_nameWord_0 := am_nd_ok (am_nd_ok (am_nd_ok (am_nd_ok (am_lf_ok (fun _ => ok_aload_n dX12_nameWord_0 rfl rfl)) (am_nd_ok (am_lf_ok (fun _ => ok_ldS (tx := "kind") (List.mem_of_getElem? (i := 8) rfl) dX12_nameWord_1 rfl)) (am_lf_ok (fun _ => ok_cvI rfl mw_X12_is (ci := 12) rfl rfl wd_486 wd_487 wd_488 dX12_nameWord_3 rfl)))) (am_nd_ok (am_lf_ok (fun _ => ok_if_eq dX12_nameWord_6 rfl rfl)) (am_nd_ok (am_lf_ok (fun _ => ok_bipush dX12_nameWord_9 cv_bipush_41 rfl)) (am_lf_ok (fun _ => ok_iret rfl dX12_nameWord_11))))) (am_nd_ok (am_nd_ok (am_lf_ok (fun _ => ok_aload_n dX12_nameWord_12 rfl rfl)) (am_nd_ok (am_lf_ok (fun _ => ok_ldS (tx := "letters") (List.mem_of_getElem? (i := 9) rfl) dX12_nameWord_13 rfl)) (am_lf_ok (fun _ => ok_cvI rfl mw_X12_is (ci := 12) rfl rfl wd_486 wd_487 wd_488 dX12_nameWord_15 rfl)))) (am_nd_ok (am_lf_ok (fun _ => ok_if_eq dX12_nameWord_18 rfl rfl)) (am_nd_ok (am_lf_ok (fun _ => ok_bipush dX12_nameWord_21 cv_bipush_42 rfl)) (am_lf_ok (fun _ => ok_iret rfl dX12_nameWord_23)))))) (am_nd_ok (am_nd_ok (am_nd_ok (am_lf_ok (fun _ => ok_aload_n dX12_nameWord_24 rfl rfl)) (am_nd_ok (am_lf_ok (fun _ => ok_ldS (tx := "names") (List.mem_of_getElem? (i := 10) rfl) dX12_nameWord_25 rfl)) (am_lf_ok (fun _ => ok_cvI rfl mw_X12_is (ci := 12) rfl rfl wd_486 wd_487 wd_488 dX12_nameWord_27 rfl)))) (am_nd_ok (am_lf_ok (fun _ => ok_if_eq dX12_nameWord_30 rfl rfl)) (am_nd_ok (am_lf_ok (fun _ => ok_bipush dX12_nameWord_33 cv_bipush_43 rfl)) (am_lf_ok (fun _ => ok_iret rfl dX12_nameWord_35))))) (am_nd_ok (am_nd_ok (am_lf_ok (fun _ => ok_aload_n dX12_nameWord_36 rfl rfl)) (am_nd_ok (am_lf_ok (fun _ => ok_ldS (tx := "order") (List.mem_of_getElem? (i := 11) rfl) dX12_nameWord_37 rfl)) (am_lf_ok (fun _ => ok_cvI rfl mw_X12_is (ci := 12) rfl rfl wd_486 wd_487 wd_488 dX12_nameWord_39 rfl)))) (am_nd_ok (am_lf_ok (fun _ => ok_if_eq dX12_nameWord_42 rfl rfl)) (am_nd_ok (am_lf_ok (fun _ => ok_bipush dX12_nameWord_45 cv_bipush_44 rfl)) (am_lf_ok (fun _ => ok_iret rfl dX12_nameWord_47))))))
def tX12_nameWord_1 : Nat → Option am_Act := am_nd 72 (am_nd 60 (am_nd 54 (am_nd 49 (am_lf 48 (a_aload 0 49)) (am_nd 51 (am_lf 49 (a_ldS 12 51)) (am_lf 51 (a_cvI tT mX12_is 12 1 54)))) (am_nd 57 (am_lf 54 (a_if (fun x => x = nI 0) 60 57)) (am_nd 59 (am_lf 57 (a_const (nI 45) 59)) (am_lf 59 (a_iret))))) (am_nd 66 (am_nd 61 (am_lf 60 (a_aload 0 61)) (am_nd 63 (am_lf 61 (a_ldS 13 63)) (am_lf 63 (a_cvI tT mX12_is 12 1 66)))) (am_nd 69 (am_lf 66 (a_if (fun x => x = nI 0) 72 69)) (am_nd 71 (am_lf 69 (a_const (nI 46) 71)) (am_lf 71 (a_iret)))))) (am_nd 84 (am_nd 78 (am_nd 73 (am_lf 72 (a_aload 0 73)) (am_nd 75 (am_lf 73 (a_ldS 14 75)) (am_lf 75 (a_cvI tT mX12_is 12 1 78)))) (am_nd 81 (am_lf 78 (a_if (fun x => x = nI 0) 84 81)) (am_nd 83 (am_lf 81 (a_const (nI 47) 83)) (am_lf 83 (a_iret))))) (am_nd 90 (am_nd 85 (am_lf 84 (a_aload 0 85)) (am_nd 87 (am_lf 85 (a_ldS 15 87)) (am_lf 87 (a_cvI tT mX12_is 12 1 90)))) (am_nd 93 (am_lf 90 (a_if (fun x => x = nI 0) 98 93)) (am_nd 95 (am_lf 93 (a_const (nI 48) 95)) (am_lf 95 (a_goto 99))))))
theorem gX12_nameWord_1 : am_Good tT mX12_nameWord tX12_nameWord_1 := am_nd_ok (am_nd_ok (am_nd_ok (am_nd_ok (am_lf_ok (fun _ => ok_aload_n dX12_nameWord_48 rfl rfl)) (am_nd_ok (am_lf_ok (fun _ => ok_ldS (tx := "like") (List.mem_of_getElem? (i := 12) rfl) dX12_nameWord_49 rfl)) (am_lf_ok (fun _ => ok_cvI rfl mw_X12_is (ci := 12) rfl rfl wd_486 wd_487 wd_488 dX12_nameWord_51 rfl)))) (am_nd_ok (am_lf_ok (fun _ => ok_if_eq dX12_nameWord_54 rfl rfl)) (am_nd_ok (am_lf_ok (fun _ => ok_bipush dX12_nameWord_57 cv_bipush_45 rfl)) (am_lf_ok (fun _ => ok_iret rfl dX12_nameWord_59))))) (am_nd_ok (am_nd_ok (am_lf_ok (fun _ => ok_aload_n dX12_nameWord_60 rfl rfl)) (am_nd_ok (am_lf_ok (fun _ => ok_ldS (tx := "bridge") (List.mem_of_getElem? (i := 13) rfl) dX12_nameWord_61 rfl)) (am_lf_ok (fun _ => ok_cvI rfl mw_X12_is (ci := 12) rfl rfl wd_486 wd_487 wd_488 dX12_nameWord_63 rfl)))) (am_nd_ok (am_lf_ok (fun _ => ok_if_eq dX12_nameWord_66 rfl rfl)) (am_nd_ok (am_lf_ok (fun _ => ok_bipush dX12_nameWord_69 cv_bipush_46 rfl)) (am_lf_ok (fun _ => ok_iret rfl dX12_nameWord_71)))))) (am_nd_ok (am_nd_ok (am_nd_ok (am_lf_ok (fun _ => ok_aload_n dX12_nameWord_72 rfl rfl)) (am_nd_ok (am_lf_ok (fun _ => ok_ldS (tx := "day") (List.mem_of_getElem? (i := 14) rfl) dX12_nameWord_73 rfl)) (am_lf_ok (fun _ => ok_cvI rfl mw_X12_is (ci := 12) rfl rfl wd_486 wd_487 wd_488 dX12_nameWord_75 rfl)))) (am_nd_ok (am_lf_ok (fun _ => ok_if_eq dX12_nameWord_78 rfl rfl)) (am_nd_ok (am_lf_ok (fun _ => ok_bipush dX12_nameWord_81 cv_bipush_47 rfl)) (am_lf_ok (fun _ => ok_iret rfl dX12_nameWord_83))))) (am_nd_ok (am_nd_ok (am_lf_ok (fun _ => ok_aload_n dX12_nameWord_84 rfl rfl)) (am_nd_ok (am_lf_ok (fun _ => ok_ldS (tx := "kept") (List.mem_of_getElem? (i := 15) rfl) dX12_nameWord_85 rfl)) (am_lf_ok (fun _ => ok_cvI rfl mw_X12_is (ci := 12) rfl rfl wd_486 wd_487 wd_488 dX12_nameWord_87 rfl)))) (am_nd_ok (am_lf_ok (fun _ => ok_if_eq dX12_nameWord_90 rfl rfl)) (am_nd_ok (am_lf_ok (fun _ => ok_bipush dX12_nameWord_93 cv_bipush_48 rfl)) (am_lf_ok (fun _ => ok_goto dX12_nameWord_95 rfl))))))
def tX12_nameWord_2 : Nat → Option am_Act := am_nd 99 (am_lf 98 (a_const (nI 1) 99)) (am_lf 99 (a_iret))
theorem gX12_nameWord_2 : am_Good tT mX12_nameWord tX12_nameWord_2 := am_nd_ok (am_lf_ok (fun _ => ok_iconst dX12_nameWord_98 cv_iconst_1 rfl)) (am_lf_ok (fun _ => ok_iret rfl dX12_nameWord_99))
def tX12_nameWord : Nat → Option am_Act := am_nd 48 (tX12_nameWord_0) (am_nd 98 (tX12_nameWord_1) (tX12_nameWord_2))
theorem gX12_nameWord : am_Good tT mX12_nameWord tX12_nameWord := am_nd_ok (gX12_nameWord_0) (am_nd_ok (gX12_nameWord_1) (gX12_nameWord_2))
theorem dX12_word_0 : decode cX12_word 0 = .ok (.aload_n 0, 1) := by decide +kernel
theorem dX12_word_1 : decode cX12_word 1 = .ok (.ldc 135, 2) := by decide +kernel
theorem dX12_word_3 : decode cX12_word 3 = .ok (.invokevirtual 118, 3) := by decide +kernel
theorem dX12_word_6 : decode cX12_word 6 = .ok (.ifCond .eq 5, 3) := by decide +kernel
theorem dX12_word_9 : decode cX12_word 9 = .ok (.iconst 3, 1) := by decide +kernel
theorem dX12_word_10 : decode cX12_word 10 = .ok (.ireturn, 1) := by decide +kernel
theorem dX12_word_11 : decode cX12_word 11 = .ok (.aload_n 0, 1) := by decide +kernel
theorem dX12_word_12 : decode cX12_word 12 = .ok (.ldc 137, 2) := by decide +kernel
theorem dX12_word_14 : decode cX12_word 14 = .ok (.invokevirtual 118, 3) := by decide +kernel
theorem dX12_word_17 : decode cX12_word 17 = .ok (.ifCond .eq 5, 3) := by decide +kernel
theorem dX12_word_20 : decode cX12_word 20 = .ok (.iconst 4, 1) := by decide +kernel
theorem dX12_word_21 : decode cX12_word 21 = .ok (.ireturn, 1) := by decide +kernel
theorem dX12_word_22 : decode cX12_word 22 = .ok (.aload_n 0, 1) := by decide +kernel
theorem dX12_word_23 : decode cX12_word 23 = .ok (.ldc 139, 2) := by decide +kernel
theorem dX12_word_25 : decode cX12_word 25 = .ok (.invokevirtual 118, 3) := by decide +kernel
theorem dX12_word_28 : decode cX12_word 28 = .ok (.ifCond .eq 5, 3) := by decide +kernel
theorem dX12_word_31 : decode cX12_word 31 = .ok (.iconst 5, 1) := by decide +kernel
theorem dX12_word_32 : decode cX12_word 32 = .ok (.ireturn, 1) := by decide +kernel
theorem dX12_word_33 : decode cX12_word 33 = .ok (.aload_n 0, 1) := by decide +kernel
theorem dX12_word_34 : decode cX12_word 34 = .ok (.ldc 141, 2) := by decide +kernel
theorem dX12_word_36 : decode cX12_word 36 = .ok (.invokevirtual 118, 3) := by decide +kernel
theorem dX12_word_39 : decode cX12_word 39 = .ok (.ifCond .eq 6, 3) := by decide +kernel
theorem dX12_word_42 : decode cX12_word 42 = .ok (.bipush 6, 2) := by decide +kernel
theorem dX12_word_44 : decode cX12_word 44 = .ok (.ireturn, 1) := by decide +kernel
theorem dX12_word_45 : decode cX12_word 45 = .ok (.aload_n 0, 1) := by decide +kernel
theorem dX12_word_46 : decode cX12_word 46 = .ok (.ldc 143, 2) := by decide +kernel
theorem dX12_word_48 : decode cX12_word 48 = .ok (.invokevirtual 118, 3) := by decide +kernel
theorem dX12_word_51 : decode cX12_word 51 = .ok (.ifCond .eq 6, 3) := by decide +kernel
theorem dX12_word_54 : decode cX12_word 54 = .ok (.bipush 20, 2) := by decide +kernel
theorem dX12_word_56 : decode cX12_word 56 = .ok (.ireturn, 1) := by decide +kernel
theorem dX12_word_57 : decode cX12_word 57 = .ok (.aload_n 0, 1) := by decide +kernel
theorem dX12_word_58 : decode cX12_word 58 = .ok (.ldc 145, 2) := by decide +kernel
theorem dX12_word_60 : decode cX12_word 60 = .ok (.invokevirtual 118, 3) := by decide +kernel
theorem dX12_word_63 : decode cX12_word 63 = .ok (.ifCond .eq 8, 3) := by decide +kernel
theorem dX12_word_66 : decode cX12_word 66 = .ok (.bipush 21, 2) := by decide +kernel
theorem dX12_word_68 : decode cX12_word 68 = .ok (.goto 7, 3) := by decide +kernel
theorem dX12_word_71 : decode cX12_word 71 = .ok (.aload_n 0, 1) := by decide +kernel
theorem dX12_word_72 : decode cX12_word 72 = .ok (.invokevirtual 147, 3) := by decide +kernel
theorem dX12_word_75 : decode cX12_word 75 = .ok (.ireturn, 1) := by decide +kernel
def tX12_word_0 : Nat → Option am_Act := am_nd 22 (am_nd 11 (am_nd 6 (am_nd 1 (am_lf 0 (a_aload 0 1)) (am_nd 3 (am_lf 1 (a_ldS 2 3)) (am_lf 3 (a_cvI tT mX12_is 12 1 6)))) (am_nd 9 (am_lf 6 (a_if (fun x => x = nI 0) 11 9)) (am_nd 10 (am_lf 9 (a_const (nI 3) 10)) (am_lf 10 (a_iret))))) (am_nd 17 (am_nd 12 (am_lf 11 (a_aload 0 12)) (am_nd 14 (am_lf 12 (a_ldS 3 14)) (am_lf 14 (a_cvI tT mX12_is 12 1 17)))) (am_nd 20 (am_lf 17 (a_if (fun x => x = nI 0) 22 20)) (am_nd 21 (am_lf 20 (a_const (nI 4) 21)) (am_lf 21 (a_iret)))))) (am_nd 33 (am_nd 28 (am_nd 23 (am_lf 22 (a_aload 0 23)) (am_nd 25 (am_lf 23 (a_ldS 4 25)) (am_lf 25 (a_cvI tT mX12_is 12 1 28)))) (am_nd 31 (am_lf 28 (a_if (fun x => x = nI 0) 33 31)) (am_nd 32 (am_lf 31 (a_const (nI 5) 32)) (am_lf 32 (a_iret))))) (am_nd 39 (am_nd 34 (am_lf 33 (a_aload 0 34)) (am_nd 36 (am_lf 34 (a_ldS 5 36)) (am_lf 36 (a_cvI tT mX12_is 12 1 39)))) (am_nd 42 (am_lf 39 (a_if (fun x => x = nI 0) 45 42)) (am_nd 44 (am_lf 42 (a_const (nI 6) 44)) (am_lf 44 (a_iret))))))
theorem gX12_word_0 : am_Good tT mX12_word tX12_word_0 := am_nd_ok (am_nd_ok (am_nd_ok (am_nd_ok (am_lf_ok (fun _ => ok_aload_n dX12_word_0 rfl rfl)) (am_nd_ok (am_lf_ok (fun _ => ok_ldS (tx := "when") (List.mem_of_getElem? (i := 2) rfl) dX12_word_1 rfl)) (am_lf_ok (fun _ => ok_cvI rfl mw_X12_is (ci := 12) rfl rfl wd_486 wd_487 wd_488 dX12_word_3 rfl)))) (am_nd_ok (am_lf_ok (fun _ => ok_if_eq dX12_word_6 rfl rfl)) (am_nd_ok (am_lf_ok (fun _ => ok_iconst dX12_word_9 cv_iconst_3 rfl)) (am_lf_ok (fun _ => ok_iret rfl dX12_word_10))))) (am_nd_ok (am_nd_ok (am_lf_ok (fun _ => ok_aload_n dX12_word_11 rfl rfl)) (am_nd_ok (am_lf_ok (fun _ => ok_ldS (tx := "or") (List.mem_of_getElem? (i := 3) rfl) dX12_word_12 rfl)) (am_lf_ok (fun _ => ok_cvI rfl mw_X12_is (ci := 12) rfl rfl wd_486 wd_487 wd_488 dX12_word_14 rfl)))) (am_nd_ok (am_lf_ok (fun _ => ok_if_eq dX12_word_17 rfl rfl)) (am_nd_ok (am_lf_ok (fun _ => ok_iconst dX12_word_20 cv_iconst_4 rfl)) (am_lf_ok (fun _ => ok_iret rfl dX12_word_21)))))) (am_nd_ok (am_nd_ok (am_nd_ok (am_lf_ok (fun _ => ok_aload_n dX12_word_22 rfl rfl)) (am_nd_ok (am_lf_ok (fun _ => ok_ldS (tx := "and") (List.mem_of_getElem? (i := 4) rfl) dX12_word_23 rfl)) (am_lf_ok (fun _ => ok_cvI rfl mw_X12_is (ci := 12) rfl rfl wd_486 wd_487 wd_488 dX12_word_25 rfl)))) (am_nd_ok (am_lf_ok (fun _ => ok_if_eq dX12_word_28 rfl rfl)) (am_nd_ok (am_lf_ok (fun _ => ok_iconst dX12_word_31 cv_iconst_5 rfl)) (am_lf_ok (fun _ => ok_iret rfl dX12_word_32))))) (am_nd_ok (am_nd_ok (am_lf_ok (fun _ => ok_aload_n dX12_word_33 rfl rfl)) (am_nd_ok (am_lf_ok (fun _ => ok_ldS (tx := "not") (List.mem_of_getElem? (i := 5) rfl) dX12_word_34 rfl)) (am_lf_ok (fun _ => ok_cvI rfl mw_X12_is (ci := 12) rfl rfl wd_486 wd_487 wd_488 dX12_word_36 rfl)))) (am_nd_ok (am_lf_ok (fun _ => ok_if_eq dX12_word_39 rfl rfl)) (am_nd_ok (am_lf_ok (fun _ => ok_bipush dX12_word_42 cv_bipush_6 rfl)) (am_lf_ok (fun _ => ok_iret rfl dX12_word_44))))))
def tX12_word_1 : Nat → Option am_Act := am_nd 58 (am_nd 51 (am_nd 46 (am_lf 45 (a_aload 0 46)) (am_nd 48 (am_lf 46 (a_ldS 6 48)) (am_lf 48 (a_cvI tT mX12_is 12 1 51)))) (am_nd 56 (am_nd 54 (am_lf 51 (a_if (fun x => x = nI 0) 57 54)) (am_lf 54 (a_const (nI 20) 56))) (am_nd 57 (am_lf 56 (a_iret)) (am_lf 57 (a_aload 0 58))))) (am_nd 68 (am_nd 63 (am_nd 60 (am_lf 58 (a_ldS 7 60)) (am_lf 60 (a_cvI tT mX12_is 12 1 63))) (am_nd 66 (am_lf 63 (a_if (fun x => x = nI 0) 71 66)) (am_lf 66 (a_const (nI 21) 68)))) (am_nd 72 (am_nd 71 (am_lf 68 (a_goto 75)) (am_lf 71 (a_aload 0 72))) (am_nd 75 (am_lf 72 (a_cvI tT mX12_nameWord 12 0 75)) (am_lf 75 (a_iret)))))
theorem gX12_word_1 : am_Good tT mX12_word tX12_word_1 := am_nd_ok (am_nd_ok (am_nd_ok (am_lf_ok (fun _ => ok_aload_n dX12_word_45 rfl rfl)) (am_nd_ok (am_lf_ok (fun _ => ok_ldS (tx := "leave") (List.mem_of_getElem? (i := 6) rfl) dX12_word_46 rfl)) (am_lf_ok (fun _ => ok_cvI rfl mw_X12_is (ci := 12) rfl rfl wd_486 wd_487 wd_488 dX12_word_48 rfl)))) (am_nd_ok (am_nd_ok (am_lf_ok (fun _ => ok_if_eq dX12_word_51 rfl rfl)) (am_lf_ok (fun _ => ok_bipush dX12_word_54 cv_bipush_20 rfl))) (am_nd_ok (am_lf_ok (fun _ => ok_iret rfl dX12_word_56)) (am_lf_ok (fun _ => ok_aload_n dX12_word_57 rfl rfl))))) (am_nd_ok (am_nd_ok (am_nd_ok (am_lf_ok (fun _ => ok_ldS (tx := "keep") (List.mem_of_getElem? (i := 7) rfl) dX12_word_58 rfl)) (am_lf_ok (fun _ => ok_cvI rfl mw_X12_is (ci := 12) rfl rfl wd_486 wd_487 wd_488 dX12_word_60 rfl))) (am_nd_ok (am_lf_ok (fun _ => ok_if_eq dX12_word_63 rfl rfl)) (am_lf_ok (fun _ => ok_bipush dX12_word_66 cv_bipush_21 rfl)))) (am_nd_ok (am_nd_ok (am_lf_ok (fun _ => ok_goto dX12_word_68 rfl)) (am_lf_ok (fun _ => ok_aload_n dX12_word_71 rfl rfl))) (am_nd_ok (am_lf_ok (fun _ => ok_cvI rfl mw_X12_nameWord (ci := 12) rfl rfl wd_489 wd_490 wd_491 dX12_word_72 rfl)) (am_lf_ok (fun _ => ok_iret rfl dX12_word_75)))))
def tX12_word : Nat → Option am_Act := am_nd 45 (tX12_word_0) (tX12_word_1)
theorem gX12_word : am_Good tT mX12_word tX12_word := am_nd_ok (gX12_word_0) (gX12_word_1)
theorem dX12_next0_0 : decode cX12_next0 0 = .ok (.aload_n 0, 1) := by decide +kernel
theorem dX12_next0_1 : decode cX12_next0 1 = .ok (.aload_n 0, 1) := by decide +kernel
theorem dX12_next0_2 : decode cX12_next0 2 = .ok (.getfield 100, 3) := by decide +kernel
theorem dX12_next0_5 : decode cX12_next0 5 = .ok (.invokevirtual 150, 3) := by decide +kernel
theorem dX12_next0_8 : decode cX12_next0 8 = .ok (.bipush 32, 2) := by decide +kernel
theorem dX12_next0_10 : decode cX12_next0 10 = .ok (.if_icmp .eq 16, 3) := by decide +kernel
theorem dX12_next0_13 : decode cX12_next0 13 = .ok (.aload_n 0, 1) := by decide +kernel
theorem dX12_next0_14 : decode cX12_next0 14 = .ok (.aload_n 0, 1) := by decide +kernel
theorem dX12_next0_15 : decode cX12_next0 15 = .ok (.getfield 100, 3) := by decide +kernel
theorem dX12_next0_18 : decode cX12_next0 18 = .ok (.invokevirtual 150, 3) := by decide +kernel
theorem dX12_next0_21 : decode cX12_next0 21 = .ok (.bipush 10, 2) := by decide +kernel
theorem dX12_next0_23 : decode cX12_next0 23 = .ok (.if_icmp .ne 16, 3) := by decide +kernel
theorem dX12_next0_26 : decode cX12_next0 26 = .ok (.aload_n 0, 1) := by decide +kernel
theorem dX12_next0_27 : decode cX12_next0 27 = .ok (.dup, 1) := by decide +kernel
theorem dX12_next0_28 : decode cX12_next0 28 = .ok (.getfield 100, 3) := by decide +kernel
theorem dX12_next0_31 : decode cX12_next0 31 = .ok (.iconst 1, 1) := by decide +kernel
theorem dX12_next0_32 : decode cX12_next0 32 = .ok (.iadd, 1) := by decide +kernel
theorem dX12_next0_33 : decode cX12_next0 33 = .ok (.putfield 100, 3) := by decide +kernel
theorem dX12_next0_36 : decode cX12_next0 36 = .ok (.goto (-36), 3) := by decide +kernel
theorem dX12_next0_39 : decode cX12_next0 39 = .ok (.aload_n 0, 1) := by decide +kernel
theorem dX12_next0_40 : decode cX12_next0 40 = .ok (.aload_n 0, 1) := by decide +kernel
theorem dX12_next0_41 : decode cX12_next0 41 = .ok (.getfield 100, 3) := by decide +kernel
theorem dX12_next0_44 : decode cX12_next0 44 = .ok (.putfield 103, 3) := by decide +kernel
theorem dX12_next0_47 : decode cX12_next0 47 = .ok (.aload_n 0, 1) := by decide +kernel
theorem dX12_next0_48 : decode cX12_next0 48 = .ok (.aload_n 0, 1) := by decide +kernel
theorem dX12_next0_49 : decode cX12_next0 49 = .ok (.getfield 100, 3) := by decide +kernel
theorem dX12_next0_52 : decode cX12_next0 52 = .ok (.invokevirtual 150, 3) := by decide +kernel
theorem dX12_next0_55 : decode cX12_next0 55 = .ok (.istore_n 1, 1) := by decide +kernel
theorem dX12_next0_56 : decode cX12_next0 56 = .ok (.iload_n 1, 1) := by decide +kernel
theorem dX12_next0_57 : decode cX12_next0 57 = .ok (.iconst (-1), 1) := by decide +kernel
theorem dX12_next0_58 : decode cX12_next0 58 = .ok (.if_icmp .ne 11, 3) := by decide +kernel
theorem dX12_next0_61 : decode cX12_next0 61 = .ok (.aload_n 0, 1) := by decide +kernel
theorem dX12_next0_62 : decode cX12_next0 62 = .ok (.iconst 0, 1) := by decide +kernel
theorem dX12_next0_63 : decode cX12_next0 63 = .ok (.putfield 154, 3) := by decide +kernel
theorem dX12_next0_66 : decode cX12_next0 66 = .ok (.goto 240, 3) := by decide +kernel
theorem dX12_next0_69 : decode cX12_next0 69 = .ok (.iload_n 1, 1) := by decide +kernel
theorem dX12_next0_70 : decode cX12_next0 70 = .ok (.invokestatic 157, 3) := by decide +kernel
theorem dX12_next0_73 : decode cX12_next0 73 = .ok (.ifCond .eq 41, 3) := by decide +kernel
theorem dX12_next0_76 : decode cX12_next0 76 = .ok (.aload_n 0, 1) := by decide +kernel
theorem dX12_next0_77 : decode cX12_next0 77 = .ok (.aload_n 0, 1) := by decide +kernel
theorem dX12_next0_78 : decode cX12_next0 78 = .ok (.getfield 100, 3) := by decide +kernel
theorem dX12_next0_81 : decode cX12_next0 81 = .ok (.invokevirtual 150, 3) := by decide +kernel
theorem dX12_next0_84 : decode cX12_next0 84 = .ok (.invokestatic 157, 3) := by decide +kernel
theorem dX12_next0_87 : decode cX12_next0 87 = .ok (.ifCond .eq 16, 3) := by decide +kernel
theorem dX12_next0_90 : decode cX12_next0 90 = .ok (.aload_n 0, 1) := by decide +kernel
theorem dX12_next0_91 : decode cX12_next0 91 = .ok (.dup, 1) := by decide +kernel
theorem dX12_next0_92 : decode cX12_next0 92 = .ok (.getfield 100, 3) := by decide +kernel
theorem dX12_next0_95 : decode cX12_next0 95 = .ok (.iconst 1, 1) := by decide +kernel
theorem dX12_next0_96 : decode cX12_next0 96 = .ok (.iadd, 1) := by decide +kernel
theorem dX12_next0_97 : decode cX12_next0 97 = .ok (.putfield 100, 3) := by decide +kernel
theorem dX12_next0_100 : decode cX12_next0 100 = .ok (.goto (-24), 3) := by decide +kernel
theorem dX12_next0_103 : decode cX12_next0 103 = .ok (.aload_n 0, 1) := by decide +kernel
theorem dX12_next0_104 : decode cX12_next0 104 = .ok (.aload_n 0, 1) := by decide +kernel
theorem dX12_next0_105 : decode cX12_next0 105 = .ok (.invokevirtual 160, 3) := by decide +kernel
theorem dX12_next0_108 : decode cX12_next0 108 = .ok (.putfield 154, 3) := by decide +kernel
theorem dX12_next0_111 : decode cX12_next0 111 = .ok (.goto 195, 3) := by decide +kernel
theorem dX12_next0_114 : decode cX12_next0 114 = .ok (.iload_n 1, 1) := by decide +kernel
theorem dX12_next0_115 : decode cX12_next0 115 = .ok (.invokestatic 163, 3) := by decide +kernel
theorem dX12_next0_118 : decode cX12_next0 118 = .ok (.ifCond .eq 96, 3) := by decide +kernel
theorem dX12_next0_121 : decode cX12_next0 121 = .ok (.aload_n 0, 1) := by decide +kernel
theorem dX12_next0_122 : decode cX12_next0 122 = .ok (.iconst 0, 1) := by decide +kernel
theorem dX12_next0_123 : decode cX12_next0 123 = .ok (.putfield 166, 3) := by decide +kernel
theorem dX12_next0_126 : decode cX12_next0 126 = .ok (.aload_n 0, 1) := by decide +kernel
theorem dX12_next0_127 : decode cX12_next0 127 = .ok (.aload_n 0, 1) := by decide +kernel
theorem dX12_next0_128 : decode cX12_next0 128 = .ok (.getfield 100, 3) := by decide +kernel
theorem dX12_next0_131 : decode cX12_next0 131 = .ok (.invokevirtual 150, 3) := by decide +kernel
theorem dX12_next0_134 : decode cX12_next0 134 = .ok (.invokestatic 163, 3) := by decide +kernel
theorem dX12_next0_137 : decode cX12_next0 137 = .ok (.ifCond .eq 52, 3) := by decide +kernel
theorem dX12_next0_140 : decode cX12_next0 140 = .ok (.aload_n 0, 1) := by decide +kernel
theorem dX12_next0_141 : decode cX12_next0 141 = .ok (.getfield 100, 3) := by decide +kernel
theorem dX12_next0_144 : decode cX12_next0 144 = .ok (.aload_n 0, 1) := by decide +kernel
theorem dX12_next0_145 : decode cX12_next0 145 = .ok (.getfield 103, 3) := by decide +kernel
theorem dX12_next0_148 : decode cX12_next0 148 = .ok (.iconst 4, 1) := by decide +kernel
theorem dX12_next0_149 : decode cX12_next0 149 = .ok (.iadd, 1) := by decide +kernel
theorem dX12_next0_150 : decode cX12_next0 150 = .ok (.if_icmp .ge 26, 3) := by decide +kernel
theorem dX12_next0_153 : decode cX12_next0 153 = .ok (.aload_n 0, 1) := by decide +kernel
theorem dX12_next0_154 : decode cX12_next0 154 = .ok (.bipush 10, 2) := by decide +kernel
theorem dX12_next0_156 : decode cX12_next0 156 = .ok (.aload_n 0, 1) := by decide +kernel
theorem dX12_next0_157 : decode cX12_next0 157 = .ok (.getfield 166, 3) := by decide +kernel
theorem dX12_next0_160 : decode cX12_next0 160 = .ok (.imul, 1) := by decide +kernel
theorem dX12_next0_161 : decode cX12_next0 161 = .ok (.aload_n 0, 1) := by decide +kernel
theorem dX12_next0_162 : decode cX12_next0 162 = .ok (.aload_n 0, 1) := by decide +kernel
theorem dX12_next0_163 : decode cX12_next0 163 = .ok (.getfield 100, 3) := by decide +kernel
theorem dX12_next0_166 : decode cX12_next0 166 = .ok (.invokevirtual 150, 3) := by decide +kernel
theorem dX12_next0_169 : decode cX12_next0 169 = .ok (.iadd, 1) := by decide +kernel
theorem dX12_next0_170 : decode cX12_next0 170 = .ok (.bipush 48, 2) := by decide +kernel
theorem dX12_next0_172 : decode cX12_next0 172 = .ok (.isub, 1) := by decide +kernel
theorem dX12_next0_173 : decode cX12_next0 173 = .ok (.putfield 166, 3) := by decide +kernel
theorem dX12_next0_176 : decode cX12_next0 176 = .ok (.aload_n 0, 1) := by decide +kernel
theorem dX12_next0_177 : decode cX12_next0 177 = .ok (.dup, 1) := by decide +kernel
theorem dX12_next0_178 : decode cX12_next0 178 = .ok (.getfield 100, 3) := by decide +kernel
theorem dX12_next0_181 : decode cX12_next0 181 = .ok (.iconst 1, 1) := by decide +kernel
theorem dX12_next0_182 : decode cX12_next0 182 = .ok (.iadd, 1) := by decide +kernel
theorem dX12_next0_183 : decode cX12_next0 183 = .ok (.putfield 100, 3) := by decide +kernel
theorem dX12_next0_186 : decode cX12_next0 186 = .ok (.goto (-60), 3) := by decide +kernel
theorem dX12_next0_189 : decode cX12_next0 189 = .ok (.aload_n 0, 1) := by decide +kernel
theorem dX12_next0_190 : decode cX12_next0 190 = .ok (.aload_n 0, 1) := by decide +kernel
theorem dX12_next0_191 : decode cX12_next0 191 = .ok (.getfield 100, 3) := by decide +kernel
theorem dX12_next0_194 : decode cX12_next0 194 = .ok (.aload_n 0, 1) := by decide +kernel
theorem dX12_next0_195 : decode cX12_next0 195 = .ok (.getfield 103, 3) := by decide +kernel
theorem dX12_next0_198 : decode cX12_next0 198 = .ok (.isub, 1) := by decide +kernel
theorem dX12_next0_199 : decode cX12_next0 199 = .ok (.iconst 5, 1) := by decide +kernel
theorem dX12_next0_200 : decode cX12_next0 200 = .ok (.if_icmp .ge 7, 3) := by decide +kernel
theorem dX12_next0_203 : decode cX12_next0 203 = .ok (.iconst 2, 1) := by decide +kernel
theorem dX12_next0_204 : decode cX12_next0 204 = .ok (.goto 4, 3) := by decide +kernel
theorem dX12_next0_207 : decode cX12_next0 207 = .ok (.iconst 1, 1) := by decide +kernel
theorem dX12_next0_208 : decode cX12_next0 208 = .ok (.putfield 154, 3) := by decide +kernel
theorem dX12_next0_211 : decode cX12_next0 211 = .ok (.goto 95, 3) := by decide +kernel
theorem dX12_next0_214 : decode cX12_next0 214 = .ok (.aload_n 0, 1) := by decide +kernel
theorem dX12_next0_215 : decode cX12_next0 215 = .ok (.dup, 1) := by decide +kernel
theorem dX12_next0_216 : decode cX12_next0 216 = .ok (.getfield 100, 3) := by decide +kernel
theorem dX12_next0_219 : decode cX12_next0 219 = .ok (.iconst 1, 1) := by decide +kernel
theorem dX12_next0_220 : decode cX12_next0 220 = .ok (.iadd, 1) := by decide +kernel
theorem dX12_next0_221 : decode cX12_next0 221 = .ok (.putfield 100, 3) := by decide +kernel
theorem dX12_next0_224 : decode cX12_next0 224 = .ok (.iload_n 1, 1) := by decide +kernel
theorem dX12_next0_225 : decode cX12_next0 225 = .ok (.bipush 59, 2) := by decide +kernel
theorem dX12_next0_227 : decode cX12_next0 227 = .ok (.if_icmp .eq 57, 3) := by decide +kernel
theorem dX12_next0_230 : decode cX12_next0 230 = .ok (.iload_n 1, 1) := by decide +kernel
theorem dX12_next0_231 : decode cX12_next0 231 = .ok (.bipush 43, 2) := by decide +kernel
theorem dX12_next0_233 : decode cX12_next0 233 = .ok (.if_icmp .eq 51, 3) := by decide +kernel
theorem dX12_next0_236 : decode cX12_next0 236 = .ok (.iload_n 1, 1) := by decide +kernel
theorem dX12_next0_237 : decode cX12_next0 237 = .ok (.bipush 45, 2) := by decide +kernel
theorem dX12_next0_239 : decode cX12_next0 239 = .ok (.if_icmp .eq 45, 3) := by decide +kernel
theorem dX12_next0_242 : decode cX12_next0 242 = .ok (.iload_n 1, 1) := by decide +kernel
theorem dX12_next0_243 : decode cX12_next0 243 = .ok (.bipush 42, 2) := by decide +kernel
theorem dX12_next0_245 : decode cX12_next0 245 = .ok (.if_icmp .eq 39, 3) := by decide +kernel
theorem dX12_next0_248 : decode cX12_next0 248 = .ok (.iload_n 1, 1) := by decide +kernel
theorem dX12_next0_249 : decode cX12_next0 249 = .ok (.bipush 47, 2) := by decide +kernel
theorem dX12_next0_251 : decode cX12_next0 251 = .ok (.if_icmp .eq 33, 3) := by decide +kernel
theorem dX12_next0_254 : decode cX12_next0 254 = .ok (.iload_n 1, 1) := by decide +kernel
theorem dX12_next0_255 : decode cX12_next0 255 = .ok (.bipush 40, 2) := by decide +kernel
theorem dX12_next0_257 : decode cX12_next0 257 = .ok (.if_icmp .eq 27, 3) := by decide +kernel
theorem dX12_next0_260 : decode cX12_next0 260 = .ok (.iload_n 1, 1) := by decide +kernel
theorem dX12_next0_261 : decode cX12_next0 261 = .ok (.bipush 41, 2) := by decide +kernel
theorem dX12_next0_263 : decode cX12_next0 263 = .ok (.if_icmp .eq 21, 3) := by decide +kernel
theorem dX12_next0_266 : decode cX12_next0 266 = .ok (.iload_n 1, 1) := by decide +kernel
theorem dX12_next0_267 : decode cX12_next0 267 = .ok (.bipush 60, 2) := by decide +kernel
theorem dX12_next0_269 : decode cX12_next0 269 = .ok (.if_icmp .eq 15, 3) := by decide +kernel
theorem dX12_next0_272 : decode cX12_next0 272 = .ok (.iload_n 1, 1) := by decide +kernel
theorem dX12_next0_273 : decode cX12_next0 273 = .ok (.bipush 61, 2) := by decide +kernel
theorem dX12_next0_275 : decode cX12_next0 275 = .ok (.if_icmp .eq 9, 3) := by decide +kernel
theorem dX12_next0_278 : decode cX12_next0 278 = .ok (.iload_n 1, 1) := by decide +kernel
theorem dX12_next0_279 : decode cX12_next0 279 = .ok (.bipush 62, 2) := by decide +kernel
theorem dX12_next0_281 : decode cX12_next0 281 = .ok (.if_icmp .ne 7, 3) := by decide +kernel
theorem dX12_next0_284 : decode cX12_next0 284 = .ok (.iconst 1, 1) := by decide +kernel
theorem dX12_next0_285 : decode cX12_next0 285 = .ok (.goto 4, 3) := by decide +kernel
theorem dX12_next0_288 : decode cX12_next0 288 = .ok (.iconst 0, 1) := by decide +kernel
theorem dX12_next0_289 : decode cX12_next0 289 = .ok (.istore_n 2, 1) := by decide +kernel
theorem dX12_next0_290 : decode cX12_next0 290 = .ok (.aload_n 0, 1) := by decide +kernel
theorem dX12_next0_291 : decode cX12_next0 291 = .ok (.iload_n 2, 1) := by decide +kernel
theorem dX12_next0_292 : decode cX12_next0 292 = .ok (.ifCond .eq 10, 3) := by decide +kernel
theorem dX12_next0_295 : decode cX12_next0 295 = .ok (.bipush 100, 2) := by decide +kernel
theorem dX12_next0_297 : decode cX12_next0 297 = .ok (.iload_n 1, 1) := by decide +kernel
theorem dX12_next0_298 : decode cX12_next0 298 = .ok (.iadd, 1) := by decide +kernel
theorem dX12_next0_299 : decode cX12_next0 299 = .ok (.goto 4, 3) := by decide +kernel
theorem dX12_next0_302 : decode cX12_next0 302 = .ok (.iconst 1, 1) := by decide +kernel
theorem dX12_next0_303 : decode cX12_next0 303 = .ok (.putfield 154, 3) := by decide +kernel
theorem dX12_next0_306 : decode cX12_next0 306 = .ok (.return_, 1) := by decide +kernel
def tX12_next0_0 : Nat → Option am_Act := am_nd 26 (am_nd 13 (am_nd 5 (am_nd 1 (am_lf 0 (a_aload 0 1)) (am_nd 2 (am_lf 1 (a_aload 0 2)) (am_lf 2 (a_get tT 12 14 5)))) (am_nd 8 (am_lf 5 (a_cvI tT mX12_see 12 1 8)) (am_nd 10 (am_lf 8 (a_const (nI 32) 10)) (am_lf 10 (a_cmp (fun x y => x = y) 26 13))))) (am_nd 18 (am_nd 14 (am_lf 13 (a_aload 0 14)) (am_nd 15 (am_lf 14 (a_aload 0 15)) (am_lf 15 (a_get tT 12 14 18)))) (am_nd 21 (am_lf 18 (a_cvI tT mX12_see 12 1 21)) (am_nd 23 (am_lf 21 (a_const (nI 10) 23)) (am_lf 23 (a_cmp (fun x y => x = y) 26 39)))))) (am_nd 36 (am_nd 31 (am_nd 27 (am_lf 26 (a_aload 0 27)) (am_nd 28 (am_lf 27 (a_dup 28)) (am_lf 28 (a_get tT 12 14 31)))) (am_nd 32 (am_lf 31 (a_const (nI 1) 32)) (am_nd 33 (am_lf 32 (a_bin (fun x y => x + y) 33)) (am_lf 33 (a_put tT 12 14 36))))) (am_nd 41 (am_nd 39 (am_lf 36 (a_goto 0)) (am_nd 40 (am_lf 39 (a_aload 0 40)) (am_lf 40 (a_aload 0 41)))) (am_nd 44 (am_lf 41 (a_get tT 12 14 44)) (am_nd 47 (am_lf 44 (a_put tT 12 16 47)) (am_lf 47 (a_aload 0 48))))))
theorem gX12_next0_0 : am_Good tT mX12_next0 tX12_next0_0 := am_nd_ok (am_nd_ok (am_nd_ok (am_nd_ok (am_lf_ok (fun _ => ok_aload_n dX12_next0_0 rfl rfl)) (am_nd_ok (am_lf_ok (fun _ => ok_aload_n dX12_next0_1 rfl rfl)) (am_lf_ok (fun _ => ok_get (C := RX12) (TT := TX12) (N := 31) rfl inw_X12 (Nat.le_of_ble_eq_true rfl) wd_482 dX12_next0_2 rfl)))) (am_nd_ok (am_lf_ok (fun _ => ok_cvI rfl mw_X12_see (ci := 12) rfl rfl wd_492 wd_493 wd_494 dX12_next0_5 rfl)) (am_nd_ok (am_lf_ok (fun _ => ok_bipush dX12_next0_8 cv_bipush_32 rfl)) (am_lf_ok (fun _ => ok_cmp_eq dX12_next0_10 rfl rfl))))) (am_nd_ok (am_nd_ok (am_lf_ok (fun _ => ok_aload_n dX12_next0_13 rfl rfl)) (am_nd_ok (am_lf_ok (fun _ => ok_aload_n dX12_next0_14 rfl rfl)) (am_lf_ok (fun _ => ok_get (C := RX12) (TT := TX12) (N := 31) rfl inw_X12 (Nat.le_of_ble_eq_true rfl) wd_482 dX12_next0_15 rfl)))) (am_nd_ok (am_lf_ok (fun _ => ok_cvI rfl mw_X12_see (ci := 12) rfl rfl wd_492 wd_493 wd_494 dX12_next0_18 rfl)) (am_nd_ok (am_lf_ok (fun _ => ok_bipush dX12_next0_21 cv_bipush_10 rfl)) (am_lf_ok (fun _ => ok_cmp_ne dX12_next0_23 rfl rfl)))))) (am_nd_ok (am_nd_ok (am_nd_ok (am_lf_ok (fun _ => ok_aload_n dX12_next0_26 rfl rfl)) (am_nd_ok (am_lf_ok (fun _ => ok_dup dX12_next0_27 rfl)) (am_lf_ok (fun _ => ok_get (C := RX12) (TT := TX12) (N := 31) rfl inw_X12 (Nat.le_of_ble_eq_true rfl) wd_482 dX12_next0_28 rfl)))) (am_nd_ok (am_lf_ok (fun _ => ok_iconst dX12_next0_31 cv_iconst_1 rfl)) (am_nd_ok (am_lf_ok (fun _ => ok_iadd dX12_next0_32 rfl)) (am_lf_ok (fun _ => ok_put (C := RX12) (TT := TX12) (N := 31) (ty0 := tyX12) rfl inw_X12 tyX12_ok nmX12 (Nat.le_of_ble_eq_true rfl) rfl rfl wd_482 dX12_next0_33 rfl))))) (am_nd_ok (am_nd_ok (am_lf_ok (fun _ => ok_goto dX12_next0_36 rfl)) (am_nd_ok (am_lf_ok (fun _ => ok_aload_n dX12_next0_39 rfl rfl)) (am_lf_ok (fun _ => ok_aload_n dX12_next0_40 rfl rfl)))) (am_nd_ok (am_lf_ok (fun _ => ok_get (C := RX12) (TT := TX12) (N := 31) rfl inw_X12 (Nat.le_of_ble_eq_true rfl) wd_482 dX12_next0_41 rfl)) (am_nd_ok (am_lf_ok (fun _ => ok_put (C := RX12) (TT := TX12) (N := 31) (ty0 := tyX12) rfl inw_X12 tyX12_ok nmX12 (Nat.le_of_ble_eq_true rfl) rfl rfl wd_483 dX12_next0_44 rfl)) (am_lf_ok (fun _ => ok_aload_n dX12_next0_47 rfl rfl))))))
def tX12_next0_1 : Nat → Option am_Act := am_nd 70 (am_nd 58 (am_nd 55 (am_nd 49 (am_lf 48 (a_aload 0 49)) (am_nd 52 (am_lf 49 (a_get tT 12 14 52)) (am_lf 52 (a_cvI tT mX12_see 12 1 55)))) (am_nd 56 (am_lf 55 (a_istore 1 56)) (am_nd 57 (am_lf 56 (a_iload 1 57)) (am_lf 57 (a_const (-1) 58))))) (am_nd 63 (am_nd 61 (am_lf 58 (a_cmp (fun x y => x = y) 61 69)) (am_nd 62 (am_lf 61 (a_aload 0 62)) (am_lf 62 (a_const (nI 0) 63)))) (am_nd 66 (am_lf 63 (a_put tT 12 15 66)) (am_nd 69 (am_lf 66 (a_goto 306)) (am_lf 69 (a_iload 1 70)))))) (am_nd 84 (am_nd 77 (am_nd 73 (am_lf 70 (a_csI mX12_isLetter 1 73)) (am_nd 76 (am_lf 73 (a_if (fun x => x = nI 0) 114 76)) (am_lf 76 (a_aload 0 77)))) (am_nd 78 (am_lf 77 (a_aload 0 78)) (am_nd 81 (am_lf 78 (a_get tT 12 14 81)) (am_lf 81 (a_cvI tT mX12_see 12 1 84))))) (am_nd 91 (am_nd 87 (am_lf 84 (a_csI mX12_isLetter 1 87)) (am_nd 90 (am_lf 87 (a_if (fun x => x = nI 0) 103 90)) (am_lf 90 (a_aload 0 91)))) (am_nd 92 (am_lf 91 (a_dup 92)) (am_nd 95 (am_lf 92 (a_get tT 12 14 95)) (am_lf 95 (a_const (nI 1) 96))))))
theorem gX12_next0_1 : am_Good tT mX12_next0 tX12_next0_1 := am_nd_ok (am_nd_ok (am_nd_ok (am_nd_ok (am_lf_ok (fun _ => ok_aload_n dX12_next0_48 rfl rfl)) (am_nd_ok (am_lf_ok (fun _ => ok_get (C := RX12) (TT := TX12) (N := 31) rfl inw_X12 (Nat.le_of_ble_eq_true rfl) wd_482 dX12_next0_49 rfl)) (am_lf_ok (fun _ => ok_cvI rfl mw_X12_see (ci := 12) rfl rfl wd_492 wd_493 wd_494 dX12_next0_52 rfl)))) (am_nd_ok (am_lf_ok (fun _ => ok_istore_n dX12_next0_55 rfl (Nat.le_of_ble_eq_true rfl) rfl)) (am_nd_ok (am_lf_ok (fun _ => ok_iload_n dX12_next0_56 rfl rfl)) (am_lf_ok (fun _ => ok_iconst dX12_next0_57 cv_iconst_m1 rfl))))) (am_nd_ok (am_nd_ok (am_lf_ok (fun _ => ok_cmp_ne dX12_next0_58 rfl rfl)) (am_nd_ok (am_lf_ok (fun _ => ok_aload_n dX12_next0_61 rfl rfl)) (am_lf_ok (fun _ => ok_iconst dX12_next0_62 cv_iconst_0 rfl)))) (am_nd_ok (am_lf_ok (fun _ => ok_put (C := RX12) (TT := TX12) (N := 31) (ty0 := tyX12) rfl inw_X12 tyX12_ok nmX12 (Nat.le_of_ble_eq_true rfl) rfl rfl wd_495 dX12_next0_63 rfl)) (am_nd_ok (am_lf_ok (fun _ => ok_goto dX12_next0_66 rfl)) (am_lf_ok (fun _ => ok_iload_n dX12_next0_69 rfl rfl)))))) (am_nd_ok (am_nd_ok (am_nd_ok (am_lf_ok (fun _ => ok_csI rfl mw_X12_isLetter wd_496 wd_497 dX12_next0_70 rfl)) (am_nd_ok (am_lf_ok (fun _ => ok_if_eq dX12_next0_73 rfl rfl)) (am_lf_ok (fun _ => ok_aload_n dX12_next0_76 rfl rfl)))) (am_nd_ok (am_lf_ok (fun _ => ok_aload_n dX12_next0_77 rfl rfl)) (am_nd_ok (am_lf_ok (fun _ => ok_get (C := RX12) (TT := TX12) (N := 31) rfl inw_X12 (Nat.le_of_ble_eq_true rfl) wd_482 dX12_next0_78 rfl)) (am_lf_ok (fun _ => ok_cvI rfl mw_X12_see (ci := 12) rfl rfl wd_492 wd_493 wd_494 dX12_next0_81 rfl))))) (am_nd_ok (am_nd_ok (am_lf_ok (fun _ => ok_csI rfl mw_X12_isLetter wd_496 wd_497 dX12_next0_84 rfl)) (am_nd_ok (am_lf_ok (fun _ => ok_if_eq dX12_next0_87 rfl rfl)) (am_lf_ok (fun _ => ok_aload_n dX12_next0_90 rfl rfl)))) (am_nd_ok (am_lf_ok (fun _ => ok_dup dX12_next0_91 rfl)) (am_nd_ok (am_lf_ok (fun _ => ok_get (C := RX12) (TT := TX12) (N := 31) rfl inw_X12 (Nat.le_of_ble_eq_true rfl) wd_482 dX12_next0_92 rfl)) (am_lf_ok (fun _ => ok_iconst dX12_next0_95 cv_iconst_1 rfl))))))
def tX12_next0_2 : Nat → Option am_Act := am_nd 122 (am_nd 108 (am_nd 103 (am_nd 97 (am_lf 96 (a_bin (fun x y => x + y) 97)) (am_nd 100 (am_lf 97 (a_put tT 12 14 100)) (am_lf 100 (a_goto 76)))) (am_nd 104 (am_lf 103 (a_aload 0 104)) (am_nd 105 (am_lf 104 (a_aload 0 105)) (am_lf 105 (a_cvI tT mX12_word 12 0 108))))) (am_nd 115 (am_nd 111 (am_lf 108 (a_put tT 12 15 111)) (am_nd 114 (am_lf 111 (a_goto 306)) (am_lf 114 (a_iload 1 115)))) (am_nd 118 (am_lf 115 (a_csI mX12_isDigit 1 118)) (am_nd 121 (am_lf 118 (a_if (fun x => x = nI 0) 214 121)) (am_lf 121 (a_aload 0 122)))))) (am_nd 134 (am_nd 127 (am_nd 123 (am_lf 122 (a_const (nI 0) 123)) (am_nd 126 (am_lf 123 (a_put tT 12 17 126)) (am_lf 126 (a_aload 0 127)))) (am_nd 128 (am_lf 127 (a_aload 0 128)) (am_nd 131 (am_lf 128 (a_get tT 12 14 131)) (am_lf 131 (a_cvI tT mX12_see 12 1 134))))) (am_nd 141 (am_nd 137 (am_lf 134 (a_csI mX12_isDigit 1 137)) (am_nd 140 (am_lf 137 (a_if (fun x => x = nI 0) 189 140)) (am_lf 140 (a_aload 0 141)))) (am_nd 144 (am_lf 141 (a_get tT 12 14 144)) (am_nd 145 (am_lf 144 (a_aload 0 145)) (am_lf 145 (a_get tT 12 16 148))))))
theorem gX12_next0_2 : am_Good tT mX12_next0 tX12_next0_2 := am_nd_ok (am_nd_ok (am_nd_ok (am_nd_ok (am_lf_ok (fun _ => ok_iadd dX12_next0_96 rfl)) (am_nd_ok (am_lf_ok (fun _ => ok_put (C := RX12) (TT := TX12) (N := 31) (ty0 := tyX12) rfl inw_X12 tyX12_ok nmX12 (Nat.le_of_ble_eq_true rfl) rfl rfl wd_482 dX12_next0_97 rfl)) (am_lf_ok (fun _ => ok_goto dX12_next0_100 rfl)))) (am_nd_ok (am_lf_ok (fun _ => ok_aload_n dX12_next0_103 rfl rfl)) (am_nd_ok (am_lf_ok (fun _ => ok_aload_n dX12_next0_104 rfl rfl)) (am_lf_ok (fun _ => ok_cvI rfl mw_X12_word (ci := 12) rfl rfl wd_498 wd_499 wd_500 dX12_next0_105 rfl))))) (am_nd_ok (am_nd_ok (am_lf_ok (fun _ => ok_put (C := RX12) (TT := TX12) (N := 31) (ty0 := tyX12) rfl inw_X12 tyX12_ok nmX12 (Nat.le_of_ble_eq_true rfl) rfl rfl wd_495 dX12_next0_108 rfl)) (am_nd_ok (am_lf_ok (fun _ => ok_goto dX12_next0_111 rfl)) (am_lf_ok (fun _ => ok_iload_n dX12_next0_114 rfl rfl)))) (am_nd_ok (am_lf_ok (fun _ => ok_csI rfl mw_X12_isDigit wd_501 wd_502 dX12_next0_115 rfl)) (am_nd_ok (am_lf_ok (fun _ => ok_if_eq dX12_next0_118 rfl rfl)) (am_lf_ok (fun _ => ok_aload_n dX12_next0_121 rfl rfl)))))) (am_nd_ok (am_nd_ok (am_nd_ok (am_lf_ok (fun _ => ok_iconst dX12_next0_122 cv_iconst_0 rfl)) (am_nd_ok (am_lf_ok (fun _ => ok_put (C := RX12) (TT := TX12) (N := 31) (ty0 := tyX12) rfl inw_X12 tyX12_ok nmX12 (Nat.le_of_ble_eq_true rfl) rfl rfl wd_503 dX12_next0_123 rfl)) (am_lf_ok (fun _ => ok_aload_n dX12_next0_126 rfl rfl)))) (am_nd_ok (am_lf_ok (fun _ => ok_aload_n dX12_next0_127 rfl rfl)) (am_nd_ok (am_lf_ok (fun _ => ok_get (C := RX12) (TT := TX12) (N := 31) rfl inw_X12 (Nat.le_of_ble_eq_true rfl) wd_482 dX12_next0_128 rfl)) (am_lf_ok (fun _ => ok_cvI rfl mw_X12_see (ci := 12) rfl rfl wd_492 wd_493 wd_494 dX12_next0_131 rfl))))) (am_nd_ok (am_nd_ok (am_lf_ok (fun _ => ok_csI rfl mw_X12_isDigit wd_501 wd_502 dX12_next0_134 rfl)) (am_nd_ok (am_lf_ok (fun _ => ok_if_eq dX12_next0_137 rfl rfl)) (am_lf_ok (fun _ => ok_aload_n dX12_next0_140 rfl rfl)))) (am_nd_ok (am_lf_ok (fun _ => ok_get (C := RX12) (TT := TX12) (N := 31) rfl inw_X12 (Nat.le_of_ble_eq_true rfl) wd_482 dX12_next0_141 rfl)) (am_nd_ok (am_lf_ok (fun _ => ok_aload_n dX12_next0_144 rfl rfl)) (am_lf_ok (fun _ => ok_get (C := RX12) (TT := TX12) (N := 31) rfl inw_X12 (Nat.le_of_ble_eq_true rfl) wd_483 dX12_next0_145 rfl))))))
def tX12_next0_3 : Nat → Option am_Act := am_nd 169 (am_nd 157 (am_nd 153 (am_nd 149 (am_lf 148 (a_const (nI 4) 149)) (am_nd 150 (am_lf 149 (a_bin (fun x y => x + y) 150)) (am_lf 150 (a_cmp (fun x y => y ≤ x) 176 153)))) (am_nd 154 (am_lf 153 (a_aload 0 154)) (am_nd 156 (am_lf 154 (a_const (nI 10) 156)) (am_lf 156 (a_aload 0 157))))) (am_nd 162 (am_nd 160 (am_lf 157 (a_get tT 12 17 160)) (am_nd 161 (am_lf 160 (a_bin (fun x y => x * y) 161)) (am_lf 161 (a_aload 0 162)))) (am_nd 163 (am_lf 162 (a_aload 0 163)) (am_nd 166 (am_lf 163 (a_get tT 12 14 166)) (am_lf 166 (a_cvI tT mX12_see 12 1 169)))))) (am_nd 178 (am_nd 173 (am_nd 170 (am_lf 169 (a_bin (fun x y => x + y) 170)) (am_nd 172 (am_lf 170 (a_const (nI 48) 172)) (am_lf 172 (a_bin (fun x y => x - y) 173)))) (am_nd 176 (am_lf 173 (a_put tT 12 17 176)) (am_nd 177 (am_lf 176 (a_aload 0 177)) (am_lf 177 (a_dup 178))))) (am_nd 183 (am_nd 181 (am_lf 178 (a_get tT 12 14 181)) (am_nd 182 (am_lf 181 (a_const (nI 1) 182)) (am_lf 182 (a_bin (fun x y => x + y) 183)))) (am_nd 186 (am_lf 183 (a_put tT 12 14 186)) (am_nd 189 (am_lf 186 (a_goto 126)) (am_lf 189 (a_aload 0 190))))))
theorem gX12_next0_3 : am_Good tT mX12_next0 tX12_next0_3 := am_nd_ok (am_nd_ok (am_nd_ok (am_nd_ok (am_lf_ok (fun _ => ok_iconst dX12_next0_148 cv_iconst_4 rfl)) (am_nd_ok (am_lf_ok (fun _ => ok_iadd dX12_next0_149 rfl)) (am_lf_ok (fun _ => ok_cmp_ge dX12_next0_150 rfl rfl)))) (am_nd_ok (am_lf_ok (fun _ => ok_aload_n dX12_next0_153 rfl rfl)) (am_nd_ok (am_lf_ok (fun _ => ok_bipush dX12_next0_154 cv_bipush_10 rfl)) (am_lf_ok (fun _ => ok_aload_n dX12_next0_156 rfl rfl))))) (am_nd_ok (am_nd_ok (am_lf_ok (fun _ => ok_get (C := RX12) (TT := TX12) (N := 31) rfl inw_X12 (Nat.le_of_ble_eq_true rfl) wd_503 dX12_next0_157 rfl)) (am_nd_ok (am_lf_ok (fun _ => ok_imul dX12_next0_160 rfl)) (am_lf_ok (fun _ => ok_aload_n dX12_next0_161 rfl rfl)))) (am_nd_ok (am_lf_ok (fun _ => ok_aload_n dX12_next0_162 rfl rfl)) (am_nd_ok (am_lf_ok (fun _ => ok_get (C := RX12) (TT := TX12) (N := 31) rfl inw_X12 (Nat.le_of_ble_eq_true rfl) wd_482 dX12_next0_163 rfl)) (am_lf_ok (fun _ => ok_cvI rfl mw_X12_see (ci := 12) rfl rfl wd_492 wd_493 wd_494 dX12_next0_166 rfl)))))) (am_nd_ok (am_nd_ok (am_nd_ok (am_lf_ok (fun _ => ok_iadd dX12_next0_169 rfl)) (am_nd_ok (am_lf_ok (fun _ => ok_bipush dX12_next0_170 cv_bipush_48 rfl)) (am_lf_ok (fun _ => ok_isub dX12_next0_172 rfl)))) (am_nd_ok (am_lf_ok (fun _ => ok_put (C := RX12) (TT := TX12) (N := 31) (ty0 := tyX12) rfl inw_X12 tyX12_ok nmX12 (Nat.le_of_ble_eq_true rfl) rfl rfl wd_503 dX12_next0_173 rfl)) (am_nd_ok (am_lf_ok (fun _ => ok_aload_n dX12_next0_176 rfl rfl)) (am_lf_ok (fun _ => ok_dup dX12_next0_177 rfl))))) (am_nd_ok (am_nd_ok (am_lf_ok (fun _ => ok_get (C := RX12) (TT := TX12) (N := 31) rfl inw_X12 (Nat.le_of_ble_eq_true rfl) wd_482 dX12_next0_178 rfl)) (am_nd_ok (am_lf_ok (fun _ => ok_iconst dX12_next0_181 cv_iconst_1 rfl)) (am_lf_ok (fun _ => ok_iadd dX12_next0_182 rfl)))) (am_nd_ok (am_lf_ok (fun _ => ok_put (C := RX12) (TT := TX12) (N := 31) (ty0 := tyX12) rfl inw_X12 tyX12_ok nmX12 (Nat.le_of_ble_eq_true rfl) rfl rfl wd_482 dX12_next0_183 rfl)) (am_nd_ok (am_lf_ok (fun _ => ok_goto dX12_next0_186 rfl)) (am_lf_ok (fun _ => ok_aload_n dX12_next0_189 rfl rfl))))))
def tX12_next0_4 : Nat → Option am_Act := am_nd 214 (am_nd 200 (am_nd 195 (am_nd 191 (am_lf 190 (a_aload 0 191)) (am_nd 194 (am_lf 191 (a_get tT 12 14 194)) (am_lf 194 (a_aload 0 195)))) (am_nd 198 (am_lf 195 (a_get tT 12 16 198)) (am_nd 199 (am_lf 198 (a_bin (fun x y => x - y) 199)) (am_lf 199 (a_const (nI 5) 200))))) (am_nd 207 (am_nd 203 (am_lf 200 (a_cmp (fun x y => y ≤ x) 207 203)) (am_nd 204 (am_lf 203 (a_const (nI 2) 204)) (am_lf 204 (a_goto 208)))) (am_nd 208 (am_lf 207 (a_const (nI 1) 208)) (am_nd 211 (am_lf 208 (a_put tT 12 15 211)) (am_lf 211 (a_goto 306)))))) (am_nd 224 (am_nd 219 (am_nd 215 (am_lf 214 (a_aload 0 215)) (am_nd 216 (am_lf 215 (a_dup 216)) (am_lf 216 (a_get tT 12 14 219)))) (am_nd 220 (am_lf 219 (a_const (nI 1) 220)) (am_nd 221 (am_lf 220 (a_bin (fun x y => x + y) 221)) (am_lf 221 (a_put tT 12 14 224))))) (am_nd 230 (am_nd 225 (am_lf 224 (a_iload 1 225)) (am_nd 227 (am_lf 225 (a_const (nI 59) 227)) (am_lf 227 (a_cmp (fun x y => x = y) 284 230)))) (am_nd 231 (am_lf 230 (a_iload 1 231)) (am_nd 233 (am_lf 231 (a_const (nI 43) 233)) (am_lf 233 (a_cmp (fun x y => x = y) 284 236))))))
theorem gX12_next0_4 : am_Good tT mX12_next0 tX12_next0_4 := am_nd_ok (am_nd_ok (am_nd_ok (am_nd_ok (am_lf_ok (fun _ => ok_aload_n dX12_next0_190 rfl rfl)) (am_nd_ok (am_lf_ok (fun _ => ok_get (C := RX12) (TT := TX12) (N := 31) rfl inw_X12 (Nat.le_of_ble_eq_true rfl) wd_482 dX12_next0_191 rfl)) (am_lf_ok (fun _ => ok_aload_n dX12_next0_194 rfl rfl)))) (am_nd_ok (am_lf_ok (fun _ => ok_get (C := RX12) (TT := TX12) (N := 31) rfl inw_X12 (Nat.le_of_ble_eq_true rfl) wd_483 dX12_next0_195 rfl)) (am_nd_ok (am_lf_ok (fun _ => ok_isub dX12_next0_198 rfl)) (am_lf_ok (fun _ => ok_iconst dX12_next0_199 cv_iconst_5 rfl))))) (am_nd_ok (am_nd_ok (am_lf_ok (fun _ => ok_cmp_ge dX12_next0_200 rfl rfl)) (am_nd_ok (am_lf_ok (fun _ => ok_iconst dX12_next0_203 cv_iconst_2 rfl)) (am_lf_ok (fun _ => ok_goto dX12_next0_204 rfl)))) (am_nd_ok (am_lf_ok (fun _ => ok_iconst dX12_next0_207 cv_iconst_1 rfl)) (am_nd_ok (am_lf_ok (fun _ => ok_put (C := RX12) (TT := TX12) (N := 31) (ty0 := tyX12) rfl inw_X12 tyX12_ok nmX12 (Nat.le_of_ble_eq_true rfl) rfl rfl wd_495 dX12_next0_208 rfl)) (am_lf_ok (fun _ => ok_goto dX12_next0_211 rfl)))))) (am_nd_ok (am_nd_ok (am_nd_ok (am_lf_ok (fun _ => ok_aload_n dX12_next0_214 rfl rfl)) (am_nd_ok (am_lf_ok (fun _ => ok_dup dX12_next0_215 rfl)) (am_lf_ok (fun _ => ok_get (C := RX12) (TT := TX12) (N := 31) rfl inw_X12 (Nat.le_of_ble_eq_true rfl) wd_482 dX12_next0_216 rfl)))) (am_nd_ok (am_lf_ok (fun _ => ok_iconst dX12_next0_219 cv_iconst_1 rfl)) (am_nd_ok (am_lf_ok (fun _ => ok_iadd dX12_next0_220 rfl)) (am_lf_ok (fun _ => ok_put (C := RX12) (TT := TX12) (N := 31) (ty0 := tyX12) rfl inw_X12 tyX12_ok nmX12 (Nat.le_of_ble_eq_true rfl) rfl rfl wd_482 dX12_next0_221 rfl))))) (am_nd_ok (am_nd_ok (am_lf_ok (fun _ => ok_iload_n dX12_next0_224 rfl rfl)) (am_nd_ok (am_lf_ok (fun _ => ok_bipush dX12_next0_225 cv_bipush_59 rfl)) (am_lf_ok (fun _ => ok_cmp_eq dX12_next0_227 rfl rfl)))) (am_nd_ok (am_lf_ok (fun _ => ok_iload_n dX12_next0_230 rfl rfl)) (am_nd_ok (am_lf_ok (fun _ => ok_bipush dX12_next0_231 cv_bipush_43 rfl)) (am_lf_ok (fun _ => ok_cmp_eq dX12_next0_233 rfl rfl))))))
def tX12_next0_5 : Nat → Option am_Act := am_nd 260 (am_nd 248 (am_nd 242 (am_nd 237 (am_lf 236 (a_iload 1 237)) (am_nd 239 (am_lf 237 (a_const (nI 45) 239)) (am_lf 239 (a_cmp (fun x y => x = y) 284 242)))) (am_nd 243 (am_lf 242 (a_iload 1 243)) (am_nd 245 (am_lf 243 (a_const (nI 42) 245)) (am_lf 245 (a_cmp (fun x y => x = y) 284 248))))) (am_nd 254 (am_nd 249 (am_lf 248 (a_iload 1 249)) (am_nd 251 (am_lf 249 (a_const (nI 47) 251)) (am_lf 251 (a_cmp (fun x y => x = y) 284 254)))) (am_nd 255 (am_lf 254 (a_iload 1 255)) (am_nd 257 (am_lf 255 (a_const (nI 40) 257)) (am_lf 257 (a_cmp (fun x y => x = y) 284 260)))))) (am_nd 272 (am_nd 266 (am_nd 261 (am_lf 260 (a_iload 1 261)) (am_nd 263 (am_lf 261 (a_const (nI 41) 263)) (am_lf 263 (a_cmp (fun x y => x = y) 284 266)))) (am_nd 267 (am_lf 266 (a_iload 1 267)) (am_nd 269 (am_lf 267 (a_const (nI 60) 269)) (am_lf 269 (a_cmp (fun x y => x = y) 284 272))))) (am_nd 278 (am_nd 273 (am_lf 272 (a_iload 1 273)) (am_nd 275 (am_lf 273 (a_const (nI 61) 275)) (am_lf 275 (a_cmp (fun x y => x = y) 284 278)))) (am_nd 279 (am_lf 278 (a_iload 1 279)) (am_nd 281 (am_lf 279 (a_const (nI 62) 281)) (am_lf 281 (a_cmp (fun x y => x = y) 284 288))))))
theorem gX12_next0_5 : am_Good tT mX12_next0 tX12_next0_5 := am_nd_ok (am_nd_ok (am_nd_ok (am_nd_ok (am_lf_ok (fun _ => ok_iload_n dX12_next0_236 rfl rfl)) (am_nd_ok (am_lf_ok (fun _ => ok_bipush dX12_next0_237 cv_bipush_45 rfl)) (am_lf_ok (fun _ => ok_cmp_eq dX12_next0_239 rfl rfl)))) (am_nd_ok (am_lf_ok (fun _ => ok_iload_n dX12_next0_242 rfl rfl)) (am_nd_ok (am_lf_ok (fun _ => ok_bipush dX12_next0_243 cv_bipush_42 rfl)) (am_lf_ok (fun _ => ok_cmp_eq dX12_next0_245 rfl rfl))))) (am_nd_ok (am_nd_ok (am_lf_ok (fun _ => ok_iload_n dX12_next0_248 rfl rfl)) (am_nd_ok (am_lf_ok (fun _ => ok_bipush dX12_next0_249 cv_bipush_47 rfl)) (am_lf_ok (fun _ => ok_cmp_eq dX12_next0_251 rfl rfl)))) (am_nd_ok (am_lf_ok (fun _ => ok_iload_n dX12_next0_254 rfl rfl)) (am_nd_ok (am_lf_ok (fun _ => ok_bipush dX12_next0_255 cv_bipush_40 rfl)) (am_lf_ok (fun _ => ok_cmp_eq dX12_next0_257 rfl rfl)))))) (am_nd_ok (am_nd_ok (am_nd_ok (am_lf_ok (fun _ => ok_iload_n dX12_next0_260 rfl rfl)) (am_nd_ok (am_lf_ok (fun _ => ok_bipush dX12_next0_261 cv_bipush_41 rfl)) (am_lf_ok (fun _ => ok_cmp_eq dX12_next0_263 rfl rfl)))) (am_nd_ok (am_lf_ok (fun _ => ok_iload_n dX12_next0_266 rfl rfl)) (am_nd_ok (am_lf_ok (fun _ => ok_bipush dX12_next0_267 cv_bipush_60 rfl)) (am_lf_ok (fun _ => ok_cmp_eq dX12_next0_269 rfl rfl))))) (am_nd_ok (am_nd_ok (am_lf_ok (fun _ => ok_iload_n dX12_next0_272 rfl rfl)) (am_nd_ok (am_lf_ok (fun _ => ok_bipush dX12_next0_273 cv_bipush_61 rfl)) (am_lf_ok (fun _ => ok_cmp_eq dX12_next0_275 rfl rfl)))) (am_nd_ok (am_lf_ok (fun _ => ok_iload_n dX12_next0_278 rfl rfl)) (am_nd_ok (am_lf_ok (fun _ => ok_bipush dX12_next0_279 cv_bipush_62 rfl)) (am_lf_ok (fun _ => ok_cmp_ne dX12_next0_281 rfl rfl))))))
def tX12_next0_6 : Nat → Option am_Act := am_nd 295 (am_nd 289 (am_nd 285 (am_lf 284 (a_const (nI 1) 285)) (am_nd 288 (am_lf 285 (a_goto 289)) (am_lf 288 (a_const (nI 0) 289)))) (am_nd 291 (am_nd 290 (am_lf 289 (a_istore 2 290)) (am_lf 290 (a_aload 0 291))) (am_nd 292 (am_lf 291 (a_iload 2 292)) (am_lf 292 (a_if (fun x => x = nI 0) 302 295))))) (am_nd 299 (am_nd 297 (am_lf 295 (a_const (nI 100) 297)) (am_nd 298 (am_lf 297 (a_iload 1 298)) (am_lf 298 (a_bin (fun x y => x + y) 299)))) (am_nd 303 (am_nd 302 (am_lf 299 (a_goto 303)) (am_lf 302 (a_const (nI 1) 303))) (am_nd 306 (am_lf 303 (a_put tT 12 15 306)) (am_lf 306 (a_ret)))))
theorem gX12_next0_6 : am_Good tT mX12_next0 tX12_next0_6 := am_nd_ok (am_nd_ok (am_nd_ok (am_lf_ok (fun _ => ok_iconst dX12_next0_284 cv_iconst_1 rfl)) (am_nd_ok (am_lf_ok (fun _ => ok_goto dX12_next0_285 rfl)) (am_lf_ok (fun _ => ok_iconst dX12_next0_288 cv_iconst_0 rfl)))) (am_nd_ok (am_nd_ok (am_lf_ok (fun _ => ok_istore_n dX12_next0_289 rfl (Nat.le_of_ble_eq_true rfl) rfl)) (am_lf_ok (fun _ => ok_aload_n dX12_next0_290 rfl rfl))) (am_nd_ok (am_lf_ok (fun _ => ok_iload_n dX12_next0_291 rfl rfl)) (am_lf_ok (fun _ => ok_if_eq dX12_next0_292 rfl rfl))))) (am_nd_ok (am_nd_ok (am_lf_ok (fun _ => ok_bipush dX12_next0_295 cv_bipush_100 rfl)) (am_nd_ok (am_lf_ok (fun _ => ok_iload_n dX12_next0_297 rfl rfl)) (am_lf_ok (fun _ => ok_iadd dX12_next0_298 rfl)))) (am_nd_ok (am_nd_ok (am_lf_ok (fun _ => ok_goto dX12_next0_299 rfl)) (am_lf_ok (fun _ => ok_iconst dX12_next0_302 cv_iconst_1 rfl))) (am_nd_ok (am_lf_ok (fun _ => ok_put (C := RX12) (TT := TX12) (N := 31) (ty0 := tyX12) rfl inw_X12 tyX12_ok nmX12 (Nat.le_of_ble_eq_true rfl) rfl rfl wd_495 dX12_next0_303 rfl)) (am_lf_ok (fun _ => ok_ret rfl dX12_next0_306)))))
def tX12_next0 : Nat → Option am_Act := am_nd 148 (am_nd 48 (tX12_next0_0) (am_nd 96 (tX12_next0_1) (tX12_next0_2))) (am_nd 236 (am_nd 190 (tX12_next0_3) (tX12_next0_4)) (am_nd 284 (tX12_next0_5) (tX12_next0_6)))
theorem gX12_next0 : am_Good tT mX12_next0 tX12_next0 := am_nd_ok (am_nd_ok (gX12_next0_0) (am_nd_ok (gX12_next0_1) (gX12_next0_2))) (am_nd_ok (am_nd_ok (gX12_next0_3) (gX12_next0_4)) (am_nd_ok (gX12_next0_5) (gX12_next0_6)))
theorem dX12_bad_0 : decode cX12_bad 0 = .ok (.aload_n 0, 1) := by decide +kernel
theorem dX12_bad_1 : decode cX12_bad 1 = .ok (.iload_n 1, 1) := by decide +kernel
theorem dX12_bad_2 : decode cX12_bad 2 = .ok (.putfield 169, 3) := by decide +kernel
theorem dX12_bad_5 : decode cX12_bad 5 = .ok (.aload_n 0, 1) := by decide +kernel
theorem dX12_bad_6 : decode cX12_bad 6 = .ok (.aload_n 0, 1) := by decide +kernel
theorem dX12_bad_7 : decode cX12_bad 7 = .ok (.getfield 103, 3) := by decide +kernel
theorem dX12_bad_10 : decode cX12_bad 10 = .ok (.putfield 172, 3) := by decide +kernel
theorem dX12_bad_13 : decode cX12_bad 13 = .ok (.iconst 0, 1) := by decide +kernel
theorem dX12_bad_14 : decode cX12_bad 14 = .ok (.ireturn, 1) := by decide +kernel
def tX12_bad_0 : Nat → Option am_Act := am_nd 6 (am_nd 2 (am_nd 1 (am_lf 0 (a_aload 0 1)) (am_lf 1 (a_iload 1 2))) (am_nd 5 (am_lf 2 (a_put tT 12 18 5)) (am_lf 5 (a_aload 0 6)))) (am_nd 10 (am_nd 7 (am_lf 6 (a_aload 0 7)) (am_lf 7 (a_get tT 12 16 10))) (am_nd 13 (am_lf 10 (a_put tT 12 19 13)) (am_nd 14 (am_lf 13 (a_const (nI 0) 14)) (am_lf 14 (a_zret)))))
theorem gX12_bad_0 : am_Good tT mX12_bad tX12_bad_0 := am_nd_ok (am_nd_ok (am_nd_ok (am_lf_ok (fun _ => ok_aload_n dX12_bad_0 rfl rfl)) (am_lf_ok (fun _ => ok_iload_n dX12_bad_1 rfl rfl))) (am_nd_ok (am_lf_ok (fun _ => ok_put (C := RX12) (TT := TX12) (N := 31) (ty0 := tyX12) rfl inw_X12 tyX12_ok nmX12 (Nat.le_of_ble_eq_true rfl) rfl rfl wd_504 dX12_bad_2 rfl)) (am_lf_ok (fun _ => ok_aload_n dX12_bad_5 rfl rfl)))) (am_nd_ok (am_nd_ok (am_lf_ok (fun _ => ok_aload_n dX12_bad_6 rfl rfl)) (am_lf_ok (fun _ => ok_get (C := RX12) (TT := TX12) (N := 31) rfl inw_X12 (Nat.le_of_ble_eq_true rfl) wd_483 dX12_bad_7 rfl))) (am_nd_ok (am_lf_ok (fun _ => ok_put (C := RX12) (TT := TX12) (N := 31) (ty0 := tyX12) rfl inw_X12 tyX12_ok nmX12 (Nat.le_of_ble_eq_true rfl) rfl rfl wd_505 dX12_bad_10 rfl)) (am_nd_ok (am_lf_ok (fun _ => ok_iconst dX12_bad_13 cv_iconst_0 rfl)) (am_lf_ok (fun _ => ok_zret rfl dX12_bad_14)))))
def tX12_bad : Nat → Option am_Act := tX12_bad_0
theorem gX12_bad : am_Good tT mX12_bad tX12_bad := gX12_bad_0
theorem dX12_need_0 : decode cX12_need 0 = .ok (.aload_n 0, 1) := by decide +kernel
theorem dX12_need_1 : decode cX12_need 1 = .ok (.getfield 154, 3) := by decide +kernel
theorem dX12_need_4 : decode cX12_need 4 = .ok (.iload_n 1, 1) := by decide +kernel
theorem dX12_need_5 : decode cX12_need 5 = .ok (.if_icmp .eq 9, 3) := by decide +kernel
theorem dX12_need_8 : decode cX12_need 8 = .ok (.aload_n 0, 1) := by decide +kernel
theorem dX12_need_9 : decode cX12_need 9 = .ok (.iconst 1, 1) := by decide +kernel
theorem dX12_need_10 : decode cX12_need 10 = .ok (.invokevirtual 175, 3) := by decide +kernel
theorem dX12_need_13 : decode cX12_need 13 = .ok (.ireturn, 1) := by decide +kernel
theorem dX12_need_14 : decode cX12_need 14 = .ok (.aload_n 0, 1) := by decide +kernel
theorem dX12_need_15 : decode cX12_need 15 = .ok (.invokevirtual 178, 3) := by decide +kernel
theorem dX12_need_18 : decode cX12_need 18 = .ok (.iconst 1, 1) := by decide +kernel
theorem dX12_need_19 : decode cX12_need 19 = .ok (.ireturn, 1) := by decide +kernel
def tX12_need_0 : Nat → Option am_Act := am_nd 10 (am_nd 5 (am_nd 1 (am_lf 0 (a_aload 0 1)) (am_nd 4 (am_lf 1 (a_get tT 12 15 4)) (am_lf 4 (a_iload 1 5)))) (am_nd 8 (am_lf 5 (a_cmp (fun x y => x = y) 14 8)) (am_nd 9 (am_lf 8 (a_aload 0 9)) (am_lf 9 (a_const (nI 1) 10))))) (am_nd 15 (am_nd 13 (am_lf 10 (a_cvI tT mX12_bad 12 1 13)) (am_nd 14 (am_lf 13 (a_zret)) (am_lf 14 (a_aload 0 15)))) (am_nd 18 (am_lf 15 (a_cvV tT mX12_next0 12 0 18)) (am_nd 19 (am_lf 18 (a_const (nI 1) 19)) (am_lf 19 (a_zret)))))
theorem gX12_need_0 : am_Good tT mX12_need tX12_need_0 := am_nd_ok (am_nd_ok (am_nd_ok (am_lf_ok (fun _ => ok_aload_n dX12_need_0 rfl rfl)) (am_nd_ok (am_lf_ok (fun _ => ok_get (C := RX12) (TT := TX12) (N := 31) rfl inw_X12 (Nat.le_of_ble_eq_true rfl) wd_495 dX12_need_1 rfl)) (am_lf_ok (fun _ => ok_iload_n dX12_need_4 rfl rfl)))) (am_nd_ok (am_lf_ok (fun _ => ok_cmp_eq dX12_need_5 rfl rfl)) (am_nd_ok (am_lf_ok (fun _ => ok_aload_n dX12_need_8 rfl rfl)) (am_lf_ok (fun _ => ok_iconst dX12_need_9 cv_iconst_1 rfl))))) (am_nd_ok (am_nd_ok (am_lf_ok (fun _ => ok_cvI rfl mw_X12_bad (ci := 12) rfl rfl wd_506 wd_507 wd_508 dX12_need_10 rfl)) (am_nd_ok (am_lf_ok (fun _ => ok_zret rfl dX12_need_13)) (am_lf_ok (fun _ => ok_aload_n dX12_need_14 rfl rfl)))) (am_nd_ok (am_lf_ok (fun _ => ok_cvV rfl mw_X12_next0 (ci := 12) rfl rfl wd_509 wd_510 wd_511 dX12_need_15 rfl)) (am_nd_ok (am_lf_ok (fun _ => ok_iconst dX12_need_18 cv_iconst_1 rfl)) (am_lf_ok (fun _ => ok_zret rfl dX12_need_19)))))
def tX12_need : Nat → Option am_Act := tX12_need_0
theorem gX12_need : am_Good tT mX12_need tX12_need := gX12_need_0
