/-! ===== code of TollOfNamesModel ===== -/
theorem dX12_keeps_0 : decode cX12_keeps 0 = .ok (.aload_n 0, 1) := by decide +kernel
theorem dX12_keeps_1 : decode cX12_keeps 1 = .ok (.getfield 62, 3) := by decide +kernel
theorem dX12_keeps_4 : decode cX12_keeps 4 = .ok (.bipush 8, 2) := by decide +kernel
theorem dX12_keeps_6 : decode cX12_keeps 6 = .ok (.if_icmp .ne 44, 3) := by decide +kernel
theorem dX12_keeps_9 : decode cX12_keeps 9 = .ok (.iconst 0, 1) := by decide +kernel
theorem dX12_keeps_10 : decode cX12_keeps 10 = .ok (.istore_n 1, 1) := by decide +kernel
theorem dX12_keeps_11 : decode cX12_keeps 11 = .ok (.iload_n 1, 1) := by decide +kernel
theorem dX12_keeps_12 : decode cX12_keeps 12 = .ok (.sipush 2597, 3) := by decide +kernel
theorem dX12_keeps_15 : decode cX12_keeps 15 = .ok (.if_icmp .ge 25, 3) := by decide +kernel
theorem dX12_keeps_18 : decode cX12_keeps 18 = .ok (.aload_n 0, 1) := by decide +kernel
theorem dX12_keeps_19 : decode cX12_keeps 19 = .ok (.getfield 16, 3) := by decide +kernel
theorem dX12_keeps_22 : decode cX12_keeps 22 = .ok (.iload_n 1, 1) := by decide +kernel
theorem dX12_keeps_23 : decode cX12_keeps 23 = .ok (.aload_n 0, 1) := by decide +kernel
theorem dX12_keeps_24 : decode cX12_keeps 24 = .ok (.getfield 16, 3) := by decide +kernel
theorem dX12_keeps_27 : decode cX12_keeps 27 = .ok (.iload_n 1, 1) := by decide +kernel
theorem dX12_keeps_28 : decode cX12_keeps 28 = .ok (.sipush 371, 3) := by decide +kernel
theorem dX12_keeps_31 : decode cX12_keeps 31 = .ok (.iadd, 1) := by decide +kernel
theorem dX12_keeps_32 : decode cX12_keeps 32 = .ok (.iaload, 1) := by decide +kernel
theorem dX12_keeps_33 : decode cX12_keeps 33 = .ok (.iastore, 1) := by decide +kernel
theorem dX12_keeps_34 : decode cX12_keeps 34 = .ok (.iinc 1 1, 3) := by decide +kernel
theorem dX12_keeps_37 : decode cX12_keeps 37 = .ok (.goto (-26), 3) := by decide +kernel
theorem dX12_keeps_40 : decode cX12_keeps 40 = .ok (.aload_n 0, 1) := by decide +kernel
theorem dX12_keeps_41 : decode cX12_keeps 41 = .ok (.dup, 1) := by decide +kernel
theorem dX12_keeps_42 : decode cX12_keeps 42 = .ok (.getfield 62, 3) := by decide +kernel
theorem dX12_keeps_45 : decode cX12_keeps 45 = .ok (.iconst 1, 1) := by decide +kernel
theorem dX12_keeps_46 : decode cX12_keeps 46 = .ok (.isub, 1) := by decide +kernel
theorem dX12_keeps_47 : decode cX12_keeps 47 = .ok (.putfield 62, 3) := by decide +kernel
theorem dX12_keeps_50 : decode cX12_keeps 50 = .ok (.aload_n 0, 1) := by decide +kernel
theorem dX12_keeps_51 : decode cX12_keeps 51 = .ok (.getfield 16, 3) := by decide +kernel
theorem dX12_keeps_54 : decode cX12_keeps 54 = .ok (.sipush 371, 3) := by decide +kernel
theorem dX12_keeps_57 : decode cX12_keeps 57 = .ok (.aload_n 0, 1) := by decide +kernel
theorem dX12_keeps_58 : decode cX12_keeps 58 = .ok (.getfield 62, 3) := by decide +kernel
theorem dX12_keeps_61 : decode cX12_keeps 61 = .ok (.imul, 1) := by decide +kernel
theorem dX12_keeps_62 : decode cX12_keeps 62 = .ok (.aload_n 0, 1) := by decide +kernel
theorem dX12_keeps_63 : decode cX12_keeps 63 = .ok (.getfield 7, 3) := by decide +kernel
theorem dX12_keeps_66 : decode cX12_keeps 66 = .ok (.iconst 4, 1) := by decide +kernel
theorem dX12_keeps_67 : decode cX12_keeps 67 = .ok (.iaload, 1) := by decide +kernel
theorem dX12_keeps_68 : decode cX12_keeps 68 = .ok (.iastore, 1) := by decide +kernel
theorem dX12_keeps_69 : decode cX12_keeps 69 = .ok (.iconst 0, 1) := by decide +kernel
theorem dX12_keeps_70 : decode cX12_keeps 70 = .ok (.istore_n 1, 1) := by decide +kernel
theorem dX12_keeps_71 : decode cX12_keeps 71 = .ok (.iload_n 1, 1) := by decide +kernel
theorem dX12_keeps_72 : decode cX12_keeps 72 = .ok (.sipush 370, 3) := by decide +kernel
theorem dX12_keeps_75 : decode cX12_keeps 75 = .ok (.if_icmp .ge 35, 3) := by decide +kernel
theorem dX12_keeps_78 : decode cX12_keeps 78 = .ok (.aload_n 0, 1) := by decide +kernel
theorem dX12_keeps_79 : decode cX12_keeps 79 = .ok (.getfield 16, 3) := by decide +kernel
theorem dX12_keeps_82 : decode cX12_keeps 82 = .ok (.sipush 371, 3) := by decide +kernel
theorem dX12_keeps_85 : decode cX12_keeps 85 = .ok (.aload_n 0, 1) := by decide +kernel
theorem dX12_keeps_86 : decode cX12_keeps 86 = .ok (.getfield 62, 3) := by decide +kernel
theorem dX12_keeps_89 : decode cX12_keeps 89 = .ok (.imul, 1) := by decide +kernel
theorem dX12_keeps_90 : decode cX12_keeps 90 = .ok (.iconst 1, 1) := by decide +kernel
theorem dX12_keeps_91 : decode cX12_keeps 91 = .ok (.iadd, 1) := by decide +kernel
theorem dX12_keeps_92 : decode cX12_keeps 92 = .ok (.iload_n 1, 1) := by decide +kernel
theorem dX12_keeps_93 : decode cX12_keeps 93 = .ok (.iadd, 1) := by decide +kernel
theorem dX12_keeps_94 : decode cX12_keeps 94 = .ok (.aload_n 0, 1) := by decide +kernel
theorem dX12_keeps_95 : decode cX12_keeps 95 = .ok (.getfield 7, 3) := by decide +kernel
theorem dX12_keeps_98 : decode cX12_keeps 98 = .ok (.bipush 90, 2) := by decide +kernel
theorem dX12_keeps_100 : decode cX12_keeps 100 = .ok (.iload_n 1, 1) := by decide +kernel
theorem dX12_keeps_101 : decode cX12_keeps 101 = .ok (.iadd, 1) := by decide +kernel
theorem dX12_keeps_102 : decode cX12_keeps 102 = .ok (.iaload, 1) := by decide +kernel
theorem dX12_keeps_103 : decode cX12_keeps 103 = .ok (.iastore, 1) := by decide +kernel
theorem dX12_keeps_104 : decode cX12_keeps 104 = .ok (.iinc 1 1, 3) := by decide +kernel
theorem dX12_keeps_107 : decode cX12_keeps 107 = .ok (.goto (-36), 3) := by decide +kernel
theorem dX12_keeps_110 : decode cX12_keeps 110 = .ok (.aload_n 0, 1) := by decide +kernel
theorem dX12_keeps_111 : decode cX12_keeps 111 = .ok (.dup, 1) := by decide +kernel
theorem dX12_keeps_112 : decode cX12_keeps 112 = .ok (.getfield 62, 3) := by decide +kernel
theorem dX12_keeps_115 : decode cX12_keeps 115 = .ok (.iconst 1, 1) := by decide +kernel
theorem dX12_keeps_116 : decode cX12_keeps 116 = .ok (.iadd, 1) := by decide +kernel
theorem dX12_keeps_117 : decode cX12_keeps 117 = .ok (.putfield 62, 3) := by decide +kernel
theorem dX12_keeps_120 : decode cX12_keeps 120 = .ok (.return_, 1) := by decide +kernel
def tX12_keeps_0 : Nat → Option am_Act := am_nd 23 (am_nd 11 (am_nd 6 (am_nd 1 (am_lf 0 (a_aload 0 1)) (am_nd 4 (am_lf 1 (a_get tT 12 4 4)) (am_lf 4 (a_const (nI 8) 6)))) (am_nd 9 (am_lf 6 (a_cmp (fun x y => x = y) 9 50)) (am_nd 10 (am_lf 9 (a_const (nI 0) 10)) (am_lf 10 (a_istore 1 11))))) (am_nd 18 (am_nd 12 (am_lf 11 (a_iload 1 12)) (am_nd 15 (am_lf 12 (a_const (nI 2597) 15)) (am_lf 15 (a_cmp (fun x y => y ≤ x) 40 18)))) (am_nd 19 (am_lf 18 (a_aload 0 19)) (am_nd 22 (am_lf 19 (a_get tT 12 2 22)) (am_lf 22 (a_iload 1 23)))))) (am_nd 33 (am_nd 28 (am_nd 24 (am_lf 23 (a_aload 0 24)) (am_nd 27 (am_lf 24 (a_get tT 12 2 27)) (am_lf 27 (a_iload 1 28)))) (am_nd 31 (am_lf 28 (a_const (nI 371) 31)) (am_nd 32 (am_lf 31 (a_bin (fun x y => x + y) 32)) (am_lf 32 (a_iald tT 33))))) (am_nd 40 (am_nd 34 (am_lf 33 (a_iast tT 34)) (am_nd 37 (am_lf 34 (a_iinc 1 (nI 1) 37)) (am_lf 37 (a_goto 11)))) (am_nd 41 (am_lf 40 (a_aload 0 41)) (am_nd 42 (am_lf 41 (a_dup 42)) (am_lf 42 (a_get tT 12 4 45))))))
theorem gX12_keeps_0 : am_Good tT mX12_keeps tX12_keeps_0 := am_nd_ok (am_nd_ok (am_nd_ok (am_nd_ok (am_lf_ok (fun _ => ok_aload_n dX12_keeps_0 rfl rfl)) (am_nd_ok (am_lf_ok (fun _ => ok_get (C := RX12) (TT := TX12) (N := 31) rfl inw_X12 (Nat.le_of_ble_eq_true rfl) wd_453 dX12_keeps_1 rfl)) (am_lf_ok (fun _ => ok_bipush dX12_keeps_4 cv_bipush_8 rfl)))) (am_nd_ok (am_lf_ok (fun _ => ok_cmp_ne dX12_keeps_6 rfl rfl)) (am_nd_ok (am_lf_ok (fun _ => ok_iconst dX12_keeps_9 cv_iconst_0 rfl)) (am_lf_ok (fun _ => ok_istore_n dX12_keeps_10 rfl (Nat.le_of_ble_eq_true rfl) rfl))))) (am_nd_ok (am_nd_ok (am_lf_ok (fun _ => ok_iload_n dX12_keeps_11 rfl rfl)) (am_nd_ok (am_lf_ok (fun _ => ok_sipush dX12_keeps_12 cv_sipush_2597 rfl)) (am_lf_ok (fun _ => ok_cmp_ge dX12_keeps_15 rfl rfl)))) (am_nd_ok (am_lf_ok (fun _ => ok_aload_n dX12_keeps_18 rfl rfl)) (am_nd_ok (am_lf_ok (fun _ => ok_get (C := RX12) (TT := TX12) (N := 31) rfl inw_X12 (Nat.le_of_ble_eq_true rfl) wd_568 dX12_keeps_19 rfl)) (am_lf_ok (fun _ => ok_iload_n dX12_keeps_22 rfl rfl)))))) (am_nd_ok (am_nd_ok (am_nd_ok (am_lf_ok (fun _ => ok_aload_n dX12_keeps_23 rfl rfl)) (am_nd_ok (am_lf_ok (fun _ => ok_get (C := RX12) (TT := TX12) (N := 31) rfl inw_X12 (Nat.le_of_ble_eq_true rfl) wd_568 dX12_keeps_24 rfl)) (am_lf_ok (fun _ => ok_iload_n dX12_keeps_27 rfl rfl)))) (am_nd_ok (am_lf_ok (fun _ => ok_sipush dX12_keeps_28 cv_sipush_371 rfl)) (am_nd_ok (am_lf_ok (fun _ => ok_iadd dX12_keeps_31 rfl)) (am_lf_ok (fun _ => ok_iald dX12_keeps_32 rfl))))) (am_nd_ok (am_nd_ok (am_lf_ok (fun _ => ok_iast dX12_keeps_33 rfl)) (am_nd_ok (am_lf_ok (fun _ => ok_iinc dX12_keeps_34 cv_iconst_1 (Nat.le_of_ble_eq_true rfl) rfl)) (am_lf_ok (fun _ => ok_goto dX12_keeps_37 rfl)))) (am_nd_ok (am_lf_ok (fun _ => ok_aload_n dX12_keeps_40 rfl rfl)) (am_nd_ok (am_lf_ok (fun _ => ok_dup dX12_keeps_41 rfl)) (am_lf_ok (fun _ => ok_get (C := RX12) (TT := TX12) (N := 31) rfl inw_X12 (Nat.le_of_ble_eq_true rfl) wd_453 dX12_keeps_42 rfl))))))
def tX12_keeps_1 : Nat → Option am_Act := am_nd 67 (am_nd 57 (am_nd 50 (am_nd 46 (am_lf 45 (a_const (nI 1) 46)) (am_nd 47 (am_lf 46 (a_bin (fun x y => x - y) 47)) (am_lf 47 (a_put tT 12 4 50)))) (am_nd 51 (am_lf 50 (a_aload 0 51)) (am_nd 54 (am_lf 51 (a_get tT 12 2 54)) (am_lf 54 (a_const (nI 371) 57))))) (am_nd 62 (am_nd 58 (am_lf 57 (a_aload 0 58)) (am_nd 61 (am_lf 58 (a_get tT 12 4 61)) (am_lf 61 (a_bin (fun x y => x * y) 62)))) (am_nd 63 (am_lf 62 (a_aload 0 63)) (am_nd 66 (am_lf 63 (a_get tT 12 0 66)) (am_lf 66 (a_const (nI 4) 67)))))) (am_nd 75 (am_nd 70 (am_nd 68 (am_lf 67 (a_iald tT 68)) (am_nd 69 (am_lf 68 (a_iast tT 69)) (am_lf 69 (a_const (nI 0) 70)))) (am_nd 71 (am_lf 70 (a_istore 1 71)) (am_nd 72 (am_lf 71 (a_iload 1 72)) (am_lf 72 (a_const (nI 370) 75))))) (am_nd 82 (am_nd 78 (am_lf 75 (a_cmp (fun x y => y ≤ x) 110 78)) (am_nd 79 (am_lf 78 (a_aload 0 79)) (am_lf 79 (a_get tT 12 2 82)))) (am_nd 85 (am_lf 82 (a_const (nI 371) 85)) (am_nd 86 (am_lf 85 (a_aload 0 86)) (am_lf 86 (a_get tT 12 4 89))))))
theorem gX12_keeps_1 : am_Good tT mX12_keeps tX12_keeps_1 := am_nd_ok (am_nd_ok (am_nd_ok (am_nd_ok (am_lf_ok (fun _ => ok_iconst dX12_keeps_45 cv_iconst_1 rfl)) (am_nd_ok (am_lf_ok (fun _ => ok_isub dX12_keeps_46 rfl)) (am_lf_ok (fun _ => ok_put (C := RX12) (TT := TX12) (N := 31) (ty0 := tyX12) rfl inw_X12 tyX12_ok nmX12 (Nat.le_of_ble_eq_true rfl) rfl rfl wd_453 dX12_keeps_47 rfl)))) (am_nd_ok (am_lf_ok (fun _ => ok_aload_n dX12_keeps_50 rfl rfl)) (am_nd_ok (am_lf_ok (fun _ => ok_get (C := RX12) (TT := TX12) (N := 31) rfl inw_X12 (Nat.le_of_ble_eq_true rfl) wd_568 dX12_keeps_51 rfl)) (am_lf_ok (fun _ => ok_sipush dX12_keeps_54 cv_sipush_371 rfl))))) (am_nd_ok (am_nd_ok (am_lf_ok (fun _ => ok_aload_n dX12_keeps_57 rfl rfl)) (am_nd_ok (am_lf_ok (fun _ => ok_get (C := RX12) (TT := TX12) (N := 31) rfl inw_X12 (Nat.le_of_ble_eq_true rfl) wd_453 dX12_keeps_58 rfl)) (am_lf_ok (fun _ => ok_imul dX12_keeps_61 rfl)))) (am_nd_ok (am_lf_ok (fun _ => ok_aload_n dX12_keeps_62 rfl rfl)) (am_nd_ok (am_lf_ok (fun _ => ok_get (C := RX12) (TT := TX12) (N := 31) rfl inw_X12 (Nat.le_of_ble_eq_true rfl) wd_448 dX12_keeps_63 rfl)) (am_lf_ok (fun _ => ok_iconst dX12_keeps_66 cv_iconst_4 rfl)))))) (am_nd_ok (am_nd_ok (am_nd_ok (am_lf_ok (fun _ => ok_iald dX12_keeps_67 rfl)) (am_nd_ok (am_lf_ok (fun _ => ok_iast dX12_keeps_68 rfl)) (am_lf_ok (fun _ => ok_iconst dX12_keeps_69 cv_iconst_0 rfl)))) (am_nd_ok (am_lf_ok (fun _ => ok_istore_n dX12_keeps_70 rfl (Nat.le_of_ble_eq_true rfl) rfl)) (am_nd_ok (am_lf_ok (fun _ => ok_iload_n dX12_keeps_71 rfl rfl)) (am_lf_ok (fun _ => ok_sipush dX12_keeps_72 cv_sipush_370 rfl))))) (am_nd_ok (am_nd_ok (am_lf_ok (fun _ => ok_cmp_ge dX12_keeps_75 rfl rfl)) (am_nd_ok (am_lf_ok (fun _ => ok_aload_n dX12_keeps_78 rfl rfl)) (am_lf_ok (fun _ => ok_get (C := RX12) (TT := TX12) (N := 31) rfl inw_X12 (Nat.le_of_ble_eq_true rfl) wd_568 dX12_keeps_79 rfl)))) (am_nd_ok (am_lf_ok (fun _ => ok_sipush dX12_keeps_82 cv_sipush_371 rfl)) (am_nd_ok (am_lf_ok (fun _ => ok_aload_n dX12_keeps_85 rfl rfl)) (am_lf_ok (fun _ => ok_get (C := RX12) (TT := TX12) (N := 31) rfl inw_X12 (Nat.le_of_ble_eq_true rfl) wd_453 dX12_keeps_86 rfl))))))
def tX12_keeps_2 : Nat → Option am_Act := am_nd 102 (am_nd 94 (am_nd 91 (am_nd 90 (am_lf 89 (a_bin (fun x y => x * y) 90)) (am_lf 90 (a_const (nI 1) 91))) (am_nd 92 (am_lf 91 (a_bin (fun x y => x + y) 92)) (am_nd 93 (am_lf 92 (a_iload 1 93)) (am_lf 93 (a_bin (fun x y => x + y) 94))))) (am_nd 98 (am_nd 95 (am_lf 94 (a_aload 0 95)) (am_lf 95 (a_get tT 12 0 98))) (am_nd 100 (am_lf 98 (a_const (nI 90) 100)) (am_nd 101 (am_lf 100 (a_iload 1 101)) (am_lf 101 (a_bin (fun x y => x + y) 102)))))) (am_nd 111 (am_nd 104 (am_nd 103 (am_lf 102 (a_iald tT 103)) (am_lf 103 (a_iast tT 104))) (am_nd 107 (am_lf 104 (a_iinc 1 (nI 1) 107)) (am_nd 110 (am_lf 107 (a_goto 71)) (am_lf 110 (a_aload 0 111))))) (am_nd 116 (am_nd 112 (am_lf 111 (a_dup 112)) (am_nd 115 (am_lf 112 (a_get tT 12 4 115)) (am_lf 115 (a_const (nI 1) 116)))) (am_nd 117 (am_lf 116 (a_bin (fun x y => x + y) 117)) (am_nd 120 (am_lf 117 (a_put tT 12 4 120)) (am_lf 120 (a_ret))))))
theorem gX12_keeps_2 : am_Good tT mX12_keeps tX12_keeps_2 := am_nd_ok (am_nd_ok (am_nd_ok (am_nd_ok (am_lf_ok (fun _ => ok_imul dX12_keeps_89 rfl)) (am_lf_ok (fun _ => ok_iconst dX12_keeps_90 cv_iconst_1 rfl))) (am_nd_ok (am_lf_ok (fun _ => ok_iadd dX12_keeps_91 rfl)) (am_nd_ok (am_lf_ok (fun _ => ok_iload_n dX12_keeps_92 rfl rfl)) (am_lf_ok (fun _ => ok_iadd dX12_keeps_93 rfl))))) (am_nd_ok (am_nd_ok (am_lf_ok (fun _ => ok_aload_n dX12_keeps_94 rfl rfl)) (am_lf_ok (fun _ => ok_get (C := RX12) (TT := TX12) (N := 31) rfl inw_X12 (Nat.le_of_ble_eq_true rfl) wd_448 dX12_keeps_95 rfl))) (am_nd_ok (am_lf_ok (fun _ => ok_bipush dX12_keeps_98 cv_bipush_90 rfl)) (am_nd_ok (am_lf_ok (fun _ => ok_iload_n dX12_keeps_100 rfl rfl)) (am_lf_ok (fun _ => ok_iadd dX12_keeps_101 rfl)))))) (am_nd_ok (am_nd_ok (am_nd_ok (am_lf_ok (fun _ => ok_iald dX12_keeps_102 rfl)) (am_lf_ok (fun _ => ok_iast dX12_keeps_103 rfl))) (am_nd_ok (am_lf_ok (fun _ => ok_iinc dX12_keeps_104 cv_iconst_1 (Nat.le_of_ble_eq_true rfl) rfl)) (am_nd_ok (am_lf_ok (fun _ => ok_goto dX12_keeps_107 rfl)) (am_lf_ok (fun _ => ok_aload_n dX12_keeps_110 rfl rfl))))) (am_nd_ok (am_nd_ok (am_lf_ok (fun _ => ok_dup dX12_keeps_111 rfl)) (am_nd_ok (am_lf_ok (fun _ => ok_get (C := RX12) (TT := TX12) (N := 31) rfl inw_X12 (Nat.le_of_ble_eq_true rfl) wd_453 dX12_keeps_112 rfl)) (am_lf_ok (fun _ => ok_iconst dX12_keeps_115 cv_iconst_1 rfl)))) (am_nd_ok (am_lf_ok (fun _ => ok_iadd dX12_keeps_116 rfl)) (am_nd_ok (am_lf_ok (fun _ => ok_put (C := RX12) (TT := TX12) (N := 31) (ty0 := tyX12) rfl inw_X12 tyX12_ok nmX12 (Nat.le_of_ble_eq_true rfl) rfl rfl wd_453 dX12_keeps_117 rfl)) (am_lf_ok (fun _ => ok_ret rfl dX12_keeps_120))))))
def tX12_keeps : Nat → Option am_Act := am_nd 45 (tX12_keeps_0) (am_nd 89 (tX12_keeps_1) (tX12_keeps_2))
theorem gX12_keeps : am_Good tT mX12_keeps tX12_keeps := am_nd_ok (gX12_keeps_0) (am_nd_ok (gX12_keeps_1) (gX12_keeps_2))
theorem dX12_undo_0 : decode cX12_undo 0 = .ok (.aload_n 0, 1) := by decide +kernel
theorem dX12_undo_1 : decode cX12_undo 1 = .ok (.getfield 62, 3) := by decide +kernel
theorem dX12_undo_4 : decode cX12_undo 4 = .ok (.ifCond .ne 5, 3) := by decide +kernel
theorem dX12_undo_7 : decode cX12_undo 7 = .ok (.iconst 0, 1) := by decide +kernel
theorem dX12_undo_8 : decode cX12_undo 8 = .ok (.ireturn, 1) := by decide +kernel
theorem dX12_undo_9 : decode cX12_undo 9 = .ok (.aload_n 0, 1) := by decide +kernel
theorem dX12_undo_10 : decode cX12_undo 10 = .ok (.dup, 1) := by decide +kernel
theorem dX12_undo_11 : decode cX12_undo 11 = .ok (.getfield 62, 3) := by decide +kernel
theorem dX12_undo_14 : decode cX12_undo 14 = .ok (.iconst 1, 1) := by decide +kernel
theorem dX12_undo_15 : decode cX12_undo 15 = .ok (.isub, 1) := by decide +kernel
theorem dX12_undo_16 : decode cX12_undo 16 = .ok (.putfield 62, 3) := by decide +kernel
theorem dX12_undo_19 : decode cX12_undo 19 = .ok (.aload_n 0, 1) := by decide +kernel
theorem dX12_undo_20 : decode cX12_undo 20 = .ok (.getfield 7, 3) := by decide +kernel
theorem dX12_undo_23 : decode cX12_undo 23 = .ok (.iconst 4, 1) := by decide +kernel
theorem dX12_undo_24 : decode cX12_undo 24 = .ok (.aload_n 0, 1) := by decide +kernel
theorem dX12_undo_25 : decode cX12_undo 25 = .ok (.getfield 16, 3) := by decide +kernel
theorem dX12_undo_28 : decode cX12_undo 28 = .ok (.sipush 371, 3) := by decide +kernel
theorem dX12_undo_31 : decode cX12_undo 31 = .ok (.aload_n 0, 1) := by decide +kernel
theorem dX12_undo_32 : decode cX12_undo 32 = .ok (.getfield 62, 3) := by decide +kernel
theorem dX12_undo_35 : decode cX12_undo 35 = .ok (.imul, 1) := by decide +kernel
theorem dX12_undo_36 : decode cX12_undo 36 = .ok (.iaload, 1) := by decide +kernel
theorem dX12_undo_37 : decode cX12_undo 37 = .ok (.iastore, 1) := by decide +kernel
theorem dX12_undo_38 : decode cX12_undo 38 = .ok (.iconst 0, 1) := by decide +kernel
theorem dX12_undo_39 : decode cX12_undo 39 = .ok (.istore_n 1, 1) := by decide +kernel
theorem dX12_undo_40 : decode cX12_undo 40 = .ok (.iload_n 1, 1) := by decide +kernel
theorem dX12_undo_41 : decode cX12_undo 41 = .ok (.sipush 370, 3) := by decide +kernel
theorem dX12_undo_44 : decode cX12_undo 44 = .ok (.if_icmp .ge 35, 3) := by decide +kernel
theorem dX12_undo_47 : decode cX12_undo 47 = .ok (.aload_n 0, 1) := by decide +kernel
theorem dX12_undo_48 : decode cX12_undo 48 = .ok (.getfield 7, 3) := by decide +kernel
theorem dX12_undo_51 : decode cX12_undo 51 = .ok (.bipush 90, 2) := by decide +kernel
theorem dX12_undo_53 : decode cX12_undo 53 = .ok (.iload_n 1, 1) := by decide +kernel
theorem dX12_undo_54 : decode cX12_undo 54 = .ok (.iadd, 1) := by decide +kernel
theorem dX12_undo_55 : decode cX12_undo 55 = .ok (.aload_n 0, 1) := by decide +kernel
theorem dX12_undo_56 : decode cX12_undo 56 = .ok (.getfield 16, 3) := by decide +kernel
theorem dX12_undo_59 : decode cX12_undo 59 = .ok (.sipush 371, 3) := by decide +kernel
theorem dX12_undo_62 : decode cX12_undo 62 = .ok (.aload_n 0, 1) := by decide +kernel
theorem dX12_undo_63 : decode cX12_undo 63 = .ok (.getfield 62, 3) := by decide +kernel
theorem dX12_undo_66 : decode cX12_undo 66 = .ok (.imul, 1) := by decide +kernel
theorem dX12_undo_67 : decode cX12_undo 67 = .ok (.iconst 1, 1) := by decide +kernel
theorem dX12_undo_68 : decode cX12_undo 68 = .ok (.iadd, 1) := by decide +kernel
theorem dX12_undo_69 : decode cX12_undo 69 = .ok (.iload_n 1, 1) := by decide +kernel
theorem dX12_undo_70 : decode cX12_undo 70 = .ok (.iadd, 1) := by decide +kernel
theorem dX12_undo_71 : decode cX12_undo 71 = .ok (.iaload, 1) := by decide +kernel
theorem dX12_undo_72 : decode cX12_undo 72 = .ok (.iastore, 1) := by decide +kernel
theorem dX12_undo_73 : decode cX12_undo 73 = .ok (.iinc 1 1, 3) := by decide +kernel
theorem dX12_undo_76 : decode cX12_undo 76 = .ok (.goto (-36), 3) := by decide +kernel
theorem dX12_undo_79 : decode cX12_undo 79 = .ok (.iconst 1, 1) := by decide +kernel
theorem dX12_undo_80 : decode cX12_undo 80 = .ok (.ireturn, 1) := by decide +kernel
def tX12_undo_0 : Nat → Option am_Act := am_nd 20 (am_nd 10 (am_nd 7 (am_nd 1 (am_lf 0 (a_aload 0 1)) (am_nd 4 (am_lf 1 (a_get tT 12 4 4)) (am_lf 4 (a_if (fun x => x = nI 0) 7 9)))) (am_nd 8 (am_lf 7 (a_const (nI 0) 8)) (am_nd 9 (am_lf 8 (a_zret)) (am_lf 9 (a_aload 0 10))))) (am_nd 15 (am_nd 11 (am_lf 10 (a_dup 11)) (am_nd 14 (am_lf 11 (a_get tT 12 4 14)) (am_lf 14 (a_const (nI 1) 15)))) (am_nd 16 (am_lf 15 (a_bin (fun x y => x - y) 16)) (am_nd 19 (am_lf 16 (a_put tT 12 4 19)) (am_lf 19 (a_aload 0 20)))))) (am_nd 32 (am_nd 25 (am_nd 23 (am_lf 20 (a_get tT 12 0 23)) (am_nd 24 (am_lf 23 (a_const (nI 4) 24)) (am_lf 24 (a_aload 0 25)))) (am_nd 28 (am_lf 25 (a_get tT 12 2 28)) (am_nd 31 (am_lf 28 (a_const (nI 371) 31)) (am_lf 31 (a_aload 0 32))))) (am_nd 37 (am_nd 35 (am_lf 32 (a_get tT 12 4 35)) (am_nd 36 (am_lf 35 (a_bin (fun x y => x * y) 36)) (am_lf 36 (a_iald tT 37)))) (am_nd 38 (am_lf 37 (a_iast tT 38)) (am_nd 39 (am_lf 38 (a_const (nI 0) 39)) (am_lf 39 (a_istore 1 40))))))
theorem gX12_undo_0 : am_Good tT mX12_undo tX12_undo_0 := am_nd_ok (am_nd_ok (am_nd_ok (am_nd_ok (am_lf_ok (fun _ => ok_aload_n dX12_undo_0 rfl rfl)) (am_nd_ok (am_lf_ok (fun _ => ok_get (C := RX12) (TT := TX12) (N := 31) rfl inw_X12 (Nat.le_of_ble_eq_true rfl) wd_453 dX12_undo_1 rfl)) (am_lf_ok (fun _ => ok_if_ne dX12_undo_4 rfl rfl)))) (am_nd_ok (am_lf_ok (fun _ => ok_iconst dX12_undo_7 cv_iconst_0 rfl)) (am_nd_ok (am_lf_ok (fun _ => ok_zret rfl dX12_undo_8)) (am_lf_ok (fun _ => ok_aload_n dX12_undo_9 rfl rfl))))) (am_nd_ok (am_nd_ok (am_lf_ok (fun _ => ok_dup dX12_undo_10 rfl)) (am_nd_ok (am_lf_ok (fun _ => ok_get (C := RX12) (TT := TX12) (N := 31) rfl inw_X12 (Nat.le_of_ble_eq_true rfl) wd_453 dX12_undo_11 rfl)) (am_lf_ok (fun _ => ok_iconst dX12_undo_14 cv_iconst_1 rfl)))) (am_nd_ok (am_lf_ok (fun _ => ok_isub dX12_undo_15 rfl)) (am_nd_ok (am_lf_ok (fun _ => ok_put (C := RX12) (TT := TX12) (N := 31) (ty0 := tyX12) rfl inw_X12 tyX12_ok nmX12 (Nat.le_of_ble_eq_true rfl) rfl rfl wd_453 dX12_undo_16 rfl)) (am_lf_ok (fun _ => ok_aload_n dX12_undo_19 rfl rfl)))))) (am_nd_ok (am_nd_ok (am_nd_ok (am_lf_ok (fun _ => ok_get (C := RX12) (TT := TX12) (N := 31) rfl inw_X12 (Nat.le_of_ble_eq_true rfl) wd_448 dX12_undo_20 rfl)) (am_nd_ok (am_lf_ok (fun _ => ok_iconst dX12_undo_23 cv_iconst_4 rfl)) (am_lf_ok (fun _ => ok_aload_n dX12_undo_24 rfl rfl)))) (am_nd_ok (am_lf_ok (fun _ => ok_get (C := RX12) (TT := TX12) (N := 31) rfl inw_X12 (Nat.le_of_ble_eq_true rfl) wd_568 dX12_undo_25 rfl)) (am_nd_ok (am_lf_ok (fun _ => ok_sipush dX12_undo_28 cv_sipush_371 rfl)) (am_lf_ok (fun _ => ok_aload_n dX12_undo_31 rfl rfl))))) (am_nd_ok (am_nd_ok (am_lf_ok (fun _ => ok_get (C := RX12) (TT := TX12) (N := 31) rfl inw_X12 (Nat.le_of_ble_eq_true rfl) wd_453 dX12_undo_32 rfl)) (am_nd_ok (am_lf_ok (fun _ => ok_imul dX12_undo_35 rfl)) (am_lf_ok (fun _ => ok_iald dX12_undo_36 rfl)))) (am_nd_ok (am_lf_ok (fun _ => ok_iast dX12_undo_37 rfl)) (am_nd_ok (am_lf_ok (fun _ => ok_iconst dX12_undo_38 cv_iconst_0 rfl)) (am_lf_ok (fun _ => ok_istore_n dX12_undo_39 rfl (Nat.le_of_ble_eq_true rfl) rfl))))))
def tX12_undo_1 : Nat → Option am_Act := am_nd 63 (am_nd 53 (am_nd 47 (am_nd 41 (am_lf 40 (a_iload 1 41)) (am_nd 44 (am_lf 41 (a_const (nI 370) 44)) (am_lf 44 (a_cmp (fun x y => y ≤ x) 79 47)))) (am_nd 48 (am_lf 47 (a_aload 0 48)) (am_nd 51 (am_lf 48 (a_get tT 12 0 51)) (am_lf 51 (a_const (nI 90) 53))))) (am_nd 56 (am_nd 54 (am_lf 53 (a_iload 1 54)) (am_nd 55 (am_lf 54 (a_bin (fun x y => x + y) 55)) (am_lf 55 (a_aload 0 56)))) (am_nd 59 (am_lf 56 (a_get tT 12 2 59)) (am_nd 62 (am_lf 59 (a_const (nI 371) 62)) (am_lf 62 (a_aload 0 63)))))) (am_nd 71 (am_nd 68 (am_nd 66 (am_lf 63 (a_get tT 12 4 66)) (am_nd 67 (am_lf 66 (a_bin (fun x y => x * y) 67)) (am_lf 67 (a_const (nI 1) 68)))) (am_nd 69 (am_lf 68 (a_bin (fun x y => x + y) 69)) (am_nd 70 (am_lf 69 (a_iload 1 70)) (am_lf 70 (a_bin (fun x y => x + y) 71))))) (am_nd 76 (am_nd 72 (am_lf 71 (a_iald tT 72)) (am_nd 73 (am_lf 72 (a_iast tT 73)) (am_lf 73 (a_iinc 1 (nI 1) 76)))) (am_nd 79 (am_lf 76 (a_goto 40)) (am_nd 80 (am_lf 79 (a_const (nI 1) 80)) (am_lf 80 (a_zret))))))
theorem gX12_undo_1 : am_Good tT mX12_undo tX12_undo_1 := am_nd_ok (am_nd_ok (am_nd_ok (am_nd_ok (am_lf_ok (fun _ => ok_iload_n dX12_undo_40 rfl rfl)) (am_nd_ok (am_lf_ok (fun _ => ok_sipush dX12_undo_41 cv_sipush_370 rfl)) (am_lf_ok (fun _ => ok_cmp_ge dX12_undo_44 rfl rfl)))) (am_nd_ok (am_lf_ok (fun _ => ok_aload_n dX12_undo_47 rfl rfl)) (am_nd_ok (am_lf_ok (fun _ => ok_get (C := RX12) (TT := TX12) (N := 31) rfl inw_X12 (Nat.le_of_ble_eq_true rfl) wd_448 dX12_undo_48 rfl)) (am_lf_ok (fun _ => ok_bipush dX12_undo_51 cv_bipush_90 rfl))))) (am_nd_ok (am_nd_ok (am_lf_ok (fun _ => ok_iload_n dX12_undo_53 rfl rfl)) (am_nd_ok (am_lf_ok (fun _ => ok_iadd dX12_undo_54 rfl)) (am_lf_ok (fun _ => ok_aload_n dX12_undo_55 rfl rfl)))) (am_nd_ok (am_lf_ok (fun _ => ok_get (C := RX12) (TT := TX12) (N := 31) rfl inw_X12 (Nat.le_of_ble_eq_true rfl) wd_568 dX12_undo_56 rfl)) (am_nd_ok (am_lf_ok (fun _ => ok_sipush dX12_undo_59 cv_sipush_371 rfl)) (am_lf_ok (fun _ => ok_aload_n dX12_undo_62 rfl rfl)))))) (am_nd_ok (am_nd_ok (am_nd_ok (am_lf_ok (fun _ => ok_get (C := RX12) (TT := TX12) (N := 31) rfl inw_X12 (Nat.le_of_ble_eq_true rfl) wd_453 dX12_undo_63 rfl)) (am_nd_ok (am_lf_ok (fun _ => ok_imul dX12_undo_66 rfl)) (am_lf_ok (fun _ => ok_iconst dX12_undo_67 cv_iconst_1 rfl)))) (am_nd_ok (am_lf_ok (fun _ => ok_iadd dX12_undo_68 rfl)) (am_nd_ok (am_lf_ok (fun _ => ok_iload_n dX12_undo_69 rfl rfl)) (am_lf_ok (fun _ => ok_iadd dX12_undo_70 rfl))))) (am_nd_ok (am_nd_ok (am_lf_ok (fun _ => ok_iald dX12_undo_71 rfl)) (am_nd_ok (am_lf_ok (fun _ => ok_iast dX12_undo_72 rfl)) (am_lf_ok (fun _ => ok_iinc dX12_undo_73 cv_iconst_1 (Nat.le_of_ble_eq_true rfl) rfl)))) (am_nd_ok (am_lf_ok (fun _ => ok_goto dX12_undo_76 rfl)) (am_nd_ok (am_lf_ok (fun _ => ok_iconst dX12_undo_79 cv_iconst_1 rfl)) (am_lf_ok (fun _ => ok_zret rfl dX12_undo_80))))))
def tX12_undo : Nat → Option am_Act := am_nd 40 (tX12_undo_0) (tX12_undo_1)
theorem gX12_undo : am_Good tT mX12_undo tX12_undo := am_nd_ok (gX12_undo_0) (gX12_undo_1)
theorem dX12_writes_0 : decode cX12_writes 0 = .ok (.aload_n 0, 1) := by decide +kernel
theorem dX12_writes_1 : decode cX12_writes 1 = .ok (.getfield 7, 3) := by decide +kernel
theorem dX12_writes_4 : decode cX12_writes 4 = .ok (.iconst 4, 1) := by decide +kernel
theorem dX12_writes_5 : decode cX12_writes 5 = .ok (.iaload, 1) := by decide +kernel
theorem dX12_writes_6 : decode cX12_writes 6 = .ok (.bipush 100, 2) := by decide +kernel
theorem dX12_writes_8 : decode cX12_writes 8 = .ok (.if_icmp .ne 4, 3) := by decide +kernel
theorem dX12_writes_11 : decode cX12_writes 11 = .ok (.return_, 1) := by decide +kernel
theorem dX12_writes_12 : decode cX12_writes 12 = .ok (.sipush 460, 3) := by decide +kernel
theorem dX12_writes_15 : decode cX12_writes 15 = .ok (.iconst 4, 1) := by decide +kernel
theorem dX12_writes_16 : decode cX12_writes 16 = .ok (.aload_n 0, 1) := by decide +kernel
theorem dX12_writes_17 : decode cX12_writes 17 = .ok (.getfield 7, 3) := by decide +kernel
theorem dX12_writes_20 : decode cX12_writes 20 = .ok (.iconst 4, 1) := by decide +kernel
theorem dX12_writes_21 : decode cX12_writes 21 = .ok (.iaload, 1) := by decide +kernel
theorem dX12_writes_22 : decode cX12_writes 22 = .ok (.imul, 1) := by decide +kernel
theorem dX12_writes_23 : decode cX12_writes 23 = .ok (.iadd, 1) := by decide +kernel
theorem dX12_writes_24 : decode cX12_writes 24 = .ok (.istore 4, 2) := by decide +kernel
theorem dX12_writes_26 : decode cX12_writes 26 = .ok (.aload_n 0, 1) := by decide +kernel
theorem dX12_writes_27 : decode cX12_writes 27 = .ok (.getfield 7, 3) := by decide +kernel
theorem dX12_writes_30 : decode cX12_writes 30 = .ok (.iload 4, 2) := by decide +kernel
theorem dX12_writes_32 : decode cX12_writes 32 = .ok (.iload_n 1, 1) := by decide +kernel
theorem dX12_writes_33 : decode cX12_writes 33 = .ok (.iastore, 1) := by decide +kernel
theorem dX12_writes_34 : decode cX12_writes 34 = .ok (.aload_n 0, 1) := by decide +kernel
theorem dX12_writes_35 : decode cX12_writes 35 = .ok (.getfield 7, 3) := by decide +kernel
theorem dX12_writes_38 : decode cX12_writes 38 = .ok (.iload 4, 2) := by decide +kernel
theorem dX12_writes_40 : decode cX12_writes 40 = .ok (.iconst 1, 1) := by decide +kernel
theorem dX12_writes_41 : decode cX12_writes 41 = .ok (.iadd, 1) := by decide +kernel
theorem dX12_writes_42 : decode cX12_writes 42 = .ok (.iload_n 2, 1) := by decide +kernel
theorem dX12_writes_43 : decode cX12_writes 43 = .ok (.iastore, 1) := by decide +kernel
theorem dX12_writes_44 : decode cX12_writes 44 = .ok (.aload_n 0, 1) := by decide +kernel
theorem dX12_writes_45 : decode cX12_writes 45 = .ok (.getfield 7, 3) := by decide +kernel
theorem dX12_writes_48 : decode cX12_writes 48 = .ok (.iload 4, 2) := by decide +kernel
theorem dX12_writes_50 : decode cX12_writes 50 = .ok (.iconst 2, 1) := by decide +kernel
theorem dX12_writes_51 : decode cX12_writes 51 = .ok (.iadd, 1) := by decide +kernel
theorem dX12_writes_52 : decode cX12_writes 52 = .ok (.iload_n 3, 1) := by decide +kernel
theorem dX12_writes_53 : decode cX12_writes 53 = .ok (.iastore, 1) := by decide +kernel
theorem dX12_writes_54 : decode cX12_writes 54 = .ok (.aload_n 0, 1) := by decide +kernel
theorem dX12_writes_55 : decode cX12_writes 55 = .ok (.getfield 7, 3) := by decide +kernel
theorem dX12_writes_58 : decode cX12_writes 58 = .ok (.iload 4, 2) := by decide +kernel
theorem dX12_writes_60 : decode cX12_writes 60 = .ok (.iconst 3, 1) := by decide +kernel
theorem dX12_writes_61 : decode cX12_writes 61 = .ok (.iadd, 1) := by decide +kernel
theorem dX12_writes_62 : decode cX12_writes 62 = .ok (.aload_n 0, 1) := by decide +kernel
theorem dX12_writes_63 : decode cX12_writes 63 = .ok (.getfield 7, 3) := by decide +kernel
theorem dX12_writes_66 : decode cX12_writes 66 = .ok (.iconst 3, 1) := by decide +kernel
theorem dX12_writes_67 : decode cX12_writes 67 = .ok (.iaload, 1) := by decide +kernel
theorem dX12_writes_68 : decode cX12_writes 68 = .ok (.iastore, 1) := by decide +kernel
theorem dX12_writes_69 : decode cX12_writes 69 = .ok (.aload_n 0, 1) := by decide +kernel
theorem dX12_writes_70 : decode cX12_writes 70 = .ok (.getfield 7, 3) := by decide +kernel
theorem dX12_writes_73 : decode cX12_writes 73 = .ok (.iconst 4, 1) := by decide +kernel
theorem dX12_writes_74 : decode cX12_writes 74 = .ok (.dup2, 1) := by decide +kernel
theorem dX12_writes_75 : decode cX12_writes 75 = .ok (.iaload, 1) := by decide +kernel
theorem dX12_writes_76 : decode cX12_writes 76 = .ok (.iconst 1, 1) := by decide +kernel
theorem dX12_writes_77 : decode cX12_writes 77 = .ok (.iadd, 1) := by decide +kernel
theorem dX12_writes_78 : decode cX12_writes 78 = .ok (.iastore, 1) := by decide +kernel
theorem dX12_writes_79 : decode cX12_writes 79 = .ok (.return_, 1) := by decide +kernel
def tX12_writes_0 : Nat → Option am_Act := am_nd 21 (am_nd 11 (am_nd 5 (am_nd 1 (am_lf 0 (a_aload 0 1)) (am_nd 4 (am_lf 1 (a_get tT 12 0 4)) (am_lf 4 (a_const (nI 4) 5)))) (am_nd 6 (am_lf 5 (a_iald tT 6)) (am_nd 8 (am_lf 6 (a_const (nI 100) 8)) (am_lf 8 (a_cmp (fun x y => x = y) 11 12))))) (am_nd 16 (am_nd 12 (am_lf 11 (a_ret)) (am_nd 15 (am_lf 12 (a_const (nI 460) 15)) (am_lf 15 (a_const (nI 4) 16)))) (am_nd 17 (am_lf 16 (a_aload 0 17)) (am_nd 20 (am_lf 17 (a_get tT 12 0 20)) (am_lf 20 (a_const (nI 4) 21)))))) (am_nd 30 (am_nd 24 (am_nd 22 (am_lf 21 (a_iald tT 22)) (am_nd 23 (am_lf 22 (a_bin (fun x y => x * y) 23)) (am_lf 23 (a_bin (fun x y => x + y) 24)))) (am_nd 26 (am_lf 24 (a_istore 4 26)) (am_nd 27 (am_lf 26 (a_aload 0 27)) (am_lf 27 (a_get tT 12 0 30))))) (am_nd 34 (am_nd 32 (am_lf 30 (a_iload 4 32)) (am_nd 33 (am_lf 32 (a_iload 1 33)) (am_lf 33 (a_iast tT 34)))) (am_nd 35 (am_lf 34 (a_aload 0 35)) (am_nd 38 (am_lf 35 (a_get tT 12 0 38)) (am_lf 38 (a_iload 4 40))))))
theorem gX12_writes_0 : am_Good tT mX12_writes tX12_writes_0 := am_nd_ok (am_nd_ok (am_nd_ok (am_nd_ok (am_lf_ok (fun _ => ok_aload_n dX12_writes_0 rfl rfl)) (am_nd_ok (am_lf_ok (fun _ => ok_get (C := RX12) (TT := TX12) (N := 31) rfl inw_X12 (Nat.le_of_ble_eq_true rfl) wd_448 dX12_writes_1 rfl)) (am_lf_ok (fun _ => ok_iconst dX12_writes_4 cv_iconst_4 rfl)))) (am_nd_ok (am_lf_ok (fun _ => ok_iald dX12_writes_5 rfl)) (am_nd_ok (am_lf_ok (fun _ => ok_bipush dX12_writes_6 cv_bipush_100 rfl)) (am_lf_ok (fun _ => ok_cmp_ne dX12_writes_8 rfl rfl))))) (am_nd_ok (am_nd_ok (am_lf_ok (fun _ => ok_ret rfl dX12_writes_11)) (am_nd_ok (am_lf_ok (fun _ => ok_sipush dX12_writes_12 cv_sipush_460 rfl)) (am_lf_ok (fun _ => ok_iconst dX12_writes_15 cv_iconst_4 rfl)))) (am_nd_ok (am_lf_ok (fun _ => ok_aload_n dX12_writes_16 rfl rfl)) (am_nd_ok (am_lf_ok (fun _ => ok_get (C := RX12) (TT := TX12) (N := 31) rfl inw_X12 (Nat.le_of_ble_eq_true rfl) wd_448 dX12_writes_17 rfl)) (am_lf_ok (fun _ => ok_iconst dX12_writes_20 cv_iconst_4 rfl)))))) (am_nd_ok (am_nd_ok (am_nd_ok (am_lf_ok (fun _ => ok_iald dX12_writes_21 rfl)) (am_nd_ok (am_lf_ok (fun _ => ok_imul dX12_writes_22 rfl)) (am_lf_ok (fun _ => ok_iadd dX12_writes_23 rfl)))) (am_nd_ok (am_lf_ok (fun _ => ok_istore dX12_writes_24 (Nat.le_of_ble_eq_true rfl) rfl)) (am_nd_ok (am_lf_ok (fun _ => ok_aload_n dX12_writes_26 rfl rfl)) (am_lf_ok (fun _ => ok_get (C := RX12) (TT := TX12) (N := 31) rfl inw_X12 (Nat.le_of_ble_eq_true rfl) wd_448 dX12_writes_27 rfl))))) (am_nd_ok (am_nd_ok (am_lf_ok (fun _ => ok_iload dX12_writes_30 rfl)) (am_nd_ok (am_lf_ok (fun _ => ok_iload_n dX12_writes_32 rfl rfl)) (am_lf_ok (fun _ => ok_iast dX12_writes_33 rfl)))) (am_nd_ok (am_lf_ok (fun _ => ok_aload_n dX12_writes_34 rfl rfl)) (am_nd_ok (am_lf_ok (fun _ => ok_get (C := RX12) (TT := TX12) (N := 31) rfl inw_X12 (Nat.le_of_ble_eq_true rfl) wd_448 dX12_writes_35 rfl)) (am_lf_ok (fun _ => ok_iload dX12_writes_38 rfl))))))
def tX12_writes_1 : Nat → Option am_Act := am_nd 55 (am_nd 48 (am_nd 43 (am_nd 41 (am_lf 40 (a_const (nI 1) 41)) (am_nd 42 (am_lf 41 (a_bin (fun x y => x + y) 42)) (am_lf 42 (a_iload 2 43)))) (am_nd 44 (am_lf 43 (a_iast tT 44)) (am_nd 45 (am_lf 44 (a_aload 0 45)) (am_lf 45 (a_get tT 12 0 48))))) (am_nd 52 (am_nd 50 (am_lf 48 (a_iload 4 50)) (am_nd 51 (am_lf 50 (a_const (nI 2) 51)) (am_lf 51 (a_bin (fun x y => x + y) 52)))) (am_nd 53 (am_lf 52 (a_iload 3 53)) (am_nd 54 (am_lf 53 (a_iast tT 54)) (am_lf 54 (a_aload 0 55)))))) (am_nd 66 (am_nd 61 (am_nd 58 (am_lf 55 (a_get tT 12 0 58)) (am_nd 60 (am_lf 58 (a_iload 4 60)) (am_lf 60 (a_const (nI 3) 61)))) (am_nd 62 (am_lf 61 (a_bin (fun x y => x + y) 62)) (am_nd 63 (am_lf 62 (a_aload 0 63)) (am_lf 63 (a_get tT 12 0 66))))) (am_nd 69 (am_nd 67 (am_lf 66 (a_const (nI 3) 67)) (am_nd 68 (am_lf 67 (a_iald tT 68)) (am_lf 68 (a_iast tT 69)))) (am_nd 70 (am_lf 69 (a_aload 0 70)) (am_nd 73 (am_lf 70 (a_get tT 12 0 73)) (am_lf 73 (a_const (nI 4) 74))))))
theorem gX12_writes_1 : am_Good tT mX12_writes tX12_writes_1 := am_nd_ok (am_nd_ok (am_nd_ok (am_nd_ok (am_lf_ok (fun _ => ok_iconst dX12_writes_40 cv_iconst_1 rfl)) (am_nd_ok (am_lf_ok (fun _ => ok_iadd dX12_writes_41 rfl)) (am_lf_ok (fun _ => ok_iload_n dX12_writes_42 rfl rfl)))) (am_nd_ok (am_lf_ok (fun _ => ok_iast dX12_writes_43 rfl)) (am_nd_ok (am_lf_ok (fun _ => ok_aload_n dX12_writes_44 rfl rfl)) (am_lf_ok (fun _ => ok_get (C := RX12) (TT := TX12) (N := 31) rfl inw_X12 (Nat.le_of_ble_eq_true rfl) wd_448 dX12_writes_45 rfl))))) (am_nd_ok (am_nd_ok (am_lf_ok (fun _ => ok_iload dX12_writes_48 rfl)) (am_nd_ok (am_lf_ok (fun _ => ok_iconst dX12_writes_50 cv_iconst_2 rfl)) (am_lf_ok (fun _ => ok_iadd dX12_writes_51 rfl)))) (am_nd_ok (am_lf_ok (fun _ => ok_iload_n dX12_writes_52 rfl rfl)) (am_nd_ok (am_lf_ok (fun _ => ok_iast dX12_writes_53 rfl)) (am_lf_ok (fun _ => ok_aload_n dX12_writes_54 rfl rfl)))))) (am_nd_ok (am_nd_ok (am_nd_ok (am_lf_ok (fun _ => ok_get (C := RX12) (TT := TX12) (N := 31) rfl inw_X12 (Nat.le_of_ble_eq_true rfl) wd_448 dX12_writes_55 rfl)) (am_nd_ok (am_lf_ok (fun _ => ok_iload dX12_writes_58 rfl)) (am_lf_ok (fun _ => ok_iconst dX12_writes_60 cv_iconst_3 rfl)))) (am_nd_ok (am_lf_ok (fun _ => ok_iadd dX12_writes_61 rfl)) (am_nd_ok (am_lf_ok (fun _ => ok_aload_n dX12_writes_62 rfl rfl)) (am_lf_ok (fun _ => ok_get (C := RX12) (TT := TX12) (N := 31) rfl inw_X12 (Nat.le_of_ble_eq_true rfl) wd_448 dX12_writes_63 rfl))))) (am_nd_ok (am_nd_ok (am_lf_ok (fun _ => ok_iconst dX12_writes_66 cv_iconst_3 rfl)) (am_nd_ok (am_lf_ok (fun _ => ok_iald dX12_writes_67 rfl)) (am_lf_ok (fun _ => ok_iast dX12_writes_68 rfl)))) (am_nd_ok (am_lf_ok (fun _ => ok_aload_n dX12_writes_69 rfl rfl)) (am_nd_ok (am_lf_ok (fun _ => ok_get (C := RX12) (TT := TX12) (N := 31) rfl inw_X12 (Nat.le_of_ble_eq_true rfl) wd_448 dX12_writes_70 rfl)) (am_lf_ok (fun _ => ok_iconst dX12_writes_73 cv_iconst_4 rfl))))))
def tX12_writes_2 : Nat → Option am_Act := am_nd 77 (am_nd 75 (am_lf 74 (a_dup2 75)) (am_nd 76 (am_lf 75 (a_iald tT 76)) (am_lf 76 (a_const (nI 1) 77)))) (am_nd 78 (am_lf 77 (a_bin (fun x y => x + y) 78)) (am_nd 79 (am_lf 78 (a_iast tT 79)) (am_lf 79 (a_ret))))
theorem gX12_writes_2 : am_Good tT mX12_writes tX12_writes_2 := am_nd_ok (am_nd_ok (am_lf_ok (fun _ => ok_dup2 dX12_writes_74 rfl)) (am_nd_ok (am_lf_ok (fun _ => ok_iald dX12_writes_75 rfl)) (am_lf_ok (fun _ => ok_iconst dX12_writes_76 cv_iconst_1 rfl)))) (am_nd_ok (am_lf_ok (fun _ => ok_iadd dX12_writes_77 rfl)) (am_nd_ok (am_lf_ok (fun _ => ok_iast dX12_writes_78 rfl)) (am_lf_ok (fun _ => ok_ret rfl dX12_writes_79))))
def tX12_writes : Nat → Option am_Act := am_nd 40 (tX12_writes_0) (am_nd 74 (tX12_writes_1) (tX12_writes_2))
theorem gX12_writes : am_Good tT mX12_writes tX12_writes := am_nd_ok (gX12_writes_0) (am_nd_ok (gX12_writes_1) (gX12_writes_2))
theorem dX12_cross_0 : decode cX12_cross 0 = .ok (.aload_n 0, 1) := by decide +kernel
theorem dX12_cross_1 : decode cX12_cross 1 = .ok (.iload_n 1, 1) := by decide +kernel
theorem dX12_cross_2 : decode cX12_cross 2 = .ok (.invokevirtual 84, 3) := by decide +kernel
theorem dX12_cross_5 : decode cX12_cross 5 = .ok (.ifCond .eq 26, 3) := by decide +kernel
theorem dX12_cross_8 : decode cX12_cross 8 = .ok (.aload_n 0, 1) := by decide +kernel
theorem dX12_cross_9 : decode cX12_cross 9 = .ok (.iload_n 2, 1) := by decide +kernel
theorem dX12_cross_10 : decode cX12_cross 10 = .ok (.invokevirtual 243, 3) := by decide +kernel
theorem dX12_cross_13 : decode cX12_cross 13 = .ok (.ifCond .eq 18, 3) := by decide +kernel
theorem dX12_cross_16 : decode cX12_cross 16 = .ok (.aload_n 0, 1) := by decide +kernel
theorem dX12_cross_17 : decode cX12_cross 17 = .ok (.iload_n 2, 1) := by decide +kernel
theorem dX12_cross_18 : decode cX12_cross 18 = .ok (.aload_n 0, 1) := by decide +kernel
theorem dX12_cross_19 : decode cX12_cross 19 = .ok (.iload_n 1, 1) := by decide +kernel
theorem dX12_cross_20 : decode cX12_cross 20 = .ok (.iconst 0, 1) := by decide +kernel
theorem dX12_cross_21 : decode cX12_cross 21 = .ok (.invokevirtual 76, 3) := by decide +kernel
theorem dX12_cross_24 : decode cX12_cross 24 = .ok (.invokevirtual 231, 3) := by decide +kernel
theorem dX12_cross_27 : decode cX12_cross 27 = .ok (.iconst (-1), 1) := by decide +kernel
theorem dX12_cross_28 : decode cX12_cross 28 = .ok (.if_icmp .ne 5, 3) := by decide +kernel
theorem dX12_cross_31 : decode cX12_cross 31 = .ok (.iconst (-1), 1) := by decide +kernel
theorem dX12_cross_32 : decode cX12_cross 32 = .ok (.ireturn, 1) := by decide +kernel
theorem dX12_cross_33 : decode cX12_cross 33 = .ok (.aload_n 0, 1) := by decide +kernel
theorem dX12_cross_34 : decode cX12_cross 34 = .ok (.iconst 0, 1) := by decide +kernel
theorem dX12_cross_35 : decode cX12_cross 35 = .ok (.invokevirtual 246, 3) := by decide +kernel
theorem dX12_cross_38 : decode cX12_cross 38 = .ok (.aload_n 0, 1) := by decide +kernel
theorem dX12_cross_39 : decode cX12_cross 39 = .ok (.iload_n 1, 1) := by decide +kernel
theorem dX12_cross_40 : decode cX12_cross 40 = .ok (.iload_n 2, 1) := by decide +kernel
theorem dX12_cross_41 : decode cX12_cross 41 = .ok (.invokevirtual 250, 3) := by decide +kernel
theorem dX12_cross_44 : decode cX12_cross 44 = .ok (.istore_n 3, 1) := by decide +kernel
theorem dX12_cross_45 : decode cX12_cross 45 = .ok (.iload_n 3, 1) := by decide +kernel
theorem dX12_cross_46 : decode cX12_cross 46 = .ok (.bipush (-2), 2) := by decide +kernel
theorem dX12_cross_48 : decode cX12_cross 48 = .ok (.if_icmp .ne 6, 3) := by decide +kernel
theorem dX12_cross_51 : decode cX12_cross 51 = .ok (.bipush (-2), 2) := by decide +kernel
theorem dX12_cross_53 : decode cX12_cross 53 = .ok (.ireturn, 1) := by decide +kernel
theorem dX12_cross_54 : decode cX12_cross 54 = .ok (.aload_n 0, 1) := by decide +kernel
theorem dX12_cross_55 : decode cX12_cross 55 = .ok (.iconst 0, 1) := by decide +kernel
theorem dX12_cross_56 : decode cX12_cross 56 = .ok (.invokevirtual 253, 3) := by decide +kernel
theorem dX12_cross_59 : decode cX12_cross 59 = .ok (.aload_n 0, 1) := by decide +kernel
theorem dX12_cross_60 : decode cX12_cross 60 = .ok (.invokevirtual 256, 3) := by decide +kernel
theorem dX12_cross_63 : decode cX12_cross 63 = .ok (.aload_n 0, 1) := by decide +kernel
theorem dX12_cross_64 : decode cX12_cross 64 = .ok (.iload_n 1, 1) := by decide +kernel
theorem dX12_cross_65 : decode cX12_cross 65 = .ok (.iload_n 2, 1) := by decide +kernel
theorem dX12_cross_66 : decode cX12_cross 66 = .ok (.invokevirtual 250, 3) := by decide +kernel
theorem dX12_cross_69 : decode cX12_cross 69 = .ok (.pop, 1) := by decide +kernel
theorem dX12_cross_70 : decode cX12_cross 70 = .ok (.iload_n 3, 1) := by decide +kernel
theorem dX12_cross_71 : decode cX12_cross 71 = .ok (.bipush 100, 2) := by decide +kernel
theorem dX12_cross_73 : decode cX12_cross 73 = .ok (.if_icmp .eq 10, 3) := by decide +kernel
theorem dX12_cross_76 : decode cX12_cross 76 = .ok (.aload_n 0, 1) := by decide +kernel
theorem dX12_cross_77 : decode cX12_cross 77 = .ok (.iload_n 1, 1) := by decide +kernel
theorem dX12_cross_78 : decode cX12_cross 78 = .ok (.iload_n 2, 1) := by decide +kernel
theorem dX12_cross_79 : decode cX12_cross 79 = .ok (.iload_n 3, 1) := by decide +kernel
theorem dX12_cross_80 : decode cX12_cross 80 = .ok (.invokevirtual 259, 3) := by decide +kernel
theorem dX12_cross_83 : decode cX12_cross 83 = .ok (.iload_n 3, 1) := by decide +kernel
theorem dX12_cross_84 : decode cX12_cross 84 = .ok (.ireturn, 1) := by decide +kernel
def tX12_cross_0 : Nat → Option am_Act := am_nd 20 (am_nd 10 (am_nd 5 (am_nd 1 (am_lf 0 (a_aload 0 1)) (am_nd 2 (am_lf 1 (a_iload 1 2)) (am_lf 2 (a_cvI tT mX12_isPerson 12 1 5)))) (am_nd 8 (am_lf 5 (a_if (fun x => x = nI 0) 31 8)) (am_nd 9 (am_lf 8 (a_aload 0 9)) (am_lf 9 (a_iload 2 10))))) (am_nd 17 (am_nd 13 (am_lf 10 (a_cvI tT mX12_isBridge 12 1 13)) (am_nd 16 (am_lf 13 (a_if (fun x => x = nI 0) 31 16)) (am_lf 16 (a_aload 0 17)))) (am_nd 18 (am_lf 17 (a_iload 2 18)) (am_nd 19 (am_lf 18 (a_aload 0 19)) (am_lf 19 (a_iload 1 20)))))) (am_nd 32 (am_nd 27 (am_nd 21 (am_lf 20 (a_const (nI 0) 21)) (am_nd 24 (am_lf 21 (a_cvI tT mX12_own 12 2 24)) (am_lf 24 (a_cvI tT mX12_otherEnd 12 2 27)))) (am_nd 28 (am_lf 27 (a_const (-1) 28)) (am_nd 31 (am_lf 28 (a_cmp (fun x y => x = y) 31 33)) (am_lf 31 (a_const (-1) 32))))) (am_nd 35 (am_nd 33 (am_lf 32 (a_iret)) (am_nd 34 (am_lf 33 (a_aload 0 34)) (am_lf 34 (a_const (nI 0) 35)))) (am_nd 38 (am_lf 35 (a_cvV tT mX12_laysAside 12 1 38)) (am_nd 39 (am_lf 38 (a_aload 0 39)) (am_lf 39 (a_iload 1 40))))))
theorem gX12_cross_0 : am_Good tT mX12_cross tX12_cross_0 := am_nd_ok (am_nd_ok (am_nd_ok (am_nd_ok (am_lf_ok (fun _ => ok_aload_n dX12_cross_0 rfl rfl)) (am_nd_ok (am_lf_ok (fun _ => ok_iload_n dX12_cross_1 rfl rfl)) (am_lf_ok (fun _ => ok_cvI rfl mw_X12_isPerson (ci := 12) rfl rfl wd_468 wd_469 wd_470 dX12_cross_2 rfl)))) (am_nd_ok (am_lf_ok (fun _ => ok_if_eq dX12_cross_5 rfl rfl)) (am_nd_ok (am_lf_ok (fun _ => ok_aload_n dX12_cross_8 rfl rfl)) (am_lf_ok (fun _ => ok_iload_n dX12_cross_9 rfl rfl))))) (am_nd_ok (am_nd_ok (am_lf_ok (fun _ => ok_cvI rfl mw_X12_isBridge (ci := 12) rfl rfl wd_569 wd_570 wd_571 dX12_cross_10 rfl)) (am_nd_ok (am_lf_ok (fun _ => ok_if_eq dX12_cross_13 rfl rfl)) (am_lf_ok (fun _ => ok_aload_n dX12_cross_16 rfl rfl)))) (am_nd_ok (am_lf_ok (fun _ => ok_iload_n dX12_cross_17 rfl rfl)) (am_nd_ok (am_lf_ok (fun _ => ok_aload_n dX12_cross_18 rfl rfl)) (am_lf_ok (fun _ => ok_iload_n dX12_cross_19 rfl rfl)))))) (am_nd_ok (am_nd_ok (am_nd_ok (am_lf_ok (fun _ => ok_iconst dX12_cross_20 cv_iconst_0 rfl)) (am_nd_ok (am_lf_ok (fun _ => ok_cvI rfl mw_X12_own (ci := 12) rfl rfl wd_462 wd_463 wd_464 dX12_cross_21 rfl)) (am_lf_ok (fun _ => ok_cvI rfl mw_X12_otherEnd (ci := 12) rfl rfl wd_556 wd_557 wd_558 dX12_cross_24 rfl)))) (am_nd_ok (am_lf_ok (fun _ => ok_iconst dX12_cross_27 cv_iconst_m1 rfl)) (am_nd_ok (am_lf_ok (fun _ => ok_cmp_ne dX12_cross_28 rfl rfl)) (am_lf_ok (fun _ => ok_iconst dX12_cross_31 cv_iconst_m1 rfl))))) (am_nd_ok (am_nd_ok (am_lf_ok (fun _ => ok_iret rfl dX12_cross_32)) (am_nd_ok (am_lf_ok (fun _ => ok_aload_n dX12_cross_33 rfl rfl)) (am_lf_ok (fun _ => ok_iconst dX12_cross_34 cv_iconst_0 rfl)))) (am_nd_ok (am_lf_ok (fun _ => ok_cvV rfl mw_X12_laysAside (ci := 12) rfl rfl wd_572 wd_573 wd_574 dX12_cross_35 rfl)) (am_nd_ok (am_lf_ok (fun _ => ok_aload_n dX12_cross_38 rfl rfl)) (am_lf_ok (fun _ => ok_iload_n dX12_cross_39 rfl rfl))))))
def tX12_cross_1 : Nat → Option am_Act := am_nd 60 (am_nd 51 (am_nd 45 (am_nd 41 (am_lf 40 (a_iload 2 41)) (am_nd 44 (am_lf 41 (a_cvI tT mX12_crosses 12 2 44)) (am_lf 44 (a_istore 3 45)))) (am_nd 46 (am_lf 45 (a_iload 3 46)) (am_nd 48 (am_lf 46 (a_const (-2) 48)) (am_lf 48 (a_cmp (fun x y => x = y) 51 54))))) (am_nd 55 (am_nd 53 (am_lf 51 (a_const (-2) 53)) (am_nd 54 (am_lf 53 (a_iret)) (am_lf 54 (a_aload 0 55)))) (am_nd 56 (am_lf 55 (a_const (nI 0) 56)) (am_nd 59 (am_lf 56 (a_cvV tT mX12_putsBack 12 1 59)) (am_lf 59 (a_aload 0 60)))))) (am_nd 70 (am_nd 65 (am_nd 63 (am_lf 60 (a_cvV tT mX12_keeps 12 0 63)) (am_nd 64 (am_lf 63 (a_aload 0 64)) (am_lf 64 (a_iload 1 65)))) (am_nd 66 (am_lf 65 (a_iload 2 66)) (am_nd 69 (am_lf 66 (a_cvI tT mX12_crosses 12 2 69)) (am_lf 69 (a_pop 70))))) (am_nd 76 (am_nd 71 (am_lf 70 (a_iload 3 71)) (am_nd 73 (am_lf 71 (a_const (nI 100) 73)) (am_lf 73 (a_cmp (fun x y => x = y) 83 76)))) (am_nd 77 (am_lf 76 (a_aload 0 77)) (am_nd 78 (am_lf 77 (a_iload 1 78)) (am_lf 78 (a_iload 2 79))))))
theorem gX12_cross_1 : am_Good tT mX12_cross tX12_cross_1 := am_nd_ok (am_nd_ok (am_nd_ok (am_nd_ok (am_lf_ok (fun _ => ok_iload_n dX12_cross_40 rfl rfl)) (am_nd_ok (am_lf_ok (fun _ => ok_cvI rfl mw_X12_crosses (ci := 12) rfl rfl wd_575 wd_576 wd_577 dX12_cross_41 rfl)) (am_lf_ok (fun _ => ok_istore_n dX12_cross_44 rfl (Nat.le_of_ble_eq_true rfl) rfl)))) (am_nd_ok (am_lf_ok (fun _ => ok_iload_n dX12_cross_45 rfl rfl)) (am_nd_ok (am_lf_ok (fun _ => ok_bipush dX12_cross_46 cv_bipush_m2 rfl)) (am_lf_ok (fun _ => ok_cmp_ne dX12_cross_48 rfl rfl))))) (am_nd_ok (am_nd_ok (am_lf_ok (fun _ => ok_bipush dX12_cross_51 cv_bipush_m2 rfl)) (am_nd_ok (am_lf_ok (fun _ => ok_iret rfl dX12_cross_53)) (am_lf_ok (fun _ => ok_aload_n dX12_cross_54 rfl rfl)))) (am_nd_ok (am_lf_ok (fun _ => ok_iconst dX12_cross_55 cv_iconst_0 rfl)) (am_nd_ok (am_lf_ok (fun _ => ok_cvV rfl mw_X12_putsBack (ci := 12) rfl rfl wd_578 wd_579 wd_580 dX12_cross_56 rfl)) (am_lf_ok (fun _ => ok_aload_n dX12_cross_59 rfl rfl)))))) (am_nd_ok (am_nd_ok (am_nd_ok (am_lf_ok (fun _ => ok_cvV rfl mw_X12_keeps (ci := 12) rfl rfl wd_581 wd_582 wd_583 dX12_cross_60 rfl)) (am_nd_ok (am_lf_ok (fun _ => ok_aload_n dX12_cross_63 rfl rfl)) (am_lf_ok (fun _ => ok_iload_n dX12_cross_64 rfl rfl)))) (am_nd_ok (am_lf_ok (fun _ => ok_iload_n dX12_cross_65 rfl rfl)) (am_nd_ok (am_lf_ok (fun _ => ok_cvI rfl mw_X12_crosses (ci := 12) rfl rfl wd_575 wd_576 wd_577 dX12_cross_66 rfl)) (am_lf_ok (fun _ => ok_pop dX12_cross_69 rfl))))) (am_nd_ok (am_nd_ok (am_lf_ok (fun _ => ok_iload_n dX12_cross_70 rfl rfl)) (am_nd_ok (am_lf_ok (fun _ => ok_bipush dX12_cross_71 cv_bipush_100 rfl)) (am_lf_ok (fun _ => ok_cmp_eq dX12_cross_73 rfl rfl)))) (am_nd_ok (am_lf_ok (fun _ => ok_aload_n dX12_cross_76 rfl rfl)) (am_nd_ok (am_lf_ok (fun _ => ok_iload_n dX12_cross_77 rfl rfl)) (am_lf_ok (fun _ => ok_iload_n dX12_cross_78 rfl rfl))))))
def tX12_cross_2 : Nat → Option am_Act := am_nd 83 (am_nd 80 (am_lf 79 (a_iload 3 80)) (am_lf 80 (a_cvV tT mX12_writes 12 3 83))) (am_nd 84 (am_lf 83 (a_iload 3 84)) (am_lf 84 (a_iret)))
theorem gX12_cross_2 : am_Good tT mX12_cross tX12_cross_2 := am_nd_ok (am_nd_ok (am_lf_ok (fun _ => ok_iload_n dX12_cross_79 rfl rfl)) (am_lf_ok (fun _ => ok_cvV rfl mw_X12_writes (ci := 12) rfl rfl wd_584 wd_585 wd_586 dX12_cross_80 rfl))) (am_nd_ok (am_lf_ok (fun _ => ok_iload_n dX12_cross_83 rfl rfl)) (am_lf_ok (fun _ => ok_iret rfl dX12_cross_84)))
def tX12_cross : Nat → Option am_Act := am_nd 40 (tX12_cross_0) (am_nd 79 (tX12_cross_1) (tX12_cross_2))
theorem gX12_cross : am_Good tT mX12_cross tX12_cross := am_nd_ok (gX12_cross_0) (am_nd_ok (gX12_cross_1) (gX12_cross_2))
theorem dX12_take_0 : decode cX12_take 0 = .ok (.aload_n 0, 1) := by decide +kernel
theorem dX12_take_1 : decode cX12_take 1 = .ok (.iload_n 1, 1) := by decide +kernel
theorem dX12_take_2 : decode cX12_take 2 = .ok (.invokevirtual 84, 3) := by decide +kernel
theorem dX12_take_5 : decode cX12_take 5 = .ok (.ifCond .eq 61, 3) := by decide +kernel
theorem dX12_take_8 : decode cX12_take 8 = .ok (.aload_n 0, 1) := by decide +kernel
theorem dX12_take_9 : decode cX12_take 9 = .ok (.iload_n 2, 1) := by decide +kernel
theorem dX12_take_10 : decode cX12_take 10 = .ok (.invokevirtual 243, 3) := by decide +kernel
theorem dX12_take_13 : decode cX12_take 13 = .ok (.ifCond .eq 53, 3) := by decide +kernel
theorem dX12_take_16 : decode cX12_take 16 = .ok (.aload_n 0, 1) := by decide +kernel
theorem dX12_take_17 : decode cX12_take 17 = .ok (.iload_n 3, 1) := by decide +kernel
theorem dX12_take_18 : decode cX12_take 18 = .ok (.invokevirtual 87, 3) := by decide +kernel
theorem dX12_take_21 : decode cX12_take 21 = .ok (.ifCond .eq 45, 3) := by decide +kernel
theorem dX12_take_24 : decode cX12_take 24 = .ok (.aload_n 0, 1) := by decide +kernel
theorem dX12_take_25 : decode cX12_take 25 = .ok (.iload_n 2, 1) := by decide +kernel
theorem dX12_take_26 : decode cX12_take 26 = .ok (.aload_n 0, 1) := by decide +kernel
theorem dX12_take_27 : decode cX12_take 27 = .ok (.iload_n 1, 1) := by decide +kernel
theorem dX12_take_28 : decode cX12_take 28 = .ok (.iconst 0, 1) := by decide +kernel
theorem dX12_take_29 : decode cX12_take 29 = .ok (.invokevirtual 76, 3) := by decide +kernel
theorem dX12_take_32 : decode cX12_take 32 = .ok (.invokevirtual 231, 3) := by decide +kernel
theorem dX12_take_35 : decode cX12_take 35 = .ok (.iconst (-1), 1) := by decide +kernel
theorem dX12_take_36 : decode cX12_take 36 = .ok (.if_icmp .eq 30, 3) := by decide +kernel
theorem dX12_take_39 : decode cX12_take 39 = .ok (.aload_n 0, 1) := by decide +kernel
theorem dX12_take_40 : decode cX12_take 40 = .ok (.getfield 7, 3) := by decide +kernel
theorem dX12_take_43 : decode cX12_take 43 = .ok (.sipush 220, 3) := by decide +kernel
theorem dX12_take_46 : decode cX12_take 46 = .ok (.bipush 20, 2) := by decide +kernel
theorem dX12_take_48 : decode cX12_take 48 = .ok (.iload_n 2, 1) := by decide +kernel
theorem dX12_take_49 : decode cX12_take 49 = .ok (.imul, 1) := by decide +kernel
theorem dX12_take_50 : decode cX12_take 50 = .ok (.iadd, 1) := by decide +kernel
theorem dX12_take_51 : decode cX12_take 51 = .ok (.iload_n 3, 1) := by decide +kernel
theorem dX12_take_52 : decode cX12_take 52 = .ok (.iadd, 1) := by decide +kernel
theorem dX12_take_53 : decode cX12_take 53 = .ok (.iaload, 1) := by decide +kernel
theorem dX12_take_54 : decode cX12_take 54 = .ok (.ifCond .eq 12, 3) := by decide +kernel
theorem dX12_take_57 : decode cX12_take 57 = .ok (.aload_n 0, 1) := by decide +kernel
theorem dX12_take_58 : decode cX12_take 58 = .ok (.iload_n 1, 1) := by decide +kernel
theorem dX12_take_59 : decode cX12_take 59 = .ok (.iload_n 3, 1) := by decide +kernel
theorem dX12_take_60 : decode cX12_take 60 = .ok (.invokevirtual 90, 3) := by decide +kernel
theorem dX12_take_63 : decode cX12_take 63 = .ok (.ifCond .ne 5, 3) := by decide +kernel
theorem dX12_take_66 : decode cX12_take 66 = .ok (.iconst 0, 1) := by decide +kernel
theorem dX12_take_67 : decode cX12_take 67 = .ok (.ireturn, 1) := by decide +kernel
theorem dX12_take_68 : decode cX12_take 68 = .ok (.aload_n 0, 1) := by decide +kernel
theorem dX12_take_69 : decode cX12_take 69 = .ok (.getfield 7, 3) := by decide +kernel
theorem dX12_take_72 : decode cX12_take 72 = .ok (.sipush 220, 3) := by decide +kernel
theorem dX12_take_75 : decode cX12_take 75 = .ok (.bipush 20, 2) := by decide +kernel
theorem dX12_take_77 : decode cX12_take 77 = .ok (.iload_n 2, 1) := by decide +kernel
theorem dX12_take_78 : decode cX12_take 78 = .ok (.imul, 1) := by decide +kernel
theorem dX12_take_79 : decode cX12_take 79 = .ok (.iadd, 1) := by decide +kernel
theorem dX12_take_80 : decode cX12_take 80 = .ok (.iload_n 3, 1) := by decide +kernel
theorem dX12_take_81 : decode cX12_take 81 = .ok (.iadd, 1) := by decide +kernel
theorem dX12_take_82 : decode cX12_take 82 = .ok (.dup2, 1) := by decide +kernel
theorem dX12_take_83 : decode cX12_take 83 = .ok (.iaload, 1) := by decide +kernel
theorem dX12_take_84 : decode cX12_take 84 = .ok (.iconst 1, 1) := by decide +kernel
theorem dX12_take_85 : decode cX12_take 85 = .ok (.isub, 1) := by decide +kernel
theorem dX12_take_86 : decode cX12_take 86 = .ok (.iastore, 1) := by decide +kernel
theorem dX12_take_87 : decode cX12_take 87 = .ok (.aload_n 0, 1) := by decide +kernel
theorem dX12_take_88 : decode cX12_take 88 = .ok (.iload_n 1, 1) := by decide +kernel
theorem dX12_take_89 : decode cX12_take 89 = .ok (.iload_n 3, 1) := by decide +kernel
theorem dX12_take_90 : decode cX12_take 90 = .ok (.invokevirtual 93, 3) := by decide +kernel
theorem dX12_take_93 : decode cX12_take 93 = .ok (.aload_n 0, 1) := by decide +kernel
theorem dX12_take_94 : decode cX12_take 94 = .ok (.invokevirtual 65, 3) := by decide +kernel
theorem dX12_take_97 : decode cX12_take 97 = .ok (.iconst 1, 1) := by decide +kernel
theorem dX12_take_98 : decode cX12_take 98 = .ok (.ireturn, 1) := by decide +kernel
def tX12_take_0 : Nat → Option am_Act := am_nd 24 (am_nd 10 (am_nd 5 (am_nd 1 (am_lf 0 (a_aload 0 1)) (am_nd 2 (am_lf 1 (a_iload 1 2)) (am_lf 2 (a_cvI tT mX12_isPerson 12 1 5)))) (am_nd 8 (am_lf 5 (a_if (fun x => x = nI 0) 66 8)) (am_nd 9 (am_lf 8 (a_aload 0 9)) (am_lf 9 (a_iload 2 10))))) (am_nd 17 (am_nd 13 (am_lf 10 (a_cvI tT mX12_isBridge 12 1 13)) (am_nd 16 (am_lf 13 (a_if (fun x => x = nI 0) 66 16)) (am_lf 16 (a_aload 0 17)))) (am_nd 18 (am_lf 17 (a_iload 3 18)) (am_nd 21 (am_lf 18 (a_cvI tT mX12_isName 12 1 21)) (am_lf 21 (a_if (fun x => x = nI 0) 66 24)))))) (am_nd 32 (am_nd 27 (am_nd 25 (am_lf 24 (a_aload 0 25)) (am_nd 26 (am_lf 25 (a_iload 2 26)) (am_lf 26 (a_aload 0 27)))) (am_nd 28 (am_lf 27 (a_iload 1 28)) (am_nd 29 (am_lf 28 (a_const (nI 0) 29)) (am_lf 29 (a_cvI tT mX12_own 12 2 32))))) (am_nd 39 (am_nd 35 (am_lf 32 (a_cvI tT mX12_otherEnd 12 2 35)) (am_nd 36 (am_lf 35 (a_const (-1) 36)) (am_lf 36 (a_cmp (fun x y => x = y) 66 39)))) (am_nd 40 (am_lf 39 (a_aload 0 40)) (am_nd 43 (am_lf 40 (a_get tT 12 0 43)) (am_lf 43 (a_const (nI 220) 46))))))
theorem gX12_take_0 : am_Good tT mX12_take tX12_take_0 := am_nd_ok (am_nd_ok (am_nd_ok (am_nd_ok (am_lf_ok (fun _ => ok_aload_n dX12_take_0 rfl rfl)) (am_nd_ok (am_lf_ok (fun _ => ok_iload_n dX12_take_1 rfl rfl)) (am_lf_ok (fun _ => ok_cvI rfl mw_X12_isPerson (ci := 12) rfl rfl wd_468 wd_469 wd_470 dX12_take_2 rfl)))) (am_nd_ok (am_lf_ok (fun _ => ok_if_eq dX12_take_5 rfl rfl)) (am_nd_ok (am_lf_ok (fun _ => ok_aload_n dX12_take_8 rfl rfl)) (am_lf_ok (fun _ => ok_iload_n dX12_take_9 rfl rfl))))) (am_nd_ok (am_nd_ok (am_lf_ok (fun _ => ok_cvI rfl mw_X12_isBridge (ci := 12) rfl rfl wd_569 wd_570 wd_571 dX12_take_10 rfl)) (am_nd_ok (am_lf_ok (fun _ => ok_if_eq dX12_take_13 rfl rfl)) (am_lf_ok (fun _ => ok_aload_n dX12_take_16 rfl rfl)))) (am_nd_ok (am_lf_ok (fun _ => ok_iload_n dX12_take_17 rfl rfl)) (am_nd_ok (am_lf_ok (fun _ => ok_cvI rfl mw_X12_isName (ci := 12) rfl rfl wd_471 wd_472 wd_473 dX12_take_18 rfl)) (am_lf_ok (fun _ => ok_if_eq dX12_take_21 rfl rfl)))))) (am_nd_ok (am_nd_ok (am_nd_ok (am_lf_ok (fun _ => ok_aload_n dX12_take_24 rfl rfl)) (am_nd_ok (am_lf_ok (fun _ => ok_iload_n dX12_take_25 rfl rfl)) (am_lf_ok (fun _ => ok_aload_n dX12_take_26 rfl rfl)))) (am_nd_ok (am_lf_ok (fun _ => ok_iload_n dX12_take_27 rfl rfl)) (am_nd_ok (am_lf_ok (fun _ => ok_iconst dX12_take_28 cv_iconst_0 rfl)) (am_lf_ok (fun _ => ok_cvI rfl mw_X12_own (ci := 12) rfl rfl wd_462 wd_463 wd_464 dX12_take_29 rfl))))) (am_nd_ok (am_nd_ok (am_lf_ok (fun _ => ok_cvI rfl mw_X12_otherEnd (ci := 12) rfl rfl wd_556 wd_557 wd_558 dX12_take_32 rfl)) (am_nd_ok (am_lf_ok (fun _ => ok_iconst dX12_take_35 cv_iconst_m1 rfl)) (am_lf_ok (fun _ => ok_cmp_eq dX12_take_36 rfl rfl)))) (am_nd_ok (am_lf_ok (fun _ => ok_aload_n dX12_take_39 rfl rfl)) (am_nd_ok (am_lf_ok (fun _ => ok_get (C := RX12) (TT := TX12) (N := 31) rfl inw_X12 (Nat.le_of_ble_eq_true rfl) wd_448 dX12_take_40 rfl)) (am_lf_ok (fun _ => ok_sipush dX12_take_43 cv_sipush_220 rfl))))))
def tX12_take_1 : Nat → Option am_Act := am_nd 63 (am_nd 53 (am_nd 50 (am_nd 48 (am_lf 46 (a_const (nI 20) 48)) (am_nd 49 (am_lf 48 (a_iload 2 49)) (am_lf 49 (a_bin (fun x y => x * y) 50)))) (am_nd 51 (am_lf 50 (a_bin (fun x y => x + y) 51)) (am_nd 52 (am_lf 51 (a_iload 3 52)) (am_lf 52 (a_bin (fun x y => x + y) 53))))) (am_nd 58 (am_nd 54 (am_lf 53 (a_iald tT 54)) (am_nd 57 (am_lf 54 (a_if (fun x => x = nI 0) 66 57)) (am_lf 57 (a_aload 0 58)))) (am_nd 59 (am_lf 58 (a_iload 1 59)) (am_nd 60 (am_lf 59 (a_iload 3 60)) (am_lf 60 (a_cvI tT mX12_canHave 12 2 63)))))) (am_nd 75 (am_nd 68 (am_nd 66 (am_lf 63 (a_if (fun x => x = nI 0) 66 68)) (am_nd 67 (am_lf 66 (a_const (nI 0) 67)) (am_lf 67 (a_zret)))) (am_nd 69 (am_lf 68 (a_aload 0 69)) (am_nd 72 (am_lf 69 (a_get tT 12 0 72)) (am_lf 72 (a_const (nI 220) 75))))) (am_nd 79 (am_nd 77 (am_lf 75 (a_const (nI 20) 77)) (am_nd 78 (am_lf 77 (a_iload 2 78)) (am_lf 78 (a_bin (fun x y => x * y) 79)))) (am_nd 80 (am_lf 79 (a_bin (fun x y => x + y) 80)) (am_nd 81 (am_lf 80 (a_iload 3 81)) (am_lf 81 (a_bin (fun x y => x + y) 82))))))
theorem gX12_take_1 : am_Good tT mX12_take tX12_take_1 := am_nd_ok (am_nd_ok (am_nd_ok (am_nd_ok (am_lf_ok (fun _ => ok_bipush dX12_take_46 cv_bipush_20 rfl)) (am_nd_ok (am_lf_ok (fun _ => ok_iload_n dX12_take_48 rfl rfl)) (am_lf_ok (fun _ => ok_imul dX12_take_49 rfl)))) (am_nd_ok (am_lf_ok (fun _ => ok_iadd dX12_take_50 rfl)) (am_nd_ok (am_lf_ok (fun _ => ok_iload_n dX12_take_51 rfl rfl)) (am_lf_ok (fun _ => ok_iadd dX12_take_52 rfl))))) (am_nd_ok (am_nd_ok (am_lf_ok (fun _ => ok_iald dX12_take_53 rfl)) (am_nd_ok (am_lf_ok (fun _ => ok_if_eq dX12_take_54 rfl rfl)) (am_lf_ok (fun _ => ok_aload_n dX12_take_57 rfl rfl)))) (am_nd_ok (am_lf_ok (fun _ => ok_iload_n dX12_take_58 rfl rfl)) (am_nd_ok (am_lf_ok (fun _ => ok_iload_n dX12_take_59 rfl rfl)) (am_lf_ok (fun _ => ok_cvI rfl mw_X12_canHave (ci := 12) rfl rfl wd_474 wd_475 wd_476 dX12_take_60 rfl)))))) (am_nd_ok (am_nd_ok (am_nd_ok (am_lf_ok (fun _ => ok_if_ne dX12_take_63 rfl rfl)) (am_nd_ok (am_lf_ok (fun _ => ok_iconst dX12_take_66 cv_iconst_0 rfl)) (am_lf_ok (fun _ => ok_zret rfl dX12_take_67)))) (am_nd_ok (am_lf_ok (fun _ => ok_aload_n dX12_take_68 rfl rfl)) (am_nd_ok (am_lf_ok (fun _ => ok_get (C := RX12) (TT := TX12) (N := 31) rfl inw_X12 (Nat.le_of_ble_eq_true rfl) wd_448 dX12_take_69 rfl)) (am_lf_ok (fun _ => ok_sipush dX12_take_72 cv_sipush_220 rfl))))) (am_nd_ok (am_nd_ok (am_lf_ok (fun _ => ok_bipush dX12_take_75 cv_bipush_20 rfl)) (am_nd_ok (am_lf_ok (fun _ => ok_iload_n dX12_take_77 rfl rfl)) (am_lf_ok (fun _ => ok_imul dX12_take_78 rfl)))) (am_nd_ok (am_lf_ok (fun _ => ok_iadd dX12_take_79 rfl)) (am_nd_ok (am_lf_ok (fun _ => ok_iload_n dX12_take_80 rfl rfl)) (am_lf_ok (fun _ => ok_iadd dX12_take_81 rfl))))))
def tX12_take_2 : Nat → Option am_Act := am_nd 88 (am_nd 85 (am_nd 83 (am_lf 82 (a_dup2 83)) (am_nd 84 (am_lf 83 (a_iald tT 84)) (am_lf 84 (a_const (nI 1) 85)))) (am_nd 86 (am_lf 85 (a_bin (fun x y => x - y) 86)) (am_nd 87 (am_lf 86 (a_iast tT 87)) (am_lf 87 (a_aload 0 88))))) (am_nd 93 (am_nd 89 (am_lf 88 (a_iload 1 89)) (am_nd 90 (am_lf 89 (a_iload 3 90)) (am_lf 90 (a_cvV tT mX12_comes 12 2 93)))) (am_nd 97 (am_nd 94 (am_lf 93 (a_aload 0 94)) (am_lf 94 (a_cvV tT mX12_forgets 12 0 97))) (am_nd 98 (am_lf 97 (a_const (nI 1) 98)) (am_lf 98 (a_zret)))))
theorem gX12_take_2 : am_Good tT mX12_take tX12_take_2 := am_nd_ok (am_nd_ok (am_nd_ok (am_lf_ok (fun _ => ok_dup2 dX12_take_82 rfl)) (am_nd_ok (am_lf_ok (fun _ => ok_iald dX12_take_83 rfl)) (am_lf_ok (fun _ => ok_iconst dX12_take_84 cv_iconst_1 rfl)))) (am_nd_ok (am_lf_ok (fun _ => ok_isub dX12_take_85 rfl)) (am_nd_ok (am_lf_ok (fun _ => ok_iast dX12_take_86 rfl)) (am_lf_ok (fun _ => ok_aload_n dX12_take_87 rfl rfl))))) (am_nd_ok (am_nd_ok (am_lf_ok (fun _ => ok_iload_n dX12_take_88 rfl rfl)) (am_nd_ok (am_lf_ok (fun _ => ok_iload_n dX12_take_89 rfl rfl)) (am_lf_ok (fun _ => ok_cvV rfl mw_X12_comes (ci := 12) rfl rfl wd_477 wd_478 wd_479 dX12_take_90 rfl)))) (am_nd_ok (am_nd_ok (am_lf_ok (fun _ => ok_aload_n dX12_take_93 rfl rfl)) (am_lf_ok (fun _ => ok_cvV rfl mw_X12_forgets (ci := 12) rfl rfl wd_454 wd_455 wd_456 dX12_take_94 rfl))) (am_nd_ok (am_lf_ok (fun _ => ok_iconst dX12_take_97 cv_iconst_1 rfl)) (am_lf_ok (fun _ => ok_zret rfl dX12_take_98)))))
def tX12_take : Nat → Option am_Act := am_nd 46 (tX12_take_0) (am_nd 82 (tX12_take_1) (tX12_take_2))
theorem gX12_take : am_Good tT mX12_take tX12_take := am_nd_ok (gX12_take_0) (am_nd_ok (gX12_take_1) (gX12_take_2))
theorem dX12_had_0 : decode cX12_had 0 = .ok (.iconst 0, 1) := by decide +kernel
theorem dX12_had_1 : decode cX12_had 1 = .ok (.istore_n 2, 1) := by decide +kernel
theorem dX12_had_2 : decode cX12_had 2 = .ok (.iconst 0, 1) := by decide +kernel
theorem dX12_had_3 : decode cX12_had 3 = .ok (.istore_n 3, 1) := by decide +kernel
theorem dX12_had_4 : decode cX12_had 4 = .ok (.iload_n 3, 1) := by decide +kernel
theorem dX12_had_5 : decode cX12_had 5 = .ok (.aload_n 0, 1) := by decide +kernel
theorem dX12_had_6 : decode cX12_had 6 = .ok (.iload_n 1, 1) := by decide +kernel
theorem dX12_had_7 : decode cX12_had 7 = .ok (.iconst 2, 1) := by decide +kernel
theorem dX12_had_8 : decode cX12_had 8 = .ok (.invokevirtual 76, 3) := by decide +kernel
theorem dX12_had_11 : decode cX12_had 11 = .ok (.if_icmp .ge 22, 3) := by decide +kernel
theorem dX12_had_14 : decode cX12_had 14 = .ok (.iload_n 2, 1) := by decide +kernel
theorem dX12_had_15 : decode cX12_had 15 = .ok (.iconst 1, 1) := by decide +kernel
theorem dX12_had_16 : decode cX12_had 16 = .ok (.aload_n 0, 1) := by decide +kernel
theorem dX12_had_17 : decode cX12_had 17 = .ok (.iload_n 1, 1) := by decide +kernel
theorem dX12_had_18 : decode cX12_had 18 = .ok (.iconst 5, 1) := by decide +kernel
theorem dX12_had_19 : decode cX12_had 19 = .ok (.iload_n 3, 1) := by decide +kernel
theorem dX12_had_20 : decode cX12_had 20 = .ok (.iadd, 1) := by decide +kernel
theorem dX12_had_21 : decode cX12_had 21 = .ok (.invokevirtual 76, 3) := by decide +kernel
theorem dX12_had_24 : decode cX12_had 24 = .ok (.ishl, 1) := by decide +kernel
theorem dX12_had_25 : decode cX12_had 25 = .ok (.ior, 1) := by decide +kernel
theorem dX12_had_26 : decode cX12_had 26 = .ok (.istore_n 2, 1) := by decide +kernel
theorem dX12_had_27 : decode cX12_had 27 = .ok (.iinc 3 1, 3) := by decide +kernel
theorem dX12_had_30 : decode cX12_had 30 = .ok (.goto (-26), 3) := by decide +kernel
theorem dX12_had_33 : decode cX12_had 33 = .ok (.iload_n 2, 1) := by decide +kernel
theorem dX12_had_34 : decode cX12_had 34 = .ok (.ireturn, 1) := by decide +kernel
def tX12_had_0 : Nat → Option am_Act := am_nd 16 (am_nd 6 (am_nd 3 (am_nd 1 (am_lf 0 (a_const (nI 0) 1)) (am_nd 2 (am_lf 1 (a_istore 2 2)) (am_lf 2 (a_const (nI 0) 3)))) (am_nd 4 (am_lf 3 (a_istore 3 4)) (am_nd 5 (am_lf 4 (a_iload 3 5)) (am_lf 5 (a_aload 0 6))))) (am_nd 11 (am_nd 7 (am_lf 6 (a_iload 1 7)) (am_nd 8 (am_lf 7 (a_const (nI 2) 8)) (am_lf 8 (a_cvI tT mX12_own 12 2 11)))) (am_nd 14 (am_lf 11 (a_cmp (fun x y => y ≤ x) 33 14)) (am_nd 15 (am_lf 14 (a_iload 2 15)) (am_lf 15 (a_const (nI 1) 16)))))) (am_nd 24 (am_nd 19 (am_nd 17 (am_lf 16 (a_aload 0 17)) (am_nd 18 (am_lf 17 (a_iload 1 18)) (am_lf 18 (a_const (nI 5) 19)))) (am_nd 20 (am_lf 19 (a_iload 3 20)) (am_nd 21 (am_lf 20 (a_bin (fun x y => x + y) 21)) (am_lf 21 (a_cvI tT mX12_own 12 2 24))))) (am_nd 27 (am_nd 25 (am_lf 24 (a_bin (fun x y => x <<< (y &&& 31)) 25)) (am_nd 26 (am_lf 25 (a_bin (fun x y => x ||| y) 26)) (am_lf 26 (a_istore 2 27)))) (am_nd 30 (am_lf 27 (a_iinc 3 (nI 1) 30)) (am_nd 33 (am_lf 30 (a_goto 4)) (am_lf 33 (a_iload 2 34))))))
theorem gX12_had_0 : am_Good tT mX12_had tX12_had_0 := am_nd_ok (am_nd_ok (am_nd_ok (am_nd_ok (am_lf_ok (fun _ => ok_iconst dX12_had_0 cv_iconst_0 rfl)) (am_nd_ok (am_lf_ok (fun _ => ok_istore_n dX12_had_1 rfl (Nat.le_of_ble_eq_true rfl) rfl)) (am_lf_ok (fun _ => ok_iconst dX12_had_2 cv_iconst_0 rfl)))) (am_nd_ok (am_lf_ok (fun _ => ok_istore_n dX12_had_3 rfl (Nat.le_of_ble_eq_true rfl) rfl)) (am_nd_ok (am_lf_ok (fun _ => ok_iload_n dX12_had_4 rfl rfl)) (am_lf_ok (fun _ => ok_aload_n dX12_had_5 rfl rfl))))) (am_nd_ok (am_nd_ok (am_lf_ok (fun _ => ok_iload_n dX12_had_6 rfl rfl)) (am_nd_ok (am_lf_ok (fun _ => ok_iconst dX12_had_7 cv_iconst_2 rfl)) (am_lf_ok (fun _ => ok_cvI rfl mw_X12_own (ci := 12) rfl rfl wd_462 wd_463 wd_464 dX12_had_8 rfl)))) (am_nd_ok (am_lf_ok (fun _ => ok_cmp_ge dX12_had_11 rfl rfl)) (am_nd_ok (am_lf_ok (fun _ => ok_iload_n dX12_had_14 rfl rfl)) (am_lf_ok (fun _ => ok_iconst dX12_had_15 cv_iconst_1 rfl)))))) (am_nd_ok (am_nd_ok (am_nd_ok (am_lf_ok (fun _ => ok_aload_n dX12_had_16 rfl rfl)) (am_nd_ok (am_lf_ok (fun _ => ok_iload_n dX12_had_17 rfl rfl)) (am_lf_ok (fun _ => ok_iconst dX12_had_18 cv_iconst_5 rfl)))) (am_nd_ok (am_lf_ok (fun _ => ok_iload_n dX12_had_19 rfl rfl)) (am_nd_ok (am_lf_ok (fun _ => ok_iadd dX12_had_20 rfl)) (am_lf_ok (fun _ => ok_cvI rfl mw_X12_own (ci := 12) rfl rfl wd_462 wd_463 wd_464 dX12_had_21 rfl))))) (am_nd_ok (am_nd_ok (am_lf_ok (fun _ => ok_ishl dX12_had_24 rfl)) (am_nd_ok (am_lf_ok (fun _ => ok_ior dX12_had_25 rfl)) (am_lf_ok (fun _ => ok_istore_n dX12_had_26 rfl (Nat.le_of_ble_eq_true rfl) rfl)))) (am_nd_ok (am_lf_ok (fun _ => ok_iinc dX12_had_27 cv_iconst_1 (Nat.le_of_ble_eq_true rfl) rfl)) (am_nd_ok (am_lf_ok (fun _ => ok_goto dX12_had_30 rfl)) (am_lf_ok (fun _ => ok_iload_n dX12_had_33 rfl rfl))))))
def tX12_had_1 : Nat → Option am_Act := am_lf 34 (a_iret)
theorem gX12_had_1 : am_Good tT mX12_had tX12_had_1 := am_lf_ok (fun _ => ok_iret rfl dX12_had_34)
def tX12_had : Nat → Option am_Act := am_nd 34 (tX12_had_0) (tX12_had_1)
theorem gX12_had : am_Good tT mX12_had tX12_had := am_nd_ok (gX12_had_0) (gX12_had_1)
theorem dX12_count_0 : decode cX12_count 0 = .ok (.iconst 0, 1) := by decide +kernel
theorem dX12_count_1 : decode cX12_count 1 = .ok (.istore_n 1, 1) := by decide +kernel
theorem dX12_count_2 : decode cX12_count 2 = .ok (.iconst 0, 1) := by decide +kernel
theorem dX12_count_3 : decode cX12_count 3 = .ok (.istore_n 2, 1) := by decide +kernel
theorem dX12_count_4 : decode cX12_count 4 = .ok (.iload_n 2, 1) := by decide +kernel
theorem dX12_count_5 : decode cX12_count 5 = .ok (.bipush 20, 2) := by decide +kernel
theorem dX12_count_7 : decode cX12_count 7 = .ok (.if_icmp .ge 17, 3) := by decide +kernel
theorem dX12_count_10 : decode cX12_count 10 = .ok (.iload_n 1, 1) := by decide +kernel
theorem dX12_count_11 : decode cX12_count 11 = .ok (.iload_n 0, 1) := by decide +kernel
theorem dX12_count_12 : decode cX12_count 12 = .ok (.iload_n 2, 1) := by decide +kernel
theorem dX12_count_13 : decode cX12_count 13 = .ok (.ishr, 1) := by decide +kernel
theorem dX12_count_14 : decode cX12_count 14 = .ok (.iconst 1, 1) := by decide +kernel
theorem dX12_count_15 : decode cX12_count 15 = .ok (.iand, 1) := by decide +kernel
theorem dX12_count_16 : decode cX12_count 16 = .ok (.iadd, 1) := by decide +kernel
theorem dX12_count_17 : decode cX12_count 17 = .ok (.istore_n 1, 1) := by decide +kernel
theorem dX12_count_18 : decode cX12_count 18 = .ok (.iinc 2 1, 3) := by decide +kernel
theorem dX12_count_21 : decode cX12_count 21 = .ok (.goto (-17), 3) := by decide +kernel
theorem dX12_count_24 : decode cX12_count 24 = .ok (.iload_n 1, 1) := by decide +kernel
theorem dX12_count_25 : decode cX12_count 25 = .ok (.ireturn, 1) := by decide +kernel
def tX12_count_0 : Nat → Option am_Act := am_nd 12 (am_nd 4 (am_nd 2 (am_nd 1 (am_lf 0 (a_const (nI 0) 1)) (am_lf 1 (a_istore 1 2))) (am_nd 3 (am_lf 2 (a_const (nI 0) 3)) (am_lf 3 (a_istore 2 4)))) (am_nd 7 (am_nd 5 (am_lf 4 (a_iload 2 5)) (am_lf 5 (a_const (nI 20) 7))) (am_nd 10 (am_lf 7 (a_cmp (fun x y => y ≤ x) 24 10)) (am_nd 11 (am_lf 10 (a_iload 1 11)) (am_lf 11 (a_iload 0 12)))))) (am_nd 17 (am_nd 14 (am_nd 13 (am_lf 12 (a_iload 2 13)) (am_lf 13 (a_bin (fun x y => x >>> (y &&& 31)) 14))) (am_nd 15 (am_lf 14 (a_const (nI 1) 15)) (am_nd 16 (am_lf 15 (a_bin (fun x y => x &&& y) 16)) (am_lf 16 (a_bin (fun x y => x + y) 17))))) (am_nd 21 (am_nd 18 (am_lf 17 (a_istore 1 18)) (am_lf 18 (a_iinc 2 (nI 1) 21))) (am_nd 24 (am_lf 21 (a_goto 4)) (am_nd 25 (am_lf 24 (a_iload 1 25)) (am_lf 25 (a_iret))))))
theorem gX12_count_0 : am_Good tT mX12_count tX12_count_0 := am_nd_ok (am_nd_ok (am_nd_ok (am_nd_ok (am_lf_ok (fun _ => ok_iconst dX12_count_0 cv_iconst_0 rfl)) (am_lf_ok (fun _ => ok_istore_n dX12_count_1 rfl (Nat.le_of_ble_eq_true rfl) rfl))) (am_nd_ok (am_lf_ok (fun _ => ok_iconst dX12_count_2 cv_iconst_0 rfl)) (am_lf_ok (fun _ => ok_istore_n dX12_count_3 rfl (Nat.le_of_ble_eq_true rfl) rfl)))) (am_nd_ok (am_nd_ok (am_lf_ok (fun _ => ok_iload_n dX12_count_4 rfl rfl)) (am_lf_ok (fun _ => ok_bipush dX12_count_5 cv_bipush_20 rfl))) (am_nd_ok (am_lf_ok (fun _ => ok_cmp_ge dX12_count_7 rfl rfl)) (am_nd_ok (am_lf_ok (fun _ => ok_iload_n dX12_count_10 rfl rfl)) (am_lf_ok (fun _ => ok_iload_n dX12_count_11 rfl rfl)))))) (am_nd_ok (am_nd_ok (am_nd_ok (am_lf_ok (fun _ => ok_iload_n dX12_count_12 rfl rfl)) (am_lf_ok (fun _ => ok_ishr dX12_count_13 rfl))) (am_nd_ok (am_lf_ok (fun _ => ok_iconst dX12_count_14 cv_iconst_1 rfl)) (am_nd_ok (am_lf_ok (fun _ => ok_iand dX12_count_15 rfl)) (am_lf_ok (fun _ => ok_iadd dX12_count_16 rfl))))) (am_nd_ok (am_nd_ok (am_lf_ok (fun _ => ok_istore_n dX12_count_17 rfl (Nat.le_of_ble_eq_true rfl) rfl)) (am_lf_ok (fun _ => ok_iinc dX12_count_18 cv_iconst_1 (Nat.le_of_ble_eq_true rfl) rfl))) (am_nd_ok (am_lf_ok (fun _ => ok_goto dX12_count_21 rfl)) (am_nd_ok (am_lf_ok (fun _ => ok_iload_n dX12_count_24 rfl rfl)) (am_lf_ok (fun _ => ok_iret rfl dX12_count_25))))))
def tX12_count : Nat → Option am_Act := tX12_count_0
theorem gX12_count : am_Good tT mX12_count tX12_count := gX12_count_0
theorem dX12_nth_0 : decode cX12_nth 0 = .ok (.iload_n 1, 1) := by decide +kernel
theorem dX12_nth_1 : decode cX12_nth 1 = .ok (.istore_n 2, 1) := by decide +kernel
theorem dX12_nth_2 : decode cX12_nth 2 = .ok (.iconst 0, 1) := by decide +kernel
theorem dX12_nth_3 : decode cX12_nth 3 = .ok (.istore_n 3, 1) := by decide +kernel
theorem dX12_nth_4 : decode cX12_nth 4 = .ok (.iload_n 0, 1) := by decide +kernel
theorem dX12_nth_5 : decode cX12_nth 5 = .ok (.iload_n 3, 1) := by decide +kernel
theorem dX12_nth_6 : decode cX12_nth 6 = .ok (.ishr, 1) := by decide +kernel
theorem dX12_nth_7 : decode cX12_nth 7 = .ok (.iconst 1, 1) := by decide +kernel
theorem dX12_nth_8 : decode cX12_nth 8 = .ok (.iand, 1) := by decide +kernel
theorem dX12_nth_9 : decode cX12_nth 9 = .ok (.ifCond .eq 7, 3) := by decide +kernel
theorem dX12_nth_12 : decode cX12_nth 12 = .ok (.iload_n 2, 1) := by decide +kernel
theorem dX12_nth_13 : decode cX12_nth 13 = .ok (.ifCond .le 17, 3) := by decide +kernel
theorem dX12_nth_16 : decode cX12_nth 16 = .ok (.iload_n 2, 1) := by decide +kernel
theorem dX12_nth_17 : decode cX12_nth 17 = .ok (.iload_n 0, 1) := by decide +kernel
theorem dX12_nth_18 : decode cX12_nth 18 = .ok (.iload_n 3, 1) := by decide +kernel
theorem dX12_nth_19 : decode cX12_nth 19 = .ok (.ishr, 1) := by decide +kernel
theorem dX12_nth_20 : decode cX12_nth 20 = .ok (.iconst 1, 1) := by decide +kernel
theorem dX12_nth_21 : decode cX12_nth 21 = .ok (.iand, 1) := by decide +kernel
theorem dX12_nth_22 : decode cX12_nth 22 = .ok (.isub, 1) := by decide +kernel
theorem dX12_nth_23 : decode cX12_nth 23 = .ok (.istore_n 2, 1) := by decide +kernel
theorem dX12_nth_24 : decode cX12_nth 24 = .ok (.iinc 3 1, 3) := by decide +kernel
theorem dX12_nth_27 : decode cX12_nth 27 = .ok (.goto (-23), 3) := by decide +kernel
theorem dX12_nth_30 : decode cX12_nth 30 = .ok (.iload_n 3, 1) := by decide +kernel
theorem dX12_nth_31 : decode cX12_nth 31 = .ok (.ireturn, 1) := by decide +kernel
def tX12_nth_0 : Nat → Option am_Act := am_nd 16 (am_nd 6 (am_nd 3 (am_nd 1 (am_lf 0 (a_iload 1 1)) (am_nd 2 (am_lf 1 (a_istore 2 2)) (am_lf 2 (a_const (nI 0) 3)))) (am_nd 4 (am_lf 3 (a_istore 3 4)) (am_nd 5 (am_lf 4 (a_iload 0 5)) (am_lf 5 (a_iload 3 6))))) (am_nd 9 (am_nd 7 (am_lf 6 (a_bin (fun x y => x >>> (y &&& 31)) 7)) (am_nd 8 (am_lf 7 (a_const (nI 1) 8)) (am_lf 8 (a_bin (fun x y => x &&& y) 9)))) (am_nd 12 (am_lf 9 (a_if (fun x => x = nI 0) 16 12)) (am_nd 13 (am_lf 12 (a_iload 2 13)) (am_lf 13 (a_if (fun x => x ≤ nI 0) 30 16)))))) (am_nd 22 (am_nd 19 (am_nd 17 (am_lf 16 (a_iload 2 17)) (am_nd 18 (am_lf 17 (a_iload 0 18)) (am_lf 18 (a_iload 3 19)))) (am_nd 20 (am_lf 19 (a_bin (fun x y => x >>> (y &&& 31)) 20)) (am_nd 21 (am_lf 20 (a_const (nI 1) 21)) (am_lf 21 (a_bin (fun x y => x &&& y) 22))))) (am_nd 27 (am_nd 23 (am_lf 22 (a_bin (fun x y => x - y) 23)) (am_nd 24 (am_lf 23 (a_istore 2 24)) (am_lf 24 (a_iinc 3 (nI 1) 27)))) (am_nd 30 (am_lf 27 (a_goto 4)) (am_nd 31 (am_lf 30 (a_iload 3 31)) (am_lf 31 (a_iret))))))
theorem gX12_nth_0 : am_Good tT mX12_nth tX12_nth_0 := am_nd_ok (am_nd_ok (am_nd_ok (am_nd_ok (am_lf_ok (fun _ => ok_iload_n dX12_nth_0 rfl rfl)) (am_nd_ok (am_lf_ok (fun _ => ok_istore_n dX12_nth_1 rfl (Nat.le_of_ble_eq_true rfl) rfl)) (am_lf_ok (fun _ => ok_iconst dX12_nth_2 cv_iconst_0 rfl)))) (am_nd_ok (am_lf_ok (fun _ => ok_istore_n dX12_nth_3 rfl (Nat.le_of_ble_eq_true rfl) rfl)) (am_nd_ok (am_lf_ok (fun _ => ok_iload_n dX12_nth_4 rfl rfl)) (am_lf_ok (fun _ => ok_iload_n dX12_nth_5 rfl rfl))))) (am_nd_ok (am_nd_ok (am_lf_ok (fun _ => ok_ishr dX12_nth_6 rfl)) (am_nd_ok (am_lf_ok (fun _ => ok_iconst dX12_nth_7 cv_iconst_1 rfl)) (am_lf_ok (fun _ => ok_iand dX12_nth_8 rfl)))) (am_nd_ok (am_lf_ok (fun _ => ok_if_eq dX12_nth_9 rfl rfl)) (am_nd_ok (am_lf_ok (fun _ => ok_iload_n dX12_nth_12 rfl rfl)) (am_lf_ok (fun _ => ok_if_le dX12_nth_13 rfl rfl)))))) (am_nd_ok (am_nd_ok (am_nd_ok (am_lf_ok (fun _ => ok_iload_n dX12_nth_16 rfl rfl)) (am_nd_ok (am_lf_ok (fun _ => ok_iload_n dX12_nth_17 rfl rfl)) (am_lf_ok (fun _ => ok_iload_n dX12_nth_18 rfl rfl)))) (am_nd_ok (am_lf_ok (fun _ => ok_ishr dX12_nth_19 rfl)) (am_nd_ok (am_lf_ok (fun _ => ok_iconst dX12_nth_20 cv_iconst_1 rfl)) (am_lf_ok (fun _ => ok_iand dX12_nth_21 rfl))))) (am_nd_ok (am_nd_ok (am_lf_ok (fun _ => ok_isub dX12_nth_22 rfl)) (am_nd_ok (am_lf_ok (fun _ => ok_istore_n dX12_nth_23 rfl (Nat.le_of_ble_eq_true rfl) rfl)) (am_lf_ok (fun _ => ok_iinc dX12_nth_24 cv_iconst_1 (Nat.le_of_ble_eq_true rfl) rfl)))) (am_nd_ok (am_lf_ok (fun _ => ok_goto dX12_nth_27 rfl)) (am_nd_ok (am_lf_ok (fun _ => ok_iload_n dX12_nth_30 rfl rfl)) (am_lf_ok (fun _ => ok_iret rfl dX12_nth_31))))))
def tX12_nth : Nat → Option am_Act := tX12_nth_0
theorem gX12_nth : am_Good tT mX12_nth tX12_nth := gX12_nth_0
theorem dX12_day_0 : decode cX12_day 0 = .ok (.aload_n 0, 1) := by decide +kernel
theorem dX12_day_1 : decode cX12_day 1 = .ok (.getfield 7, 3) := by decide +kernel
theorem dX12_day_4 : decode cX12_day 4 = .ok (.iconst 3, 1) := by decide +kernel
theorem dX12_day_5 : decode cX12_day 5 = .ok (.iaload, 1) := by decide +kernel
theorem dX12_day_6 : decode cX12_day 6 = .ok (.sipush 9999, 3) := by decide +kernel
theorem dX12_day_9 : decode cX12_day 9 = .ok (.if_icmp .ne 5, 3) := by decide +kernel
theorem dX12_day_12 : decode cX12_day 12 = .ok (.iconst (-1), 1) := by decide +kernel
theorem dX12_day_13 : decode cX12_day 13 = .ok (.ireturn, 1) := by decide +kernel
theorem dX12_day_14 : decode cX12_day 14 = .ok (.aload_n 0, 1) := by decide +kernel
theorem dX12_day_15 : decode cX12_day 15 = .ok (.getfield 7, 3) := by decide +kernel
theorem dX12_day_18 : decode cX12_day 18 = .ok (.iconst 3, 1) := by decide +kernel
theorem dX12_day_19 : decode cX12_day 19 = .ok (.dup2, 1) := by decide +kernel
theorem dX12_day_20 : decode cX12_day 20 = .ok (.iaload, 1) := by decide +kernel
theorem dX12_day_21 : decode cX12_day 21 = .ok (.iconst 1, 1) := by decide +kernel
theorem dX12_day_22 : decode cX12_day 22 = .ok (.iadd, 1) := by decide +kernel
theorem dX12_day_23 : decode cX12_day 23 = .ok (.iastore, 1) := by decide +kernel
theorem dX12_day_24 : decode cX12_day 24 = .ok (.iconst 0, 1) := by decide +kernel
theorem dX12_day_25 : decode cX12_day 25 = .ok (.istore_n 1, 1) := by decide +kernel
theorem dX12_day_26 : decode cX12_day 26 = .ok (.iconst 0, 1) := by decide +kernel
theorem dX12_day_27 : decode cX12_day 27 = .ok (.istore_n 2, 1) := by decide +kernel
theorem dX12_day_28 : decode cX12_day 28 = .ok (.iload_n 2, 1) := by decide +kernel
theorem dX12_day_29 : decode cX12_day 29 = .ok (.aload_n 0, 1) := by decide +kernel
theorem dX12_day_30 : decode cX12_day 30 = .ok (.getfield 7, 3) := by decide +kernel
theorem dX12_day_33 : decode cX12_day 33 = .ok (.iconst 1, 1) := by decide +kernel
theorem dX12_day_34 : decode cX12_day 34 = .ok (.iaload, 1) := by decide +kernel
theorem dX12_day_35 : decode cX12_day 35 = .ok (.if_icmp .ge 89, 3) := by decide +kernel
theorem dX12_day_38 : decode cX12_day 38 = .ok (.aload_n 0, 1) := by decide +kernel
theorem dX12_day_39 : decode cX12_day 39 = .ok (.iload_n 2, 1) := by decide +kernel
theorem dX12_day_40 : decode cX12_day 40 = .ok (.iconst 3, 1) := by decide +kernel
theorem dX12_day_41 : decode cX12_day 41 = .ok (.invokevirtual 76, 3) := by decide +kernel
theorem dX12_day_44 : decode cX12_day 44 = .ok (.aload_n 0, 1) := by decide +kernel
theorem dX12_day_45 : decode cX12_day 45 = .ok (.iload_n 2, 1) := by decide +kernel
theorem dX12_day_46 : decode cX12_day 46 = .ok (.invokevirtual 262, 3) := by decide +kernel
theorem dX12_day_49 : decode cX12_day 49 = .ok (.iconst (-1), 1) := by decide +kernel
theorem dX12_day_50 : decode cX12_day 50 = .ok (.ixor, 1) := by decide +kernel
theorem dX12_day_51 : decode cX12_day 51 = .ok (.iand, 1) := by decide +kernel
theorem dX12_day_52 : decode cX12_day 52 = .ok (.istore_n 3, 1) := by decide +kernel
theorem dX12_day_53 : decode cX12_day 53 = .ok (.aload_n 0, 1) := by decide +kernel
theorem dX12_day_54 : decode cX12_day 54 = .ok (.getfield 7, 3) := by decide +kernel
theorem dX12_day_57 : decode cX12_day 57 = .ok (.bipush 6, 2) := by decide +kernel
theorem dX12_day_59 : decode cX12_day 59 = .ok (.iaload, 1) := by decide +kernel
theorem dX12_day_60 : decode cX12_day 60 = .ok (.ifCond .eq 58, 3) := by decide +kernel
theorem dX12_day_63 : decode cX12_day 63 = .ok (.iload_n 3, 1) := by decide +kernel
theorem dX12_day_64 : decode cX12_day 64 = .ok (.ifCond .eq 54, 3) := by decide +kernel
theorem dX12_day_67 : decode cX12_day 67 = .ok (.aload_n 0, 1) := by decide +kernel
theorem dX12_day_68 : decode cX12_day 68 = .ok (.iload_n 2, 1) := by decide +kernel
theorem dX12_day_69 : decode cX12_day 69 = .ok (.iconst 2, 1) := by decide +kernel
theorem dX12_day_70 : decode cX12_day 70 = .ok (.invokevirtual 76, 3) := by decide +kernel
theorem dX12_day_73 : decode cX12_day 73 = .ok (.bipush 9, 2) := by decide +kernel
theorem dX12_day_75 : decode cX12_day 75 = .ok (.if_icmp .eq 43, 3) := by decide +kernel
theorem dX12_day_78 : decode cX12_day 78 = .ok (.aload_n 0, 1) := by decide +kernel
theorem dX12_day_79 : decode cX12_day 79 = .ok (.sipush 1000, 3) := by decide +kernel
theorem dX12_day_82 : decode cX12_day 82 = .ok (.invokevirtual 265, 3) := by decide +kernel
theorem dX12_day_85 : decode cX12_day 85 = .ok (.aload_n 0, 1) := by decide +kernel
theorem dX12_day_86 : decode cX12_day 86 = .ok (.getfield 7, 3) := by decide +kernel
theorem dX12_day_89 : decode cX12_day 89 = .ok (.bipush 6, 2) := by decide +kernel
theorem dX12_day_91 : decode cX12_day 91 = .ok (.iaload, 1) := by decide +kernel
theorem dX12_day_92 : decode cX12_day 92 = .ok (.if_icmp .lt 6, 3) := by decide +kernel
theorem dX12_day_95 : decode cX12_day 95 = .ok (.goto 23, 3) := by decide +kernel
theorem dX12_day_98 : decode cX12_day 98 = .ok (.aload_n 0, 1) := by decide +kernel
theorem dX12_day_99 : decode cX12_day 99 = .ok (.iload_n 2, 1) := by decide +kernel
theorem dX12_day_100 : decode cX12_day 100 = .ok (.iload_n 3, 1) := by decide +kernel
theorem dX12_day_101 : decode cX12_day 101 = .ok (.aload_n 0, 1) := by decide +kernel
theorem dX12_day_102 : decode cX12_day 102 = .ok (.iload_n 3, 1) := by decide +kernel
theorem dX12_day_103 : decode cX12_day 103 = .ok (.invokestatic 268, 3) := by decide +kernel
theorem dX12_day_106 : decode cX12_day 106 = .ok (.invokevirtual 265, 3) := by decide +kernel
theorem dX12_day_109 : decode cX12_day 109 = .ok (.invokestatic 271, 3) := by decide +kernel
theorem dX12_day_112 : decode cX12_day 112 = .ok (.invokevirtual 93, 3) := by decide +kernel
theorem dX12_day_115 : decode cX12_day 115 = .ok (.iinc 1 1, 3) := by decide +kernel
theorem dX12_day_118 : decode cX12_day 118 = .ok (.iinc 2 1, 3) := by decide +kernel
theorem dX12_day_121 : decode cX12_day 121 = .ok (.goto (-93), 3) := by decide +kernel
theorem dX12_day_124 : decode cX12_day 124 = .ok (.aload_n 0, 1) := by decide +kernel
theorem dX12_day_125 : decode cX12_day 125 = .ok (.invokevirtual 65, 3) := by decide +kernel
theorem dX12_day_128 : decode cX12_day 128 = .ok (.iload_n 1, 1) := by decide +kernel
theorem dX12_day_129 : decode cX12_day 129 = .ok (.ireturn, 1) := by decide +kernel
def tX12_day_0 : Nat → Option am_Act := am_nd 20 (am_nd 12 (am_nd 5 (am_nd 1 (am_lf 0 (a_aload 0 1)) (am_nd 4 (am_lf 1 (a_get tT 12 0 4)) (am_lf 4 (a_const (nI 3) 5)))) (am_nd 6 (am_lf 5 (a_iald tT 6)) (am_nd 9 (am_lf 6 (a_const (nI 9999) 9)) (am_lf 9 (a_cmp (fun x y => x = y) 12 14))))) (am_nd 15 (am_nd 13 (am_lf 12 (a_const (-1) 13)) (am_nd 14 (am_lf 13 (a_iret)) (am_lf 14 (a_aload 0 15)))) (am_nd 18 (am_lf 15 (a_get tT 12 0 18)) (am_nd 19 (am_lf 18 (a_const (nI 3) 19)) (am_lf 19 (a_dup2 20)))))) (am_nd 26 (am_nd 23 (am_nd 21 (am_lf 20 (a_iald tT 21)) (am_nd 22 (am_lf 21 (a_const (nI 1) 22)) (am_lf 22 (a_bin (fun x y => x + y) 23)))) (am_nd 24 (am_lf 23 (a_iast tT 24)) (am_nd 25 (am_lf 24 (a_const (nI 0) 25)) (am_lf 25 (a_istore 1 26))))) (am_nd 29 (am_nd 27 (am_lf 26 (a_const (nI 0) 27)) (am_nd 28 (am_lf 27 (a_istore 2 28)) (am_lf 28 (a_iload 2 29)))) (am_nd 30 (am_lf 29 (a_aload 0 30)) (am_nd 33 (am_lf 30 (a_get tT 12 0 33)) (am_lf 33 (a_const (nI 1) 34))))))
theorem gX12_day_0 : am_Good tT mX12_day tX12_day_0 := am_nd_ok (am_nd_ok (am_nd_ok (am_nd_ok (am_lf_ok (fun _ => ok_aload_n dX12_day_0 rfl rfl)) (am_nd_ok (am_lf_ok (fun _ => ok_get (C := RX12) (TT := TX12) (N := 31) rfl inw_X12 (Nat.le_of_ble_eq_true rfl) wd_448 dX12_day_1 rfl)) (am_lf_ok (fun _ => ok_iconst dX12_day_4 cv_iconst_3 rfl)))) (am_nd_ok (am_lf_ok (fun _ => ok_iald dX12_day_5 rfl)) (am_nd_ok (am_lf_ok (fun _ => ok_sipush dX12_day_6 cv_sipush_9999 rfl)) (am_lf_ok (fun _ => ok_cmp_ne dX12_day_9 rfl rfl))))) (am_nd_ok (am_nd_ok (am_lf_ok (fun _ => ok_iconst dX12_day_12 cv_iconst_m1 rfl)) (am_nd_ok (am_lf_ok (fun _ => ok_iret rfl dX12_day_13)) (am_lf_ok (fun _ => ok_aload_n dX12_day_14 rfl rfl)))) (am_nd_ok (am_lf_ok (fun _ => ok_get (C := RX12) (TT := TX12) (N := 31) rfl inw_X12 (Nat.le_of_ble_eq_true rfl) wd_448 dX12_day_15 rfl)) (am_nd_ok (am_lf_ok (fun _ => ok_iconst dX12_day_18 cv_iconst_3 rfl)) (am_lf_ok (fun _ => ok_dup2 dX12_day_19 rfl)))))) (am_nd_ok (am_nd_ok (am_nd_ok (am_lf_ok (fun _ => ok_iald dX12_day_20 rfl)) (am_nd_ok (am_lf_ok (fun _ => ok_iconst dX12_day_21 cv_iconst_1 rfl)) (am_lf_ok (fun _ => ok_iadd dX12_day_22 rfl)))) (am_nd_ok (am_lf_ok (fun _ => ok_iast dX12_day_23 rfl)) (am_nd_ok (am_lf_ok (fun _ => ok_iconst dX12_day_24 cv_iconst_0 rfl)) (am_lf_ok (fun _ => ok_istore_n dX12_day_25 rfl (Nat.le_of_ble_eq_true rfl) rfl))))) (am_nd_ok (am_nd_ok (am_lf_ok (fun _ => ok_iconst dX12_day_26 cv_iconst_0 rfl)) (am_nd_ok (am_lf_ok (fun _ => ok_istore_n dX12_day_27 rfl (Nat.le_of_ble_eq_true rfl) rfl)) (am_lf_ok (fun _ => ok_iload_n dX12_day_28 rfl rfl)))) (am_nd_ok (am_lf_ok (fun _ => ok_aload_n dX12_day_29 rfl rfl)) (am_nd_ok (am_lf_ok (fun _ => ok_get (C := RX12) (TT := TX12) (N := 31) rfl inw_X12 (Nat.le_of_ble_eq_true rfl) wd_448 dX12_day_30 rfl)) (am_lf_ok (fun _ => ok_iconst dX12_day_33 cv_iconst_1 rfl))))))
def tX12_day_1 : Nat → Option am_Act := am_nd 52 (am_nd 44 (am_nd 39 (am_nd 35 (am_lf 34 (a_iald tT 35)) (am_nd 38 (am_lf 35 (a_cmp (fun x y => y ≤ x) 124 38)) (am_lf 38 (a_aload 0 39)))) (am_nd 40 (am_lf 39 (a_iload 2 40)) (am_nd 41 (am_lf 40 (a_const (nI 3) 41)) (am_lf 41 (a_cvI tT mX12_own 12 2 44))))) (am_nd 49 (am_nd 45 (am_lf 44 (a_aload 0 45)) (am_nd 46 (am_lf 45 (a_iload 2 46)) (am_lf 46 (a_cvI tT mX12_had 12 1 49)))) (am_nd 50 (am_lf 49 (a_const (-1) 50)) (am_nd 51 (am_lf 50 (a_bin (fun x y => x ^^^ y) 51)) (am_lf 51 (a_bin (fun x y => x &&& y) 52)))))) (am_nd 63 (am_nd 57 (am_nd 53 (am_lf 52 (a_istore 3 53)) (am_nd 54 (am_lf 53 (a_aload 0 54)) (am_lf 54 (a_get tT 12 0 57)))) (am_nd 59 (am_lf 57 (a_const (nI 6) 59)) (am_nd 60 (am_lf 59 (a_iald tT 60)) (am_lf 60 (a_if (fun x => x = nI 0) 118 63))))) (am_nd 68 (am_nd 64 (am_lf 63 (a_iload 3 64)) (am_nd 67 (am_lf 64 (a_if (fun x => x = nI 0) 118 67)) (am_lf 67 (a_aload 0 68)))) (am_nd 69 (am_lf 68 (a_iload 2 69)) (am_nd 70 (am_lf 69 (a_const (nI 2) 70)) (am_lf 70 (a_cvI tT mX12_own 12 2 73))))))
theorem gX12_day_1 : am_Good tT mX12_day tX12_day_1 := am_nd_ok (am_nd_ok (am_nd_ok (am_nd_ok (am_lf_ok (fun _ => ok_iald dX12_day_34 rfl)) (am_nd_ok (am_lf_ok (fun _ => ok_cmp_ge dX12_day_35 rfl rfl)) (am_lf_ok (fun _ => ok_aload_n dX12_day_38 rfl rfl)))) (am_nd_ok (am_lf_ok (fun _ => ok_iload_n dX12_day_39 rfl rfl)) (am_nd_ok (am_lf_ok (fun _ => ok_iconst dX12_day_40 cv_iconst_3 rfl)) (am_lf_ok (fun _ => ok_cvI rfl mw_X12_own (ci := 12) rfl rfl wd_462 wd_463 wd_464 dX12_day_41 rfl))))) (am_nd_ok (am_nd_ok (am_lf_ok (fun _ => ok_aload_n dX12_day_44 rfl rfl)) (am_nd_ok (am_lf_ok (fun _ => ok_iload_n dX12_day_45 rfl rfl)) (am_lf_ok (fun _ => ok_cvI rfl mw_X12_had (ci := 12) rfl rfl wd_587 wd_588 wd_589 dX12_day_46 rfl)))) (am_nd_ok (am_lf_ok (fun _ => ok_iconst dX12_day_49 cv_iconst_m1 rfl)) (am_nd_ok (am_lf_ok (fun _ => ok_ixor dX12_day_50 rfl)) (am_lf_ok (fun _ => ok_iand dX12_day_51 rfl)))))) (am_nd_ok (am_nd_ok (am_nd_ok (am_lf_ok (fun _ => ok_istore_n dX12_day_52 rfl (Nat.le_of_ble_eq_true rfl) rfl)) (am_nd_ok (am_lf_ok (fun _ => ok_aload_n dX12_day_53 rfl rfl)) (am_lf_ok (fun _ => ok_get (C := RX12) (TT := TX12) (N := 31) rfl inw_X12 (Nat.le_of_ble_eq_true rfl) wd_448 dX12_day_54 rfl)))) (am_nd_ok (am_lf_ok (fun _ => ok_bipush dX12_day_57 cv_bipush_6 rfl)) (am_nd_ok (am_lf_ok (fun _ => ok_iald dX12_day_59 rfl)) (am_lf_ok (fun _ => ok_if_eq dX12_day_60 rfl rfl))))) (am_nd_ok (am_nd_ok (am_lf_ok (fun _ => ok_iload_n dX12_day_63 rfl rfl)) (am_nd_ok (am_lf_ok (fun _ => ok_if_eq dX12_day_64 rfl rfl)) (am_lf_ok (fun _ => ok_aload_n dX12_day_67 rfl rfl)))) (am_nd_ok (am_lf_ok (fun _ => ok_iload_n dX12_day_68 rfl rfl)) (am_nd_ok (am_lf_ok (fun _ => ok_iconst dX12_day_69 cv_iconst_2 rfl)) (am_lf_ok (fun _ => ok_cvI rfl mw_X12_own (ci := 12) rfl rfl wd_462 wd_463 wd_464 dX12_day_70 rfl))))))
def tX12_day_2 : Nat → Option am_Act := am_nd 99 (am_nd 86 (am_nd 79 (am_nd 75 (am_lf 73 (a_const (nI 9) 75)) (am_nd 78 (am_lf 75 (a_cmp (fun x y => x = y) 118 78)) (am_lf 78 (a_aload 0 79)))) (am_nd 82 (am_lf 79 (a_const (nI 1000) 82)) (am_nd 85 (am_lf 82 (a_cvI tT mX12_draw 12 1 85)) (am_lf 85 (a_aload 0 86))))) (am_nd 92 (am_nd 89 (am_lf 86 (a_get tT 12 0 89)) (am_nd 91 (am_lf 89 (a_const (nI 6) 91)) (am_lf 91 (a_iald tT 92)))) (am_nd 95 (am_lf 92 (a_cmp (fun x y => x < y) 98 95)) (am_nd 98 (am_lf 95 (a_goto 118)) (am_lf 98 (a_aload 0 99)))))) (am_nd 109 (am_nd 102 (am_nd 100 (am_lf 99 (a_iload 2 100)) (am_nd 101 (am_lf 100 (a_iload 3 101)) (am_lf 101 (a_aload 0 102)))) (am_nd 103 (am_lf 102 (a_iload 3 103)) (am_nd 106 (am_lf 103 (a_csI mX12_count 1 106)) (am_lf 106 (a_cvI tT mX12_draw 12 1 109))))) (am_nd 118 (am_nd 112 (am_lf 109 (a_csI mX12_nth 2 112)) (am_nd 115 (am_lf 112 (a_cvV tT mX12_comes 12 2 115)) (am_lf 115 (a_iinc 1 (nI 1) 118)))) (am_nd 121 (am_lf 118 (a_iinc 2 (nI 1) 121)) (am_nd 124 (am_lf 121 (a_goto 28)) (am_lf 124 (a_aload 0 125))))))
theorem gX12_day_2 : am_Good tT mX12_day tX12_day_2 := am_nd_ok (am_nd_ok (am_nd_ok (am_nd_ok (am_lf_ok (fun _ => ok_bipush dX12_day_73 cv_bipush_9 rfl)) (am_nd_ok (am_lf_ok (fun _ => ok_cmp_eq dX12_day_75 rfl rfl)) (am_lf_ok (fun _ => ok_aload_n dX12_day_78 rfl rfl)))) (am_nd_ok (am_lf_ok (fun _ => ok_sipush dX12_day_79 cv_sipush_1000 rfl)) (am_nd_ok (am_lf_ok (fun _ => ok_cvI rfl mw_X12_draw (ci := 12) rfl rfl wd_590 wd_591 wd_592 dX12_day_82 rfl)) (am_lf_ok (fun _ => ok_aload_n dX12_day_85 rfl rfl))))) (am_nd_ok (am_nd_ok (am_lf_ok (fun _ => ok_get (C := RX12) (TT := TX12) (N := 31) rfl inw_X12 (Nat.le_of_ble_eq_true rfl) wd_448 dX12_day_86 rfl)) (am_nd_ok (am_lf_ok (fun _ => ok_bipush dX12_day_89 cv_bipush_6 rfl)) (am_lf_ok (fun _ => ok_iald dX12_day_91 rfl)))) (am_nd_ok (am_lf_ok (fun _ => ok_cmp_lt dX12_day_92 rfl rfl)) (am_nd_ok (am_lf_ok (fun _ => ok_goto dX12_day_95 rfl)) (am_lf_ok (fun _ => ok_aload_n dX12_day_98 rfl rfl)))))) (am_nd_ok (am_nd_ok (am_nd_ok (am_lf_ok (fun _ => ok_iload_n dX12_day_99 rfl rfl)) (am_nd_ok (am_lf_ok (fun _ => ok_iload_n dX12_day_100 rfl rfl)) (am_lf_ok (fun _ => ok_aload_n dX12_day_101 rfl rfl)))) (am_nd_ok (am_lf_ok (fun _ => ok_iload_n dX12_day_102 rfl rfl)) (am_nd_ok (am_lf_ok (fun _ => ok_csI rfl mw_X12_count wd_593 wd_594 dX12_day_103 rfl)) (am_lf_ok (fun _ => ok_cvI rfl mw_X12_draw (ci := 12) rfl rfl wd_590 wd_591 wd_592 dX12_day_106 rfl))))) (am_nd_ok (am_nd_ok (am_lf_ok (fun _ => ok_csI rfl mw_X12_nth wd_595 wd_596 dX12_day_109 rfl)) (am_nd_ok (am_lf_ok (fun _ => ok_cvV rfl mw_X12_comes (ci := 12) rfl rfl wd_477 wd_478 wd_479 dX12_day_112 rfl)) (am_lf_ok (fun _ => ok_iinc dX12_day_115 cv_iconst_1 (Nat.le_of_ble_eq_true rfl) rfl)))) (am_nd_ok (am_lf_ok (fun _ => ok_iinc dX12_day_118 cv_iconst_1 (Nat.le_of_ble_eq_true rfl) rfl)) (am_nd_ok (am_lf_ok (fun _ => ok_goto dX12_day_121 rfl)) (am_lf_ok (fun _ => ok_aload_n dX12_day_124 rfl rfl))))))
def tX12_day_3 : Nat → Option am_Act := am_nd 128 (am_lf 125 (a_cvV tT mX12_forgets 12 0 128)) (am_nd 129 (am_lf 128 (a_iload 1 129)) (am_lf 129 (a_iret)))
theorem gX12_day_3 : am_Good tT mX12_day tX12_day_3 := am_nd_ok (am_lf_ok (fun _ => ok_cvV rfl mw_X12_forgets (ci := 12) rfl rfl wd_454 wd_455 wd_456 dX12_day_125 rfl)) (am_nd_ok (am_lf_ok (fun _ => ok_iload_n dX12_day_128 rfl rfl)) (am_lf_ok (fun _ => ok_iret rfl dX12_day_129)))
def tX12_day : Nat → Option am_Act := am_nd 73 (am_nd 34 (tX12_day_0) (tX12_day_1)) (am_nd 125 (tX12_day_2) (tX12_day_3))
theorem gX12_day : am_Good tT mX12_day tX12_day := am_nd_ok (am_nd_ok (gX12_day_0) (gX12_day_1)) (am_nd_ok (gX12_day_2) (gX12_day_3))
