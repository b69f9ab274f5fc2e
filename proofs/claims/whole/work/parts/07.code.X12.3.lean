/-! ===== code of TollOfNamesModel ===== -/
theorem dX12_fault_0 : decode cX12_fault 0 = .ok (.iload_n 1, 1) := by decide +kernel
theorem dX12_fault_1 : decode cX12_fault 1 = .ok (.ifCond .ne 10, 3) := by decide +kernel
theorem dX12_fault_4 : decode cX12_fault 4 = .ok (.aload_n 0, 1) := by decide +kernel
theorem dX12_fault_5 : decode cX12_fault 5 = .ok (.getfield 221, 3) := by decide +kernel
theorem dX12_fault_8 : decode cX12_fault 8 = .ok (.goto 16, 3) := by decide +kernel
theorem dX12_fault_11 : decode cX12_fault 11 = .ok (.iload_n 1, 1) := by decide +kernel
theorem dX12_fault_12 : decode cX12_fault 12 = .ok (.iconst 1, 1) := by decide +kernel
theorem dX12_fault_13 : decode cX12_fault 13 = .ok (.if_icmp .ne 10, 3) := by decide +kernel
theorem dX12_fault_16 : decode cX12_fault 16 = .ok (.aload_n 0, 1) := by decide +kernel
theorem dX12_fault_17 : decode cX12_fault 17 = .ok (.getfield 37, 3) := by decide +kernel
theorem dX12_fault_20 : decode cX12_fault 20 = .ok (.goto 4, 3) := by decide +kernel
theorem dX12_fault_23 : decode cX12_fault 23 = .ok (.iconst (-1), 1) := by decide +kernel
theorem dX12_fault_24 : decode cX12_fault 24 = .ok (.ireturn, 1) := by decide +kernel
def tX12_fault_0 : Nat → Option am_Act := am_nd 12 (am_nd 5 (am_nd 1 (am_lf 0 (a_iload 1 1)) (am_nd 4 (am_lf 1 (a_if (fun x => x = nI 0) 4 11)) (am_lf 4 (a_aload 0 5)))) (am_nd 8 (am_lf 5 (a_get tT 12 20 8)) (am_nd 11 (am_lf 8 (a_goto 24)) (am_lf 11 (a_iload 1 12))))) (am_nd 17 (am_nd 13 (am_lf 12 (a_const (nI 1) 13)) (am_nd 16 (am_lf 13 (a_cmp (fun x y => x = y) 16 23)) (am_lf 16 (a_aload 0 17)))) (am_nd 23 (am_nd 20 (am_lf 17 (a_get tT 12 22 20)) (am_lf 20 (a_goto 24))) (am_nd 24 (am_lf 23 (a_const (-1) 24)) (am_lf 24 (a_iret)))))
theorem gX12_fault_0 : am_Good tT mX12_fault tX12_fault_0 := am_nd_ok (am_nd_ok (am_nd_ok (am_lf_ok (fun _ => ok_iload_n dX12_fault_0 rfl rfl)) (am_nd_ok (am_lf_ok (fun _ => ok_if_ne dX12_fault_1 rfl rfl)) (am_lf_ok (fun _ => ok_aload_n dX12_fault_4 rfl rfl)))) (am_nd_ok (am_lf_ok (fun _ => ok_get (C := RX12) (TT := TX12) (N := 31) rfl inw_X12 (Nat.le_of_ble_eq_true rfl) wd_547 dX12_fault_5 rfl)) (am_nd_ok (am_lf_ok (fun _ => ok_goto dX12_fault_8 rfl)) (am_lf_ok (fun _ => ok_iload_n dX12_fault_11 rfl rfl))))) (am_nd_ok (am_nd_ok (am_lf_ok (fun _ => ok_iconst dX12_fault_12 cv_iconst_1 rfl)) (am_nd_ok (am_lf_ok (fun _ => ok_cmp_ne dX12_fault_13 rfl rfl)) (am_lf_ok (fun _ => ok_aload_n dX12_fault_16 rfl rfl)))) (am_nd_ok (am_nd_ok (am_lf_ok (fun _ => ok_get (C := RX12) (TT := TX12) (N := 31) rfl inw_X12 (Nat.le_of_ble_eq_true rfl) wd_548 dX12_fault_17 rfl)) (am_lf_ok (fun _ => ok_goto dX12_fault_20 rfl))) (am_nd_ok (am_lf_ok (fun _ => ok_iconst dX12_fault_23 cv_iconst_m1 rfl)) (am_lf_ok (fun _ => ok_iret rfl dX12_fault_24)))))
def tX12_fault : Nat → Option am_Act := tX12_fault_0
theorem gX12_fault : am_Good tT mX12_fault tX12_fault := gX12_fault_0
theorem dX12_both_0 : decode cX12_both 0 = .ok (.iload_n 0, 1) := by decide +kernel
theorem dX12_both_1 : decode cX12_both 1 = .ok (.tableswitch 100 13 21 #[51, 55, 59, 100, 63, 74, 85, 100, 96], 51) := by decide +kernel
theorem dX12_both_52 : decode cX12_both 52 = .ok (.iload_n 1, 1) := by decide +kernel
theorem dX12_both_53 : decode cX12_both 53 = .ok (.iload_n 2, 1) := by decide +kernel
theorem dX12_both_54 : decode cX12_both 54 = .ok (.iadd, 1) := by decide +kernel
theorem dX12_both_55 : decode cX12_both 55 = .ok (.ireturn, 1) := by decide +kernel
theorem dX12_both_56 : decode cX12_both 56 = .ok (.iload_n 1, 1) := by decide +kernel
theorem dX12_both_57 : decode cX12_both 57 = .ok (.iload_n 2, 1) := by decide +kernel
theorem dX12_both_58 : decode cX12_both 58 = .ok (.isub, 1) := by decide +kernel
theorem dX12_both_59 : decode cX12_both 59 = .ok (.ireturn, 1) := by decide +kernel
theorem dX12_both_60 : decode cX12_both 60 = .ok (.iload_n 1, 1) := by decide +kernel
theorem dX12_both_61 : decode cX12_both 61 = .ok (.iload_n 2, 1) := by decide +kernel
theorem dX12_both_62 : decode cX12_both 62 = .ok (.imul, 1) := by decide +kernel
theorem dX12_both_63 : decode cX12_both 63 = .ok (.ireturn, 1) := by decide +kernel
theorem dX12_both_64 : decode cX12_both 64 = .ok (.iload_n 1, 1) := by decide +kernel
theorem dX12_both_65 : decode cX12_both 65 = .ok (.iload_n 2, 1) := by decide +kernel
theorem dX12_both_66 : decode cX12_both 66 = .ok (.if_icmp .ge 7, 3) := by decide +kernel
theorem dX12_both_69 : decode cX12_both 69 = .ok (.iconst 1, 1) := by decide +kernel
theorem dX12_both_70 : decode cX12_both 70 = .ok (.goto 4, 3) := by decide +kernel
theorem dX12_both_73 : decode cX12_both 73 = .ok (.iconst 0, 1) := by decide +kernel
theorem dX12_both_74 : decode cX12_both 74 = .ok (.ireturn, 1) := by decide +kernel
theorem dX12_both_75 : decode cX12_both 75 = .ok (.iload_n 1, 1) := by decide +kernel
theorem dX12_both_76 : decode cX12_both 76 = .ok (.iload_n 2, 1) := by decide +kernel
theorem dX12_both_77 : decode cX12_both 77 = .ok (.if_icmp .ne 7, 3) := by decide +kernel
theorem dX12_both_80 : decode cX12_both 80 = .ok (.iconst 1, 1) := by decide +kernel
theorem dX12_both_81 : decode cX12_both 81 = .ok (.goto 4, 3) := by decide +kernel
theorem dX12_both_84 : decode cX12_both 84 = .ok (.iconst 0, 1) := by decide +kernel
theorem dX12_both_85 : decode cX12_both 85 = .ok (.ireturn, 1) := by decide +kernel
theorem dX12_both_86 : decode cX12_both 86 = .ok (.iload_n 1, 1) := by decide +kernel
theorem dX12_both_87 : decode cX12_both 87 = .ok (.iload_n 2, 1) := by decide +kernel
theorem dX12_both_88 : decode cX12_both 88 = .ok (.if_icmp .le 7, 3) := by decide +kernel
theorem dX12_both_91 : decode cX12_both 91 = .ok (.iconst 1, 1) := by decide +kernel
theorem dX12_both_92 : decode cX12_both 92 = .ok (.goto 4, 3) := by decide +kernel
theorem dX12_both_95 : decode cX12_both 95 = .ok (.iconst 0, 1) := by decide +kernel
theorem dX12_both_96 : decode cX12_both 96 = .ok (.ireturn, 1) := by decide +kernel
theorem dX12_both_97 : decode cX12_both 97 = .ok (.iload_n 1, 1) := by decide +kernel
theorem dX12_both_98 : decode cX12_both 98 = .ok (.iload_n 2, 1) := by decide +kernel
theorem dX12_both_99 : decode cX12_both 99 = .ok (.iand, 1) := by decide +kernel
theorem dX12_both_100 : decode cX12_both 100 = .ok (.ireturn, 1) := by decide +kernel
theorem dX12_both_101 : decode cX12_both 101 = .ok (.iload_n 1, 1) := by decide +kernel
theorem dX12_both_102 : decode cX12_both 102 = .ok (.iload_n 2, 1) := by decide +kernel
theorem dX12_both_103 : decode cX12_both 103 = .ok (.ior, 1) := by decide +kernel
theorem dX12_both_104 : decode cX12_both 104 = .ok (.ireturn, 1) := by decide +kernel
def tX12_both_0 : Nat → Option am_Act := am_nd 62 (am_nd 56 (am_nd 53 (am_nd 1 (am_lf 0 (a_iload 0 1)) (am_nd 52 (am_lf 1 (a_sw [(nI 13, 52), (nI 14, 56), (nI 15, 60), (nI 16, 101), (nI 17, 64), (nI 18, 75), (nI 19, 86), (nI 20, 101), (nI 21, 97)] 101)) (am_lf 52 (a_iload 1 53)))) (am_nd 54 (am_lf 53 (a_iload 2 54)) (am_nd 55 (am_lf 54 (a_bin (fun x y => x + y) 55)) (am_lf 55 (a_iret))))) (am_nd 59 (am_nd 57 (am_lf 56 (a_iload 1 57)) (am_nd 58 (am_lf 57 (a_iload 2 58)) (am_lf 58 (a_bin (fun x y => x - y) 59)))) (am_nd 60 (am_lf 59 (a_iret)) (am_nd 61 (am_lf 60 (a_iload 1 61)) (am_lf 61 (a_iload 2 62)))))) (am_nd 70 (am_nd 65 (am_nd 63 (am_lf 62 (a_bin (fun x y => x * y) 63)) (am_nd 64 (am_lf 63 (a_iret)) (am_lf 64 (a_iload 1 65)))) (am_nd 66 (am_lf 65 (a_iload 2 66)) (am_nd 69 (am_lf 66 (a_cmp (fun x y => y ≤ x) 73 69)) (am_lf 69 (a_const (nI 1) 70))))) (am_nd 75 (am_nd 73 (am_lf 70 (a_goto 74)) (am_nd 74 (am_lf 73 (a_const (nI 0) 74)) (am_lf 74 (a_iret)))) (am_nd 76 (am_lf 75 (a_iload 1 76)) (am_nd 77 (am_lf 76 (a_iload 2 77)) (am_lf 77 (a_cmp (fun x y => x = y) 80 84))))))
theorem gX12_both_0 : am_Good tT mX12_both tX12_both_0 := am_nd_ok (am_nd_ok (am_nd_ok (am_nd_ok (am_lf_ok (fun _ => ok_iload_n dX12_both_0 rfl rfl)) (am_nd_ok (am_lf_ok (fun _ => ok_tsw dX12_both_1 rfl (by decide +kernel) (by decide +kernel))) (am_lf_ok (fun _ => ok_iload_n dX12_both_52 rfl rfl)))) (am_nd_ok (am_lf_ok (fun _ => ok_iload_n dX12_both_53 rfl rfl)) (am_nd_ok (am_lf_ok (fun _ => ok_iadd dX12_both_54 rfl)) (am_lf_ok (fun _ => ok_iret rfl dX12_both_55))))) (am_nd_ok (am_nd_ok (am_lf_ok (fun _ => ok_iload_n dX12_both_56 rfl rfl)) (am_nd_ok (am_lf_ok (fun _ => ok_iload_n dX12_both_57 rfl rfl)) (am_lf_ok (fun _ => ok_isub dX12_both_58 rfl)))) (am_nd_ok (am_lf_ok (fun _ => ok_iret rfl dX12_both_59)) (am_nd_ok (am_lf_ok (fun _ => ok_iload_n dX12_both_60 rfl rfl)) (am_lf_ok (fun _ => ok_iload_n dX12_both_61 rfl rfl)))))) (am_nd_ok (am_nd_ok (am_nd_ok (am_lf_ok (fun _ => ok_imul dX12_both_62 rfl)) (am_nd_ok (am_lf_ok (fun _ => ok_iret rfl dX12_both_63)) (am_lf_ok (fun _ => ok_iload_n dX12_both_64 rfl rfl)))) (am_nd_ok (am_lf_ok (fun _ => ok_iload_n dX12_both_65 rfl rfl)) (am_nd_ok (am_lf_ok (fun _ => ok_cmp_ge dX12_both_66 rfl rfl)) (am_lf_ok (fun _ => ok_iconst dX12_both_69 cv_iconst_1 rfl))))) (am_nd_ok (am_nd_ok (am_lf_ok (fun _ => ok_goto dX12_both_70 rfl)) (am_nd_ok (am_lf_ok (fun _ => ok_iconst dX12_both_73 cv_iconst_0 rfl)) (am_lf_ok (fun _ => ok_iret rfl dX12_both_74)))) (am_nd_ok (am_lf_ok (fun _ => ok_iload_n dX12_both_75 rfl rfl)) (am_nd_ok (am_lf_ok (fun _ => ok_iload_n dX12_both_76 rfl rfl)) (am_lf_ok (fun _ => ok_cmp_ne dX12_both_77 rfl rfl))))))
def tX12_both_1 : Nat → Option am_Act := am_nd 95 (am_nd 86 (am_nd 84 (am_nd 81 (am_lf 80 (a_const (nI 1) 81)) (am_lf 81 (a_goto 85))) (am_nd 85 (am_lf 84 (a_const (nI 0) 85)) (am_lf 85 (a_iret)))) (am_nd 88 (am_nd 87 (am_lf 86 (a_iload 1 87)) (am_lf 87 (a_iload 2 88))) (am_nd 91 (am_lf 88 (a_cmp (fun x y => x ≤ y) 95 91)) (am_nd 92 (am_lf 91 (a_const (nI 1) 92)) (am_lf 92 (a_goto 96)))))) (am_nd 100 (am_nd 97 (am_nd 96 (am_lf 95 (a_const (nI 0) 96)) (am_lf 96 (a_iret))) (am_nd 98 (am_lf 97 (a_iload 1 98)) (am_nd 99 (am_lf 98 (a_iload 2 99)) (am_lf 99 (a_bin (fun x y => x &&& y) 100))))) (am_nd 102 (am_nd 101 (am_lf 100 (a_iret)) (am_lf 101 (a_iload 1 102))) (am_nd 103 (am_lf 102 (a_iload 2 103)) (am_nd 104 (am_lf 103 (a_bin (fun x y => x ||| y) 104)) (am_lf 104 (a_iret))))))
theorem gX12_both_1 : am_Good tT mX12_both tX12_both_1 := am_nd_ok (am_nd_ok (am_nd_ok (am_nd_ok (am_lf_ok (fun _ => ok_iconst dX12_both_80 cv_iconst_1 rfl)) (am_lf_ok (fun _ => ok_goto dX12_both_81 rfl))) (am_nd_ok (am_lf_ok (fun _ => ok_iconst dX12_both_84 cv_iconst_0 rfl)) (am_lf_ok (fun _ => ok_iret rfl dX12_both_85)))) (am_nd_ok (am_nd_ok (am_lf_ok (fun _ => ok_iload_n dX12_both_86 rfl rfl)) (am_lf_ok (fun _ => ok_iload_n dX12_both_87 rfl rfl))) (am_nd_ok (am_lf_ok (fun _ => ok_cmp_le dX12_both_88 rfl rfl)) (am_nd_ok (am_lf_ok (fun _ => ok_iconst dX12_both_91 cv_iconst_1 rfl)) (am_lf_ok (fun _ => ok_goto dX12_both_92 rfl)))))) (am_nd_ok (am_nd_ok (am_nd_ok (am_lf_ok (fun _ => ok_iconst dX12_both_95 cv_iconst_0 rfl)) (am_lf_ok (fun _ => ok_iret rfl dX12_both_96))) (am_nd_ok (am_lf_ok (fun _ => ok_iload_n dX12_both_97 rfl rfl)) (am_nd_ok (am_lf_ok (fun _ => ok_iload_n dX12_both_98 rfl rfl)) (am_lf_ok (fun _ => ok_iand dX12_both_99 rfl))))) (am_nd_ok (am_nd_ok (am_lf_ok (fun _ => ok_iret rfl dX12_both_100)) (am_lf_ok (fun _ => ok_iload_n dX12_both_101 rfl rfl))) (am_nd_ok (am_lf_ok (fun _ => ok_iload_n dX12_both_102 rfl rfl)) (am_nd_ok (am_lf_ok (fun _ => ok_ior dX12_both_103 rfl)) (am_lf_ok (fun _ => ok_iret rfl dX12_both_104))))))
def tX12_both : Nat → Option am_Act := am_nd 80 (tX12_both_0) (tX12_both_1)
theorem gX12_both : am_Good tT mX12_both tX12_both := am_nd_ok (gX12_both_0) (gX12_both_1)
theorem dX12_comesTo_0 : decode cX12_comesTo 0 = .ok (.iconst 0, 1) := by decide +kernel
theorem dX12_comesTo_1 : decode cX12_comesTo 1 = .ok (.istore_n 3, 1) := by decide +kernel
theorem dX12_comesTo_2 : decode cX12_comesTo 2 = .ok (.iload_n 1, 1) := by decide +kernel
theorem dX12_comesTo_3 : decode cX12_comesTo 3 = .ok (.istore 4, 2) := by decide +kernel
theorem dX12_comesTo_5 : decode cX12_comesTo 5 = .ok (.iload 4, 2) := by decide +kernel
theorem dX12_comesTo_7 : decode cX12_comesTo 7 = .ok (.iload_n 2, 1) := by decide +kernel
theorem dX12_comesTo_8 : decode cX12_comesTo 8 = .ok (.if_icmp .ge 158, 3) := by decide +kernel
theorem dX12_comesTo_11 : decode cX12_comesTo 11 = .ok (.aload_n 0, 1) := by decide +kernel
theorem dX12_comesTo_12 : decode cX12_comesTo 12 = .ok (.getfield 7, 3) := by decide +kernel
theorem dX12_comesTo_15 : decode cX12_comesTo 15 = .ok (.sipush 930, 3) := by decide +kernel
theorem dX12_comesTo_18 : decode cX12_comesTo 18 = .ok (.iconst 2, 1) := by decide +kernel
theorem dX12_comesTo_19 : decode cX12_comesTo 19 = .ok (.iload 4, 2) := by decide +kernel
theorem dX12_comesTo_21 : decode cX12_comesTo 21 = .ok (.imul, 1) := by decide +kernel
theorem dX12_comesTo_22 : decode cX12_comesTo 22 = .ok (.iadd, 1) := by decide +kernel
theorem dX12_comesTo_23 : decode cX12_comesTo 23 = .ok (.iaload, 1) := by decide +kernel
theorem dX12_comesTo_24 : decode cX12_comesTo 24 = .ok (.istore 5, 2) := by decide +kernel
theorem dX12_comesTo_26 : decode cX12_comesTo 26 = .ok (.aload_n 0, 1) := by decide +kernel
theorem dX12_comesTo_27 : decode cX12_comesTo 27 = .ok (.getfield 7, 3) := by decide +kernel
theorem dX12_comesTo_30 : decode cX12_comesTo 30 = .ok (.sipush 930, 3) := by decide +kernel
theorem dX12_comesTo_33 : decode cX12_comesTo 33 = .ok (.iconst 2, 1) := by decide +kernel
theorem dX12_comesTo_34 : decode cX12_comesTo 34 = .ok (.iload 4, 2) := by decide +kernel
theorem dX12_comesTo_36 : decode cX12_comesTo 36 = .ok (.imul, 1) := by decide +kernel
theorem dX12_comesTo_37 : decode cX12_comesTo 37 = .ok (.iadd, 1) := by decide +kernel
theorem dX12_comesTo_38 : decode cX12_comesTo 38 = .ok (.iconst 1, 1) := by decide +kernel
theorem dX12_comesTo_39 : decode cX12_comesTo 39 = .ok (.iadd, 1) := by decide +kernel
theorem dX12_comesTo_40 : decode cX12_comesTo 40 = .ok (.iaload, 1) := by decide +kernel
theorem dX12_comesTo_41 : decode cX12_comesTo 41 = .ok (.istore 6, 2) := by decide +kernel
theorem dX12_comesTo_43 : decode cX12_comesTo 43 = .ok (.iload 5, 2) := by decide +kernel
theorem dX12_comesTo_45 : decode cX12_comesTo 45 = .ok (.bipush 13, 2) := by decide +kernel
theorem dX12_comesTo_47 : decode cX12_comesTo 47 = .ok (.if_icmp .ge 32, 3) := by decide +kernel
theorem dX12_comesTo_50 : decode cX12_comesTo 50 = .ok (.aload_n 0, 1) := by decide +kernel
theorem dX12_comesTo_51 : decode cX12_comesTo 51 = .ok (.getfield 31, 3) := by decide +kernel
theorem dX12_comesTo_54 : decode cX12_comesTo 54 = .ok (.iload_n 3, 1) := by decide +kernel
theorem dX12_comesTo_55 : decode cX12_comesTo 55 = .ok (.iload 5, 2) := by decide +kernel
theorem dX12_comesTo_57 : decode cX12_comesTo 57 = .ok (.ifCond .ne 8, 3) := by decide +kernel
theorem dX12_comesTo_60 : decode cX12_comesTo 60 = .ok (.iload 6, 2) := by decide +kernel
theorem dX12_comesTo_62 : decode cX12_comesTo 62 = .ok (.goto 10, 3) := by decide +kernel
theorem dX12_comesTo_65 : decode cX12_comesTo 65 = .ok (.aload_n 0, 1) := by decide +kernel
theorem dX12_comesTo_66 : decode cX12_comesTo 66 = .ok (.getfield 34, 3) := by decide +kernel
theorem dX12_comesTo_69 : decode cX12_comesTo 69 = .ok (.iload 5, 2) := by decide +kernel
theorem dX12_comesTo_71 : decode cX12_comesTo 71 = .ok (.iaload, 1) := by decide +kernel
theorem dX12_comesTo_72 : decode cX12_comesTo 72 = .ok (.iastore, 1) := by decide +kernel
theorem dX12_comesTo_73 : decode cX12_comesTo 73 = .ok (.iinc 3 1, 3) := by decide +kernel
theorem dX12_comesTo_76 : decode cX12_comesTo 76 = .ok (.goto 84, 3) := by decide +kernel
theorem dX12_comesTo_79 : decode cX12_comesTo 79 = .ok (.iload 5, 2) := by decide +kernel
theorem dX12_comesTo_81 : decode cX12_comesTo 81 = .ok (.bipush 16, 2) := by decide +kernel
theorem dX12_comesTo_83 : decode cX12_comesTo 83 = .ok (.if_icmp .ne 19, 3) := by decide +kernel
theorem dX12_comesTo_86 : decode cX12_comesTo 86 = .ok (.aload_n 0, 1) := by decide +kernel
theorem dX12_comesTo_87 : decode cX12_comesTo 87 = .ok (.getfield 31, 3) := by decide +kernel
theorem dX12_comesTo_90 : decode cX12_comesTo 90 = .ok (.iload_n 3, 1) := by decide +kernel
theorem dX12_comesTo_91 : decode cX12_comesTo 91 = .ok (.iconst 1, 1) := by decide +kernel
theorem dX12_comesTo_92 : decode cX12_comesTo 92 = .ok (.isub, 1) := by decide +kernel
theorem dX12_comesTo_93 : decode cX12_comesTo 93 = .ok (.dup2, 1) := by decide +kernel
theorem dX12_comesTo_94 : decode cX12_comesTo 94 = .ok (.iaload, 1) := by decide +kernel
theorem dX12_comesTo_95 : decode cX12_comesTo 95 = .ok (.iload 6, 2) := by decide +kernel
theorem dX12_comesTo_97 : decode cX12_comesTo 97 = .ok (.idiv, 1) := by decide +kernel
theorem dX12_comesTo_98 : decode cX12_comesTo 98 = .ok (.iastore, 1) := by decide +kernel
theorem dX12_comesTo_99 : decode cX12_comesTo 99 = .ok (.goto 61, 3) := by decide +kernel
theorem dX12_comesTo_102 : decode cX12_comesTo 102 = .ok (.iload 5, 2) := by decide +kernel
theorem dX12_comesTo_104 : decode cX12_comesTo 104 = .ok (.bipush 20, 2) := by decide +kernel
theorem dX12_comesTo_106 : decode cX12_comesTo 106 = .ok (.if_icmp .ne 24, 3) := by decide +kernel
theorem dX12_comesTo_109 : decode cX12_comesTo 109 = .ok (.aload_n 0, 1) := by decide +kernel
theorem dX12_comesTo_110 : decode cX12_comesTo 110 = .ok (.getfield 31, 3) := by decide +kernel
theorem dX12_comesTo_113 : decode cX12_comesTo 113 = .ok (.iload_n 3, 1) := by decide +kernel
theorem dX12_comesTo_114 : decode cX12_comesTo 114 = .ok (.iconst 1, 1) := by decide +kernel
theorem dX12_comesTo_115 : decode cX12_comesTo 115 = .ok (.isub, 1) := by decide +kernel
theorem dX12_comesTo_116 : decode cX12_comesTo 116 = .ok (.iconst 1, 1) := by decide +kernel
theorem dX12_comesTo_117 : decode cX12_comesTo 117 = .ok (.aload_n 0, 1) := by decide +kernel
theorem dX12_comesTo_118 : decode cX12_comesTo 118 = .ok (.getfield 31, 3) := by decide +kernel
theorem dX12_comesTo_121 : decode cX12_comesTo 121 = .ok (.iload_n 3, 1) := by decide +kernel
theorem dX12_comesTo_122 : decode cX12_comesTo 122 = .ok (.iconst 1, 1) := by decide +kernel
theorem dX12_comesTo_123 : decode cX12_comesTo 123 = .ok (.isub, 1) := by decide +kernel
theorem dX12_comesTo_124 : decode cX12_comesTo 124 = .ok (.iaload, 1) := by decide +kernel
theorem dX12_comesTo_125 : decode cX12_comesTo 125 = .ok (.isub, 1) := by decide +kernel
theorem dX12_comesTo_126 : decode cX12_comesTo 126 = .ok (.iastore, 1) := by decide +kernel
theorem dX12_comesTo_127 : decode cX12_comesTo 127 = .ok (.goto 33, 3) := by decide +kernel
theorem dX12_comesTo_130 : decode cX12_comesTo 130 = .ok (.iinc 3 (-1), 3) := by decide +kernel
theorem dX12_comesTo_133 : decode cX12_comesTo 133 = .ok (.aload_n 0, 1) := by decide +kernel
theorem dX12_comesTo_134 : decode cX12_comesTo 134 = .ok (.getfield 31, 3) := by decide +kernel
theorem dX12_comesTo_137 : decode cX12_comesTo 137 = .ok (.iload_n 3, 1) := by decide +kernel
theorem dX12_comesTo_138 : decode cX12_comesTo 138 = .ok (.iconst 1, 1) := by decide +kernel
theorem dX12_comesTo_139 : decode cX12_comesTo 139 = .ok (.isub, 1) := by decide +kernel
theorem dX12_comesTo_140 : decode cX12_comesTo 140 = .ok (.iload 5, 2) := by decide +kernel
theorem dX12_comesTo_142 : decode cX12_comesTo 142 = .ok (.aload_n 0, 1) := by decide +kernel
theorem dX12_comesTo_143 : decode cX12_comesTo 143 = .ok (.getfield 31, 3) := by decide +kernel
theorem dX12_comesTo_146 : decode cX12_comesTo 146 = .ok (.iload_n 3, 1) := by decide +kernel
theorem dX12_comesTo_147 : decode cX12_comesTo 147 = .ok (.iconst 1, 1) := by decide +kernel
theorem dX12_comesTo_148 : decode cX12_comesTo 148 = .ok (.isub, 1) := by decide +kernel
theorem dX12_comesTo_149 : decode cX12_comesTo 149 = .ok (.iaload, 1) := by decide +kernel
theorem dX12_comesTo_150 : decode cX12_comesTo 150 = .ok (.aload_n 0, 1) := by decide +kernel
theorem dX12_comesTo_151 : decode cX12_comesTo 151 = .ok (.getfield 31, 3) := by decide +kernel
theorem dX12_comesTo_154 : decode cX12_comesTo 154 = .ok (.iload_n 3, 1) := by decide +kernel
theorem dX12_comesTo_155 : decode cX12_comesTo 155 = .ok (.iaload, 1) := by decide +kernel
theorem dX12_comesTo_156 : decode cX12_comesTo 156 = .ok (.invokestatic 224, 3) := by decide +kernel
theorem dX12_comesTo_159 : decode cX12_comesTo 159 = .ok (.iastore, 1) := by decide +kernel
theorem dX12_comesTo_160 : decode cX12_comesTo 160 = .ok (.iinc 4 1, 3) := by decide +kernel
theorem dX12_comesTo_163 : decode cX12_comesTo 163 = .ok (.goto (-158), 3) := by decide +kernel
theorem dX12_comesTo_166 : decode cX12_comesTo 166 = .ok (.aload_n 0, 1) := by decide +kernel
theorem dX12_comesTo_167 : decode cX12_comesTo 167 = .ok (.getfield 31, 3) := by decide +kernel
theorem dX12_comesTo_170 : decode cX12_comesTo 170 = .ok (.iconst 0, 1) := by decide +kernel
theorem dX12_comesTo_171 : decode cX12_comesTo 171 = .ok (.iaload, 1) := by decide +kernel
theorem dX12_comesTo_172 : decode cX12_comesTo 172 = .ok (.ireturn, 1) := by decide +kernel
def tX12_comesTo_0 : Nat → Option am_Act := am_nd 21 (am_nd 8 (am_nd 3 (am_nd 1 (am_lf 0 (a_const (nI 0) 1)) (am_nd 2 (am_lf 1 (a_istore 3 2)) (am_lf 2 (a_iload 1 3)))) (am_nd 5 (am_lf 3 (a_istore 4 5)) (am_nd 7 (am_lf 5 (a_iload 4 7)) (am_lf 7 (a_iload 2 8))))) (am_nd 15 (am_nd 11 (am_lf 8 (a_cmp (fun x y => y ≤ x) 166 11)) (am_nd 12 (am_lf 11 (a_aload 0 12)) (am_lf 12 (a_get tT 12 0 15)))) (am_nd 18 (am_lf 15 (a_const (nI 930) 18)) (am_nd 19 (am_lf 18 (a_const (nI 2) 19)) (am_lf 19 (a_iload 4 21)))))) (am_nd 30 (am_nd 24 (am_nd 22 (am_lf 21 (a_bin (fun x y => x * y) 22)) (am_nd 23 (am_lf 22 (a_bin (fun x y => x + y) 23)) (am_lf 23 (a_iald tT 24)))) (am_nd 26 (am_lf 24 (a_istore 5 26)) (am_nd 27 (am_lf 26 (a_aload 0 27)) (am_lf 27 (a_get tT 12 0 30))))) (am_nd 36 (am_nd 33 (am_lf 30 (a_const (nI 930) 33)) (am_nd 34 (am_lf 33 (a_const (nI 2) 34)) (am_lf 34 (a_iload 4 36)))) (am_nd 37 (am_lf 36 (a_bin (fun x y => x * y) 37)) (am_nd 38 (am_lf 37 (a_bin (fun x y => x + y) 38)) (am_lf 38 (a_const (nI 1) 39))))))
theorem gX12_comesTo_0 : am_Good tT mX12_comesTo tX12_comesTo_0 := am_nd_ok (am_nd_ok (am_nd_ok (am_nd_ok (am_lf_ok (fun _ => ok_iconst dX12_comesTo_0 cv_iconst_0 rfl)) (am_nd_ok (am_lf_ok (fun _ => ok_istore_n dX12_comesTo_1 rfl (Nat.le_of_ble_eq_true rfl) rfl)) (am_lf_ok (fun _ => ok_iload_n dX12_comesTo_2 rfl rfl)))) (am_nd_ok (am_lf_ok (fun _ => ok_istore dX12_comesTo_3 (Nat.le_of_ble_eq_true rfl) rfl)) (am_nd_ok (am_lf_ok (fun _ => ok_iload dX12_comesTo_5 rfl)) (am_lf_ok (fun _ => ok_iload_n dX12_comesTo_7 rfl rfl))))) (am_nd_ok (am_nd_ok (am_lf_ok (fun _ => ok_cmp_ge dX12_comesTo_8 rfl rfl)) (am_nd_ok (am_lf_ok (fun _ => ok_aload_n dX12_comesTo_11 rfl rfl)) (am_lf_ok (fun _ => ok_get (C := RX12) (TT := TX12) (N := 31) rfl inw_X12 (Nat.le_of_ble_eq_true rfl) wd_448 dX12_comesTo_12 rfl)))) (am_nd_ok (am_lf_ok (fun _ => ok_sipush dX12_comesTo_15 cv_sipush_930 rfl)) (am_nd_ok (am_lf_ok (fun _ => ok_iconst dX12_comesTo_18 cv_iconst_2 rfl)) (am_lf_ok (fun _ => ok_iload dX12_comesTo_19 rfl)))))) (am_nd_ok (am_nd_ok (am_nd_ok (am_lf_ok (fun _ => ok_imul dX12_comesTo_21 rfl)) (am_nd_ok (am_lf_ok (fun _ => ok_iadd dX12_comesTo_22 rfl)) (am_lf_ok (fun _ => ok_iald dX12_comesTo_23 rfl)))) (am_nd_ok (am_lf_ok (fun _ => ok_istore dX12_comesTo_24 (Nat.le_of_ble_eq_true rfl) rfl)) (am_nd_ok (am_lf_ok (fun _ => ok_aload_n dX12_comesTo_26 rfl rfl)) (am_lf_ok (fun _ => ok_get (C := RX12) (TT := TX12) (N := 31) rfl inw_X12 (Nat.le_of_ble_eq_true rfl) wd_448 dX12_comesTo_27 rfl))))) (am_nd_ok (am_nd_ok (am_lf_ok (fun _ => ok_sipush dX12_comesTo_30 cv_sipush_930 rfl)) (am_nd_ok (am_lf_ok (fun _ => ok_iconst dX12_comesTo_33 cv_iconst_2 rfl)) (am_lf_ok (fun _ => ok_iload dX12_comesTo_34 rfl)))) (am_nd_ok (am_lf_ok (fun _ => ok_imul dX12_comesTo_36 rfl)) (am_nd_ok (am_lf_ok (fun _ => ok_iadd dX12_comesTo_37 rfl)) (am_lf_ok (fun _ => ok_iconst dX12_comesTo_38 cv_iconst_1 rfl))))))
def tX12_comesTo_1 : Nat → Option am_Act := am_nd 62 (am_nd 50 (am_nd 43 (am_nd 40 (am_lf 39 (a_bin (fun x y => x + y) 40)) (am_nd 41 (am_lf 40 (a_iald tT 41)) (am_lf 41 (a_istore 6 43)))) (am_nd 45 (am_lf 43 (a_iload 5 45)) (am_nd 47 (am_lf 45 (a_const (nI 13) 47)) (am_lf 47 (a_cmp (fun x y => y ≤ x) 79 50))))) (am_nd 55 (am_nd 51 (am_lf 50 (a_aload 0 51)) (am_nd 54 (am_lf 51 (a_get tT 12 9 54)) (am_lf 54 (a_iload 3 55)))) (am_nd 57 (am_lf 55 (a_iload 5 57)) (am_nd 60 (am_lf 57 (a_if (fun x => x = nI 0) 60 65)) (am_lf 60 (a_iload 6 62)))))) (am_nd 73 (am_nd 69 (am_nd 65 (am_lf 62 (a_goto 72)) (am_nd 66 (am_lf 65 (a_aload 0 66)) (am_lf 66 (a_get tT 12 10 69)))) (am_nd 71 (am_lf 69 (a_iload 5 71)) (am_nd 72 (am_lf 71 (a_iald tT 72)) (am_lf 72 (a_iast tT 73))))) (am_nd 81 (am_nd 76 (am_lf 73 (a_iinc 3 (nI 1) 76)) (am_nd 79 (am_lf 76 (a_goto 160)) (am_lf 79 (a_iload 5 81)))) (am_nd 83 (am_lf 81 (a_const (nI 16) 83)) (am_nd 86 (am_lf 83 (a_cmp (fun x y => x = y) 86 102)) (am_lf 86 (a_aload 0 87))))))
theorem gX12_comesTo_1 : am_Good tT mX12_comesTo tX12_comesTo_1 := am_nd_ok (am_nd_ok (am_nd_ok (am_nd_ok (am_lf_ok (fun _ => ok_iadd dX12_comesTo_39 rfl)) (am_nd_ok (am_lf_ok (fun _ => ok_iald dX12_comesTo_40 rfl)) (am_lf_ok (fun _ => ok_istore dX12_comesTo_41 (Nat.le_of_ble_eq_true rfl) rfl)))) (am_nd_ok (am_lf_ok (fun _ => ok_iload dX12_comesTo_43 rfl)) (am_nd_ok (am_lf_ok (fun _ => ok_bipush dX12_comesTo_45 cv_bipush_13 rfl)) (am_lf_ok (fun _ => ok_cmp_ge dX12_comesTo_47 rfl rfl))))) (am_nd_ok (am_nd_ok (am_lf_ok (fun _ => ok_aload_n dX12_comesTo_50 rfl rfl)) (am_nd_ok (am_lf_ok (fun _ => ok_get (C := RX12) (TT := TX12) (N := 31) rfl inw_X12 (Nat.le_of_ble_eq_true rfl) wd_549 dX12_comesTo_51 rfl)) (am_lf_ok (fun _ => ok_iload_n dX12_comesTo_54 rfl rfl)))) (am_nd_ok (am_lf_ok (fun _ => ok_iload dX12_comesTo_55 rfl)) (am_nd_ok (am_lf_ok (fun _ => ok_if_ne dX12_comesTo_57 rfl rfl)) (am_lf_ok (fun _ => ok_iload dX12_comesTo_60 rfl)))))) (am_nd_ok (am_nd_ok (am_nd_ok (am_lf_ok (fun _ => ok_goto dX12_comesTo_62 rfl)) (am_nd_ok (am_lf_ok (fun _ => ok_aload_n dX12_comesTo_65 rfl rfl)) (am_lf_ok (fun _ => ok_get (C := RX12) (TT := TX12) (N := 31) rfl inw_X12 (Nat.le_of_ble_eq_true rfl) wd_550 dX12_comesTo_66 rfl)))) (am_nd_ok (am_lf_ok (fun _ => ok_iload dX12_comesTo_69 rfl)) (am_nd_ok (am_lf_ok (fun _ => ok_iald dX12_comesTo_71 rfl)) (am_lf_ok (fun _ => ok_iast dX12_comesTo_72 rfl))))) (am_nd_ok (am_nd_ok (am_lf_ok (fun _ => ok_iinc dX12_comesTo_73 cv_iconst_1 (Nat.le_of_ble_eq_true rfl) rfl)) (am_nd_ok (am_lf_ok (fun _ => ok_goto dX12_comesTo_76 rfl)) (am_lf_ok (fun _ => ok_iload dX12_comesTo_79 rfl)))) (am_nd_ok (am_lf_ok (fun _ => ok_bipush dX12_comesTo_81 cv_bipush_16 rfl)) (am_nd_ok (am_lf_ok (fun _ => ok_cmp_ne dX12_comesTo_83 rfl rfl)) (am_lf_ok (fun _ => ok_aload_n dX12_comesTo_86 rfl rfl))))))
def tX12_comesTo_2 : Nat → Option am_Act := am_nd 106 (am_nd 95 (am_nd 92 (am_nd 90 (am_lf 87 (a_get tT 12 9 90)) (am_nd 91 (am_lf 90 (a_iload 3 91)) (am_lf 91 (a_const (nI 1) 92)))) (am_nd 93 (am_lf 92 (a_bin (fun x y => x - y) 93)) (am_nd 94 (am_lf 93 (a_dup2 94)) (am_lf 94 (a_iald tT 95))))) (am_nd 99 (am_nd 97 (am_lf 95 (a_iload 6 97)) (am_nd 98 (am_lf 97 (a_divr (fun x y => x / y) 98)) (am_lf 98 (a_iast tT 99)))) (am_nd 102 (am_lf 99 (a_goto 160)) (am_nd 104 (am_lf 102 (a_iload 5 104)) (am_lf 104 (a_const (nI 20) 106)))))) (am_nd 116 (am_nd 113 (am_nd 109 (am_lf 106 (a_cmp (fun x y => x = y) 109 130)) (am_nd 110 (am_lf 109 (a_aload 0 110)) (am_lf 110 (a_get tT 12 9 113)))) (am_nd 114 (am_lf 113 (a_iload 3 114)) (am_nd 115 (am_lf 114 (a_const (nI 1) 115)) (am_lf 115 (a_bin (fun x y => x - y) 116))))) (am_nd 121 (am_nd 117 (am_lf 116 (a_const (nI 1) 117)) (am_nd 118 (am_lf 117 (a_aload 0 118)) (am_lf 118 (a_get tT 12 9 121)))) (am_nd 122 (am_lf 121 (a_iload 3 122)) (am_nd 123 (am_lf 122 (a_const (nI 1) 123)) (am_lf 123 (a_bin (fun x y => x - y) 124))))))
theorem gX12_comesTo_2 : am_Good tT mX12_comesTo tX12_comesTo_2 := am_nd_ok (am_nd_ok (am_nd_ok (am_nd_ok (am_lf_ok (fun _ => ok_get (C := RX12) (TT := TX12) (N := 31) rfl inw_X12 (Nat.le_of_ble_eq_true rfl) wd_549 dX12_comesTo_87 rfl)) (am_nd_ok (am_lf_ok (fun _ => ok_iload_n dX12_comesTo_90 rfl rfl)) (am_lf_ok (fun _ => ok_iconst dX12_comesTo_91 cv_iconst_1 rfl)))) (am_nd_ok (am_lf_ok (fun _ => ok_isub dX12_comesTo_92 rfl)) (am_nd_ok (am_lf_ok (fun _ => ok_dup2 dX12_comesTo_93 rfl)) (am_lf_ok (fun _ => ok_iald dX12_comesTo_94 rfl))))) (am_nd_ok (am_nd_ok (am_lf_ok (fun _ => ok_iload dX12_comesTo_95 rfl)) (am_nd_ok (am_lf_ok (fun _ => ok_idiv dX12_comesTo_97 rfl)) (am_lf_ok (fun _ => ok_iast dX12_comesTo_98 rfl)))) (am_nd_ok (am_lf_ok (fun _ => ok_goto dX12_comesTo_99 rfl)) (am_nd_ok (am_lf_ok (fun _ => ok_iload dX12_comesTo_102 rfl)) (am_lf_ok (fun _ => ok_bipush dX12_comesTo_104 cv_bipush_20 rfl)))))) (am_nd_ok (am_nd_ok (am_nd_ok (am_lf_ok (fun _ => ok_cmp_ne dX12_comesTo_106 rfl rfl)) (am_nd_ok (am_lf_ok (fun _ => ok_aload_n dX12_comesTo_109 rfl rfl)) (am_lf_ok (fun _ => ok_get (C := RX12) (TT := TX12) (N := 31) rfl inw_X12 (Nat.le_of_ble_eq_true rfl) wd_549 dX12_comesTo_110 rfl)))) (am_nd_ok (am_lf_ok (fun _ => ok_iload_n dX12_comesTo_113 rfl rfl)) (am_nd_ok (am_lf_ok (fun _ => ok_iconst dX12_comesTo_114 cv_iconst_1 rfl)) (am_lf_ok (fun _ => ok_isub dX12_comesTo_115 rfl))))) (am_nd_ok (am_nd_ok (am_lf_ok (fun _ => ok_iconst dX12_comesTo_116 cv_iconst_1 rfl)) (am_nd_ok (am_lf_ok (fun _ => ok_aload_n dX12_comesTo_117 rfl rfl)) (am_lf_ok (fun _ => ok_get (C := RX12) (TT := TX12) (N := 31) rfl inw_X12 (Nat.le_of_ble_eq_true rfl) wd_549 dX12_comesTo_118 rfl)))) (am_nd_ok (am_lf_ok (fun _ => ok_iload_n dX12_comesTo_121 rfl rfl)) (am_nd_ok (am_lf_ok (fun _ => ok_iconst dX12_comesTo_122 cv_iconst_1 rfl)) (am_lf_ok (fun _ => ok_isub dX12_comesTo_123 rfl))))))
def tX12_comesTo_3 : Nat → Option am_Act := am_nd 143 (am_nd 134 (am_nd 127 (am_nd 125 (am_lf 124 (a_iald tT 125)) (am_nd 126 (am_lf 125 (a_bin (fun x y => x - y) 126)) (am_lf 126 (a_iast tT 127)))) (am_nd 130 (am_lf 127 (a_goto 160)) (am_nd 133 (am_lf 130 (a_iinc 3 (-1) 133)) (am_lf 133 (a_aload 0 134))))) (am_nd 139 (am_nd 137 (am_lf 134 (a_get tT 12 9 137)) (am_nd 138 (am_lf 137 (a_iload 3 138)) (am_lf 138 (a_const (nI 1) 139)))) (am_nd 140 (am_lf 139 (a_bin (fun x y => x - y) 140)) (am_nd 142 (am_lf 140 (a_iload 5 142)) (am_lf 142 (a_aload 0 143)))))) (am_nd 151 (am_nd 148 (am_nd 146 (am_lf 143 (a_get tT 12 9 146)) (am_nd 147 (am_lf 146 (a_iload 3 147)) (am_lf 147 (a_const (nI 1) 148)))) (am_nd 149 (am_lf 148 (a_bin (fun x y => x - y) 149)) (am_nd 150 (am_lf 149 (a_iald tT 150)) (am_lf 150 (a_aload 0 151))))) (am_nd 156 (am_nd 154 (am_lf 151 (a_get tT 12 9 154)) (am_nd 155 (am_lf 154 (a_iload 3 155)) (am_lf 155 (a_iald tT 156)))) (am_nd 159 (am_lf 156 (a_csI mX12_both 3 159)) (am_nd 160 (am_lf 159 (a_iast tT 160)) (am_lf 160 (a_iinc 4 (nI 1) 163))))))
theorem gX12_comesTo_3 : am_Good tT mX12_comesTo tX12_comesTo_3 := am_nd_ok (am_nd_ok (am_nd_ok (am_nd_ok (am_lf_ok (fun _ => ok_iald dX12_comesTo_124 rfl)) (am_nd_ok (am_lf_ok (fun _ => ok_isub dX12_comesTo_125 rfl)) (am_lf_ok (fun _ => ok_iast dX12_comesTo_126 rfl)))) (am_nd_ok (am_lf_ok (fun _ => ok_goto dX12_comesTo_127 rfl)) (am_nd_ok (am_lf_ok (fun _ => ok_iinc dX12_comesTo_130 cv_iconst_m1 (Nat.le_of_ble_eq_true rfl) rfl)) (am_lf_ok (fun _ => ok_aload_n dX12_comesTo_133 rfl rfl))))) (am_nd_ok (am_nd_ok (am_lf_ok (fun _ => ok_get (C := RX12) (TT := TX12) (N := 31) rfl inw_X12 (Nat.le_of_ble_eq_true rfl) wd_549 dX12_comesTo_134 rfl)) (am_nd_ok (am_lf_ok (fun _ => ok_iload_n dX12_comesTo_137 rfl rfl)) (am_lf_ok (fun _ => ok_iconst dX12_comesTo_138 cv_iconst_1 rfl)))) (am_nd_ok (am_lf_ok (fun _ => ok_isub dX12_comesTo_139 rfl)) (am_nd_ok (am_lf_ok (fun _ => ok_iload dX12_comesTo_140 rfl)) (am_lf_ok (fun _ => ok_aload_n dX12_comesTo_142 rfl rfl)))))) (am_nd_ok (am_nd_ok (am_nd_ok (am_lf_ok (fun _ => ok_get (C := RX12) (TT := TX12) (N := 31) rfl inw_X12 (Nat.le_of_ble_eq_true rfl) wd_549 dX12_comesTo_143 rfl)) (am_nd_ok (am_lf_ok (fun _ => ok_iload_n dX12_comesTo_146 rfl rfl)) (am_lf_ok (fun _ => ok_iconst dX12_comesTo_147 cv_iconst_1 rfl)))) (am_nd_ok (am_lf_ok (fun _ => ok_isub dX12_comesTo_148 rfl)) (am_nd_ok (am_lf_ok (fun _ => ok_iald dX12_comesTo_149 rfl)) (am_lf_ok (fun _ => ok_aload_n dX12_comesTo_150 rfl rfl))))) (am_nd_ok (am_nd_ok (am_lf_ok (fun _ => ok_get (C := RX12) (TT := TX12) (N := 31) rfl inw_X12 (Nat.le_of_ble_eq_true rfl) wd_549 dX12_comesTo_151 rfl)) (am_nd_ok (am_lf_ok (fun _ => ok_iload_n dX12_comesTo_154 rfl rfl)) (am_lf_ok (fun _ => ok_iald dX12_comesTo_155 rfl)))) (am_nd_ok (am_lf_ok (fun _ => ok_csI rfl mw_X12_both wd_551 wd_552 dX12_comesTo_156 rfl)) (am_nd_ok (am_lf_ok (fun _ => ok_iast dX12_comesTo_159 rfl)) (am_lf_ok (fun _ => ok_iinc dX12_comesTo_160 cv_iconst_1 (Nat.le_of_ble_eq_true rfl) rfl))))))
def tX12_comesTo_4 : Nat → Option am_Act := am_nd 170 (am_nd 166 (am_lf 163 (a_goto 5)) (am_nd 167 (am_lf 166 (a_aload 0 167)) (am_lf 167 (a_get tT 12 9 170)))) (am_nd 171 (am_lf 170 (a_const (nI 0) 171)) (am_nd 172 (am_lf 171 (a_iald tT 172)) (am_lf 172 (a_iret))))
theorem gX12_comesTo_4 : am_Good tT mX12_comesTo tX12_comesTo_4 := am_nd_ok (am_nd_ok (am_lf_ok (fun _ => ok_goto dX12_comesTo_163 rfl)) (am_nd_ok (am_lf_ok (fun _ => ok_aload_n dX12_comesTo_166 rfl rfl)) (am_lf_ok (fun _ => ok_get (C := RX12) (TT := TX12) (N := 31) rfl inw_X12 (Nat.le_of_ble_eq_true rfl) wd_549 dX12_comesTo_167 rfl)))) (am_nd_ok (am_lf_ok (fun _ => ok_iconst dX12_comesTo_170 cv_iconst_0 rfl)) (am_nd_ok (am_lf_ok (fun _ => ok_iald dX12_comesTo_171 rfl)) (am_lf_ok (fun _ => ok_iret rfl dX12_comesTo_172))))
def tX12_comesTo : Nat → Option am_Act := am_nd 87 (am_nd 39 (tX12_comesTo_0) (tX12_comesTo_1)) (am_nd 124 (tX12_comesTo_2) (am_nd 163 (tX12_comesTo_3) (tX12_comesTo_4)))
theorem gX12_comesTo : am_Good tT mX12_comesTo tX12_comesTo := am_nd_ok (am_nd_ok (gX12_comesTo_0) (gX12_comesTo_1)) (am_nd_ok (gX12_comesTo_2) (am_nd_ok (gX12_comesTo_3) (gX12_comesTo_4)))
theorem dX12_mayLeave_0 : decode cX12_mayLeave 0 = .ok (.aload_n 0, 1) := by decide +kernel
theorem dX12_mayLeave_1 : decode cX12_mayLeave 1 = .ok (.iload_n 1, 1) := by decide +kernel
theorem dX12_mayLeave_2 : decode cX12_mayLeave 2 = .ok (.iconst 5, 1) := by decide +kernel
theorem dX12_mayLeave_3 : decode cX12_mayLeave 3 = .ok (.iload_n 2, 1) := by decide +kernel
theorem dX12_mayLeave_4 : decode cX12_mayLeave 4 = .ok (.iadd, 1) := by decide +kernel
theorem dX12_mayLeave_5 : decode cX12_mayLeave 5 = .ok (.invokevirtual 76, 3) := by decide +kernel
theorem dX12_mayLeave_8 : decode cX12_mayLeave 8 = .ok (.istore 4, 2) := by decide +kernel
theorem dX12_mayLeave_10 : decode cX12_mayLeave 10 = .ok (.aload_n 0, 1) := by decide +kernel
theorem dX12_mayLeave_11 : decode cX12_mayLeave 11 = .ok (.getfield 34, 3) := by decide +kernel
theorem dX12_mayLeave_14 : decode cX12_mayLeave 14 = .ok (.iconst 1, 1) := by decide +kernel
theorem dX12_mayLeave_15 : decode cX12_mayLeave 15 = .ok (.aload_n 0, 1) := by decide +kernel
theorem dX12_mayLeave_16 : decode cX12_mayLeave 16 = .ok (.getfield 7, 3) := by decide +kernel
theorem dX12_mayLeave_19 : decode cX12_mayLeave 19 = .ok (.bipush 10, 2) := by decide +kernel
theorem dX12_mayLeave_21 : decode cX12_mayLeave 21 = .ok (.iload 4, 2) := by decide +kernel
theorem dX12_mayLeave_23 : decode cX12_mayLeave 23 = .ok (.iadd, 1) := by decide +kernel
theorem dX12_mayLeave_24 : decode cX12_mayLeave 24 = .ok (.iaload, 1) := by decide +kernel
theorem dX12_mayLeave_25 : decode cX12_mayLeave 25 = .ok (.iastore, 1) := by decide +kernel
theorem dX12_mayLeave_26 : decode cX12_mayLeave 26 = .ok (.aload_n 0, 1) := by decide +kernel
theorem dX12_mayLeave_27 : decode cX12_mayLeave 27 = .ok (.getfield 34, 3) := by decide +kernel
theorem dX12_mayLeave_30 : decode cX12_mayLeave 30 = .ok (.iconst 2, 1) := by decide +kernel
theorem dX12_mayLeave_31 : decode cX12_mayLeave 31 = .ok (.aload_n 0, 1) := by decide +kernel
theorem dX12_mayLeave_32 : decode cX12_mayLeave 32 = .ok (.getfield 7, 3) := by decide +kernel
theorem dX12_mayLeave_35 : decode cX12_mayLeave 35 = .ok (.bipush 30, 2) := by decide +kernel
theorem dX12_mayLeave_37 : decode cX12_mayLeave 37 = .ok (.iload 4, 2) := by decide +kernel
theorem dX12_mayLeave_39 : decode cX12_mayLeave 39 = .ok (.iadd, 1) := by decide +kernel
theorem dX12_mayLeave_40 : decode cX12_mayLeave 40 = .ok (.iaload, 1) := by decide +kernel
theorem dX12_mayLeave_41 : decode cX12_mayLeave 41 = .ok (.iastore, 1) := by decide +kernel
theorem dX12_mayLeave_42 : decode cX12_mayLeave 42 = .ok (.aload_n 0, 1) := by decide +kernel
theorem dX12_mayLeave_43 : decode cX12_mayLeave 43 = .ok (.getfield 34, 3) := by decide +kernel
theorem dX12_mayLeave_46 : decode cX12_mayLeave 46 = .ok (.iconst 3, 1) := by decide +kernel
theorem dX12_mayLeave_47 : decode cX12_mayLeave 47 = .ok (.aload_n 0, 1) := by decide +kernel
theorem dX12_mayLeave_48 : decode cX12_mayLeave 48 = .ok (.iload_n 1, 1) := by decide +kernel
theorem dX12_mayLeave_49 : decode cX12_mayLeave 49 = .ok (.iconst 2, 1) := by decide +kernel
theorem dX12_mayLeave_50 : decode cX12_mayLeave 50 = .ok (.invokevirtual 76, 3) := by decide +kernel
theorem dX12_mayLeave_53 : decode cX12_mayLeave 53 = .ok (.iastore, 1) := by decide +kernel
theorem dX12_mayLeave_54 : decode cX12_mayLeave 54 = .ok (.aload_n 0, 1) := by decide +kernel
theorem dX12_mayLeave_55 : decode cX12_mayLeave 55 = .ok (.getfield 34, 3) := by decide +kernel
theorem dX12_mayLeave_58 : decode cX12_mayLeave 58 = .ok (.iconst 4, 1) := by decide +kernel
theorem dX12_mayLeave_59 : decode cX12_mayLeave 59 = .ok (.iload_n 2, 1) := by decide +kernel
theorem dX12_mayLeave_60 : decode cX12_mayLeave 60 = .ok (.iastore, 1) := by decide +kernel
theorem dX12_mayLeave_61 : decode cX12_mayLeave 61 = .ok (.aload_n 0, 1) := by decide +kernel
theorem dX12_mayLeave_62 : decode cX12_mayLeave 62 = .ok (.getfield 34, 3) := by decide +kernel
theorem dX12_mayLeave_65 : decode cX12_mayLeave 65 = .ok (.iconst 5, 1) := by decide +kernel
theorem dX12_mayLeave_66 : decode cX12_mayLeave 66 = .ok (.iconst 0, 1) := by decide +kernel
theorem dX12_mayLeave_67 : decode cX12_mayLeave 67 = .ok (.iastore, 1) := by decide +kernel
theorem dX12_mayLeave_68 : decode cX12_mayLeave 68 = .ok (.iconst 0, 1) := by decide +kernel
theorem dX12_mayLeave_69 : decode cX12_mayLeave 69 = .ok (.istore 5, 2) := by decide +kernel
theorem dX12_mayLeave_71 : decode cX12_mayLeave 71 = .ok (.iload 5, 2) := by decide +kernel
theorem dX12_mayLeave_73 : decode cX12_mayLeave 73 = .ok (.aload_n 0, 1) := by decide +kernel
theorem dX12_mayLeave_74 : decode cX12_mayLeave 74 = .ok (.getfield 7, 3) := by decide +kernel
theorem dX12_mayLeave_77 : decode cX12_mayLeave 77 = .ok (.iconst 1, 1) := by decide +kernel
theorem dX12_mayLeave_78 : decode cX12_mayLeave 78 = .ok (.iaload, 1) := by decide +kernel
theorem dX12_mayLeave_79 : decode cX12_mayLeave 79 = .ok (.if_icmp .ge 40, 3) := by decide +kernel
theorem dX12_mayLeave_82 : decode cX12_mayLeave 82 = .ok (.aload_n 0, 1) := by decide +kernel
theorem dX12_mayLeave_83 : decode cX12_mayLeave 83 = .ok (.getfield 34, 3) := by decide +kernel
theorem dX12_mayLeave_86 : decode cX12_mayLeave 86 = .ok (.iconst 5, 1) := by decide +kernel
theorem dX12_mayLeave_87 : decode cX12_mayLeave 87 = .ok (.dup2, 1) := by decide +kernel
theorem dX12_mayLeave_88 : decode cX12_mayLeave 88 = .ok (.iaload, 1) := by decide +kernel
theorem dX12_mayLeave_89 : decode cX12_mayLeave 89 = .ok (.iload 5, 2) := by decide +kernel
theorem dX12_mayLeave_91 : decode cX12_mayLeave 91 = .ok (.iload_n 1, 1) := by decide +kernel
theorem dX12_mayLeave_92 : decode cX12_mayLeave 92 = .ok (.if_icmp .eq 18, 3) := by decide +kernel
theorem dX12_mayLeave_95 : decode cX12_mayLeave 95 = .ok (.aload_n 0, 1) := by decide +kernel
theorem dX12_mayLeave_96 : decode cX12_mayLeave 96 = .ok (.iload 5, 2) := by decide +kernel
theorem dX12_mayLeave_98 : decode cX12_mayLeave 98 = .ok (.iload 4, 2) := by decide +kernel
theorem dX12_mayLeave_100 : decode cX12_mayLeave 100 = .ok (.invokevirtual 80, 3) := by decide +kernel
theorem dX12_mayLeave_103 : decode cX12_mayLeave 103 = .ok (.ifCond .eq 7, 3) := by decide +kernel
theorem dX12_mayLeave_106 : decode cX12_mayLeave 106 = .ok (.iconst 1, 1) := by decide +kernel
theorem dX12_mayLeave_107 : decode cX12_mayLeave 107 = .ok (.goto 4, 3) := by decide +kernel
theorem dX12_mayLeave_110 : decode cX12_mayLeave 110 = .ok (.iconst 0, 1) := by decide +kernel
theorem dX12_mayLeave_111 : decode cX12_mayLeave 111 = .ok (.iadd, 1) := by decide +kernel
theorem dX12_mayLeave_112 : decode cX12_mayLeave 112 = .ok (.iastore, 1) := by decide +kernel
theorem dX12_mayLeave_113 : decode cX12_mayLeave 113 = .ok (.iinc 5 1, 3) := by decide +kernel
theorem dX12_mayLeave_116 : decode cX12_mayLeave 116 = .ok (.goto (-45), 3) := by decide +kernel
theorem dX12_mayLeave_119 : decode cX12_mayLeave 119 = .ok (.aload_n 0, 1) := by decide +kernel
theorem dX12_mayLeave_120 : decode cX12_mayLeave 120 = .ok (.getfield 34, 3) := by decide +kernel
theorem dX12_mayLeave_123 : decode cX12_mayLeave 123 = .ok (.bipush 6, 2) := by decide +kernel
theorem dX12_mayLeave_125 : decode cX12_mayLeave 125 = .ok (.iload_n 3, 1) := by decide +kernel
theorem dX12_mayLeave_126 : decode cX12_mayLeave 126 = .ok (.iastore, 1) := by decide +kernel
theorem dX12_mayLeave_127 : decode cX12_mayLeave 127 = .ok (.aload_n 0, 1) := by decide +kernel
theorem dX12_mayLeave_128 : decode cX12_mayLeave 128 = .ok (.getfield 34, 3) := by decide +kernel
theorem dX12_mayLeave_131 : decode cX12_mayLeave 131 = .ok (.bipush 7, 2) := by decide +kernel
theorem dX12_mayLeave_133 : decode cX12_mayLeave 133 = .ok (.aload_n 0, 1) := by decide +kernel
theorem dX12_mayLeave_134 : decode cX12_mayLeave 134 = .ok (.getfield 7, 3) := by decide +kernel
theorem dX12_mayLeave_137 : decode cX12_mayLeave 137 = .ok (.iconst 3, 1) := by decide +kernel
theorem dX12_mayLeave_138 : decode cX12_mayLeave 138 = .ok (.iaload, 1) := by decide +kernel
theorem dX12_mayLeave_139 : decode cX12_mayLeave 139 = .ok (.iastore, 1) := by decide +kernel
theorem dX12_mayLeave_140 : decode cX12_mayLeave 140 = .ok (.aload_n 0, 1) := by decide +kernel
theorem dX12_mayLeave_141 : decode cX12_mayLeave 141 = .ok (.getfield 34, 3) := by decide +kernel
theorem dX12_mayLeave_144 : decode cX12_mayLeave 144 = .ok (.bipush 8, 2) := by decide +kernel
theorem dX12_mayLeave_146 : decode cX12_mayLeave 146 = .ok (.aload_n 0, 1) := by decide +kernel
theorem dX12_mayLeave_147 : decode cX12_mayLeave 147 = .ok (.getfield 7, 3) := by decide +kernel
theorem dX12_mayLeave_150 : decode cX12_mayLeave 150 = .ok (.sipush 220, 3) := by decide +kernel
theorem dX12_mayLeave_153 : decode cX12_mayLeave 153 = .ok (.bipush 20, 2) := by decide +kernel
theorem dX12_mayLeave_155 : decode cX12_mayLeave 155 = .ok (.iload_n 3, 1) := by decide +kernel
theorem dX12_mayLeave_156 : decode cX12_mayLeave 156 = .ok (.imul, 1) := by decide +kernel
theorem dX12_mayLeave_157 : decode cX12_mayLeave 157 = .ok (.iadd, 1) := by decide +kernel
theorem dX12_mayLeave_158 : decode cX12_mayLeave 158 = .ok (.iload 4, 2) := by decide +kernel
theorem dX12_mayLeave_160 : decode cX12_mayLeave 160 = .ok (.iadd, 1) := by decide +kernel
theorem dX12_mayLeave_161 : decode cX12_mayLeave 161 = .ok (.iaload, 1) := by decide +kernel
theorem dX12_mayLeave_162 : decode cX12_mayLeave 162 = .ok (.iastore, 1) := by decide +kernel
theorem dX12_mayLeave_163 : decode cX12_mayLeave 163 = .ok (.iconst 0, 1) := by decide +kernel
theorem dX12_mayLeave_164 : decode cX12_mayLeave 164 = .ok (.istore 5, 2) := by decide +kernel
theorem dX12_mayLeave_166 : decode cX12_mayLeave 166 = .ok (.iload 5, 2) := by decide +kernel
theorem dX12_mayLeave_168 : decode cX12_mayLeave 168 = .ok (.aload_n 0, 1) := by decide +kernel
theorem dX12_mayLeave_169 : decode cX12_mayLeave 169 = .ok (.getfield 7, 3) := by decide +kernel
theorem dX12_mayLeave_172 : decode cX12_mayLeave 172 = .ok (.sipush 865, 3) := by decide +kernel
theorem dX12_mayLeave_175 : decode cX12_mayLeave 175 = .ok (.iaload, 1) := by decide +kernel
theorem dX12_mayLeave_176 : decode cX12_mayLeave 176 = .ok (.if_icmp .ge 84, 3) := by decide +kernel
theorem dX12_mayLeave_179 : decode cX12_mayLeave 179 = .ok (.aload_n 0, 1) := by decide +kernel
theorem dX12_mayLeave_180 : decode cX12_mayLeave 180 = .ok (.getfield 7, 3) := by decide +kernel
theorem dX12_mayLeave_183 : decode cX12_mayLeave 183 = .ok (.sipush 910, 3) := by decide +kernel
theorem dX12_mayLeave_186 : decode cX12_mayLeave 186 = .ok (.iload 5, 2) := by decide +kernel
theorem dX12_mayLeave_188 : decode cX12_mayLeave 188 = .ok (.iadd, 1) := by decide +kernel
theorem dX12_mayLeave_189 : decode cX12_mayLeave 189 = .ok (.iaload, 1) := by decide +kernel
theorem dX12_mayLeave_190 : decode cX12_mayLeave 190 = .ok (.aload_n 0, 1) := by decide +kernel
theorem dX12_mayLeave_191 : decode cX12_mayLeave 191 = .ok (.getfield 7, 3) := by decide +kernel
theorem dX12_mayLeave_194 : decode cX12_mayLeave 194 = .ok (.sipush 890, 3) := by decide +kernel
theorem dX12_mayLeave_197 : decode cX12_mayLeave 197 = .ok (.iload 5, 2) := by decide +kernel
theorem dX12_mayLeave_199 : decode cX12_mayLeave 199 = .ok (.iadd, 1) := by decide +kernel
theorem dX12_mayLeave_200 : decode cX12_mayLeave 200 = .ok (.iaload, 1) := by decide +kernel
theorem dX12_mayLeave_201 : decode cX12_mayLeave 201 = .ok (.if_icmp .eq 33, 3) := by decide +kernel
theorem dX12_mayLeave_204 : decode cX12_mayLeave 204 = .ok (.aload_n 0, 1) := by decide +kernel
theorem dX12_mayLeave_205 : decode cX12_mayLeave 205 = .ok (.aload_n 0, 1) := by decide +kernel
theorem dX12_mayLeave_206 : decode cX12_mayLeave 206 = .ok (.getfield 7, 3) := by decide +kernel
theorem dX12_mayLeave_209 : decode cX12_mayLeave 209 = .ok (.sipush 890, 3) := by decide +kernel
theorem dX12_mayLeave_212 : decode cX12_mayLeave 212 = .ok (.iload 5, 2) := by decide +kernel
theorem dX12_mayLeave_214 : decode cX12_mayLeave 214 = .ok (.iadd, 1) := by decide +kernel
theorem dX12_mayLeave_215 : decode cX12_mayLeave 215 = .ok (.iaload, 1) := by decide +kernel
theorem dX12_mayLeave_216 : decode cX12_mayLeave 216 = .ok (.aload_n 0, 1) := by decide +kernel
theorem dX12_mayLeave_217 : decode cX12_mayLeave 217 = .ok (.getfield 7, 3) := by decide +kernel
theorem dX12_mayLeave_220 : decode cX12_mayLeave 220 = .ok (.sipush 910, 3) := by decide +kernel
theorem dX12_mayLeave_223 : decode cX12_mayLeave 223 = .ok (.iload 5, 2) := by decide +kernel
theorem dX12_mayLeave_225 : decode cX12_mayLeave 225 = .ok (.iadd, 1) := by decide +kernel
theorem dX12_mayLeave_226 : decode cX12_mayLeave 226 = .ok (.iaload, 1) := by decide +kernel
theorem dX12_mayLeave_227 : decode cX12_mayLeave 227 = .ok (.invokevirtual 228, 3) := by decide +kernel
theorem dX12_mayLeave_230 : decode cX12_mayLeave 230 = .ok (.iconst 1, 1) := by decide +kernel
theorem dX12_mayLeave_231 : decode cX12_mayLeave 231 = .ok (.if_icmp .ne 23, 3) := by decide +kernel
theorem dX12_mayLeave_234 : decode cX12_mayLeave 234 = .ok (.aload_n 0, 1) := by decide +kernel
theorem dX12_mayLeave_235 : decode cX12_mayLeave 235 = .ok (.getfield 7, 3) := by decide +kernel
theorem dX12_mayLeave_238 : decode cX12_mayLeave 238 = .ok (.sipush 870, 3) := by decide +kernel
theorem dX12_mayLeave_241 : decode cX12_mayLeave 241 = .ok (.iload 5, 2) := by decide +kernel
theorem dX12_mayLeave_243 : decode cX12_mayLeave 243 = .ok (.iadd, 1) := by decide +kernel
theorem dX12_mayLeave_244 : decode cX12_mayLeave 244 = .ok (.iaload, 1) := by decide +kernel
theorem dX12_mayLeave_245 : decode cX12_mayLeave 245 = .ok (.ifCond .ne 7, 3) := by decide +kernel
theorem dX12_mayLeave_248 : decode cX12_mayLeave 248 = .ok (.iconst 1, 1) := by decide +kernel
theorem dX12_mayLeave_249 : decode cX12_mayLeave 249 = .ok (.goto 4, 3) := by decide +kernel
theorem dX12_mayLeave_252 : decode cX12_mayLeave 252 = .ok (.iconst 0, 1) := by decide +kernel
theorem dX12_mayLeave_253 : decode cX12_mayLeave 253 = .ok (.ireturn, 1) := by decide +kernel
theorem dX12_mayLeave_254 : decode cX12_mayLeave 254 = .ok (.iinc 5 1, 3) := by decide +kernel
theorem dX12_mayLeave_257 : decode cX12_mayLeave 257 = .ok (.goto (-91), 3) := by decide +kernel
theorem dX12_mayLeave_260 : decode cX12_mayLeave 260 = .ok (.iconst 1, 1) := by decide +kernel
theorem dX12_mayLeave_261 : decode cX12_mayLeave 261 = .ok (.ireturn, 1) := by decide +kernel
def tX12_mayLeave_0 : Nat → Option am_Act := am_nd 19 (am_nd 8 (am_nd 3 (am_nd 1 (am_lf 0 (a_aload 0 1)) (am_nd 2 (am_lf 1 (a_iload 1 2)) (am_lf 2 (a_const (nI 5) 3)))) (am_nd 4 (am_lf 3 (a_iload 2 4)) (am_nd 5 (am_lf 4 (a_bin (fun x y => x + y) 5)) (am_lf 5 (a_cvI tT mX12_own 12 2 8))))) (am_nd 14 (am_nd 10 (am_lf 8 (a_istore 4 10)) (am_nd 11 (am_lf 10 (a_aload 0 11)) (am_lf 11 (a_get tT 12 10 14)))) (am_nd 15 (am_lf 14 (a_const (nI 1) 15)) (am_nd 16 (am_lf 15 (a_aload 0 16)) (am_lf 16 (a_get tT 12 0 19)))))) (am_nd 27 (am_nd 24 (am_nd 21 (am_lf 19 (a_const (nI 10) 21)) (am_nd 23 (am_lf 21 (a_iload 4 23)) (am_lf 23 (a_bin (fun x y => x + y) 24)))) (am_nd 25 (am_lf 24 (a_iald tT 25)) (am_nd 26 (am_lf 25 (a_iast tT 26)) (am_lf 26 (a_aload 0 27))))) (am_nd 32 (am_nd 30 (am_lf 27 (a_get tT 12 10 30)) (am_nd 31 (am_lf 30 (a_const (nI 2) 31)) (am_lf 31 (a_aload 0 32)))) (am_nd 35 (am_lf 32 (a_get tT 12 0 35)) (am_nd 37 (am_lf 35 (a_const (nI 30) 37)) (am_lf 37 (a_iload 4 39))))))
theorem gX12_mayLeave_0 : am_Good tT mX12_mayLeave tX12_mayLeave_0 := am_nd_ok (am_nd_ok (am_nd_ok (am_nd_ok (am_lf_ok (fun _ => ok_aload_n dX12_mayLeave_0 rfl rfl)) (am_nd_ok (am_lf_ok (fun _ => ok_iload_n dX12_mayLeave_1 rfl rfl)) (am_lf_ok (fun _ => ok_iconst dX12_mayLeave_2 cv_iconst_5 rfl)))) (am_nd_ok (am_lf_ok (fun _ => ok_iload_n dX12_mayLeave_3 rfl rfl)) (am_nd_ok (am_lf_ok (fun _ => ok_iadd dX12_mayLeave_4 rfl)) (am_lf_ok (fun _ => ok_cvI rfl mw_X12_own (ci := 12) rfl rfl wd_462 wd_463 wd_464 dX12_mayLeave_5 rfl))))) (am_nd_ok (am_nd_ok (am_lf_ok (fun _ => ok_istore dX12_mayLeave_8 (Nat.le_of_ble_eq_true rfl) rfl)) (am_nd_ok (am_lf_ok (fun _ => ok_aload_n dX12_mayLeave_10 rfl rfl)) (am_lf_ok (fun _ => ok_get (C := RX12) (TT := TX12) (N := 31) rfl inw_X12 (Nat.le_of_ble_eq_true rfl) wd_550 dX12_mayLeave_11 rfl)))) (am_nd_ok (am_lf_ok (fun _ => ok_iconst dX12_mayLeave_14 cv_iconst_1 rfl)) (am_nd_ok (am_lf_ok (fun _ => ok_aload_n dX12_mayLeave_15 rfl rfl)) (am_lf_ok (fun _ => ok_get (C := RX12) (TT := TX12) (N := 31) rfl inw_X12 (Nat.le_of_ble_eq_true rfl) wd_448 dX12_mayLeave_16 rfl)))))) (am_nd_ok (am_nd_ok (am_nd_ok (am_lf_ok (fun _ => ok_bipush dX12_mayLeave_19 cv_bipush_10 rfl)) (am_nd_ok (am_lf_ok (fun _ => ok_iload dX12_mayLeave_21 rfl)) (am_lf_ok (fun _ => ok_iadd dX12_mayLeave_23 rfl)))) (am_nd_ok (am_lf_ok (fun _ => ok_iald dX12_mayLeave_24 rfl)) (am_nd_ok (am_lf_ok (fun _ => ok_iast dX12_mayLeave_25 rfl)) (am_lf_ok (fun _ => ok_aload_n dX12_mayLeave_26 rfl rfl))))) (am_nd_ok (am_nd_ok (am_lf_ok (fun _ => ok_get (C := RX12) (TT := TX12) (N := 31) rfl inw_X12 (Nat.le_of_ble_eq_true rfl) wd_550 dX12_mayLeave_27 rfl)) (am_nd_ok (am_lf_ok (fun _ => ok_iconst dX12_mayLeave_30 cv_iconst_2 rfl)) (am_lf_ok (fun _ => ok_aload_n dX12_mayLeave_31 rfl rfl)))) (am_nd_ok (am_lf_ok (fun _ => ok_get (C := RX12) (TT := TX12) (N := 31) rfl inw_X12 (Nat.le_of_ble_eq_true rfl) wd_448 dX12_mayLeave_32 rfl)) (am_nd_ok (am_lf_ok (fun _ => ok_bipush dX12_mayLeave_35 cv_bipush_30 rfl)) (am_lf_ok (fun _ => ok_iload dX12_mayLeave_37 rfl))))))
def tX12_mayLeave_1 : Nat → Option am_Act := am_nd 55 (am_nd 47 (am_nd 42 (am_nd 40 (am_lf 39 (a_bin (fun x y => x + y) 40)) (am_nd 41 (am_lf 40 (a_iald tT 41)) (am_lf 41 (a_iast tT 42)))) (am_nd 43 (am_lf 42 (a_aload 0 43)) (am_nd 46 (am_lf 43 (a_get tT 12 10 46)) (am_lf 46 (a_const (nI 3) 47))))) (am_nd 50 (am_nd 48 (am_lf 47 (a_aload 0 48)) (am_nd 49 (am_lf 48 (a_iload 1 49)) (am_lf 49 (a_const (nI 2) 50)))) (am_nd 53 (am_lf 50 (a_cvI tT mX12_own 12 2 53)) (am_nd 54 (am_lf 53 (a_iast tT 54)) (am_lf 54 (a_aload 0 55)))))) (am_nd 65 (am_nd 60 (am_nd 58 (am_lf 55 (a_get tT 12 10 58)) (am_nd 59 (am_lf 58 (a_const (nI 4) 59)) (am_lf 59 (a_iload 2 60)))) (am_nd 61 (am_lf 60 (a_iast tT 61)) (am_nd 62 (am_lf 61 (a_aload 0 62)) (am_lf 62 (a_get tT 12 10 65))))) (am_nd 68 (am_nd 66 (am_lf 65 (a_const (nI 5) 66)) (am_nd 67 (am_lf 66 (a_const (nI 0) 67)) (am_lf 67 (a_iast tT 68)))) (am_nd 69 (am_lf 68 (a_const (nI 0) 69)) (am_nd 71 (am_lf 69 (a_istore 5 71)) (am_lf 71 (a_iload 5 73))))))
theorem gX12_mayLeave_1 : am_Good tT mX12_mayLeave tX12_mayLeave_1 := am_nd_ok (am_nd_ok (am_nd_ok (am_nd_ok (am_lf_ok (fun _ => ok_iadd dX12_mayLeave_39 rfl)) (am_nd_ok (am_lf_ok (fun _ => ok_iald dX12_mayLeave_40 rfl)) (am_lf_ok (fun _ => ok_iast dX12_mayLeave_41 rfl)))) (am_nd_ok (am_lf_ok (fun _ => ok_aload_n dX12_mayLeave_42 rfl rfl)) (am_nd_ok (am_lf_ok (fun _ => ok_get (C := RX12) (TT := TX12) (N := 31) rfl inw_X12 (Nat.le_of_ble_eq_true rfl) wd_550 dX12_mayLeave_43 rfl)) (am_lf_ok (fun _ => ok_iconst dX12_mayLeave_46 cv_iconst_3 rfl))))) (am_nd_ok (am_nd_ok (am_lf_ok (fun _ => ok_aload_n dX12_mayLeave_47 rfl rfl)) (am_nd_ok (am_lf_ok (fun _ => ok_iload_n dX12_mayLeave_48 rfl rfl)) (am_lf_ok (fun _ => ok_iconst dX12_mayLeave_49 cv_iconst_2 rfl)))) (am_nd_ok (am_lf_ok (fun _ => ok_cvI rfl mw_X12_own (ci := 12) rfl rfl wd_462 wd_463 wd_464 dX12_mayLeave_50 rfl)) (am_nd_ok (am_lf_ok (fun _ => ok_iast dX12_mayLeave_53 rfl)) (am_lf_ok (fun _ => ok_aload_n dX12_mayLeave_54 rfl rfl)))))) (am_nd_ok (am_nd_ok (am_nd_ok (am_lf_ok (fun _ => ok_get (C := RX12) (TT := TX12) (N := 31) rfl inw_X12 (Nat.le_of_ble_eq_true rfl) wd_550 dX12_mayLeave_55 rfl)) (am_nd_ok (am_lf_ok (fun _ => ok_iconst dX12_mayLeave_58 cv_iconst_4 rfl)) (am_lf_ok (fun _ => ok_iload_n dX12_mayLeave_59 rfl rfl)))) (am_nd_ok (am_lf_ok (fun _ => ok_iast dX12_mayLeave_60 rfl)) (am_nd_ok (am_lf_ok (fun _ => ok_aload_n dX12_mayLeave_61 rfl rfl)) (am_lf_ok (fun _ => ok_get (C := RX12) (TT := TX12) (N := 31) rfl inw_X12 (Nat.le_of_ble_eq_true rfl) wd_550 dX12_mayLeave_62 rfl))))) (am_nd_ok (am_nd_ok (am_lf_ok (fun _ => ok_iconst dX12_mayLeave_65 cv_iconst_5 rfl)) (am_nd_ok (am_lf_ok (fun _ => ok_iconst dX12_mayLeave_66 cv_iconst_0 rfl)) (am_lf_ok (fun _ => ok_iast dX12_mayLeave_67 rfl)))) (am_nd_ok (am_lf_ok (fun _ => ok_iconst dX12_mayLeave_68 cv_iconst_0 rfl)) (am_nd_ok (am_lf_ok (fun _ => ok_istore dX12_mayLeave_69 (Nat.le_of_ble_eq_true rfl) rfl)) (am_lf_ok (fun _ => ok_iload dX12_mayLeave_71 rfl))))))
def tX12_mayLeave_2 : Nat → Option am_Act := am_nd 92 (am_nd 83 (am_nd 78 (am_nd 74 (am_lf 73 (a_aload 0 74)) (am_nd 77 (am_lf 74 (a_get tT 12 0 77)) (am_lf 77 (a_const (nI 1) 78)))) (am_nd 79 (am_lf 78 (a_iald tT 79)) (am_nd 82 (am_lf 79 (a_cmp (fun x y => y ≤ x) 119 82)) (am_lf 82 (a_aload 0 83))))) (am_nd 88 (am_nd 86 (am_lf 83 (a_get tT 12 10 86)) (am_nd 87 (am_lf 86 (a_const (nI 5) 87)) (am_lf 87 (a_dup2 88)))) (am_nd 89 (am_lf 88 (a_iald tT 89)) (am_nd 91 (am_lf 89 (a_iload 5 91)) (am_lf 91 (a_iload 1 92)))))) (am_nd 106 (am_nd 98 (am_nd 95 (am_lf 92 (a_cmp (fun x y => x = y) 110 95)) (am_nd 96 (am_lf 95 (a_aload 0 96)) (am_lf 96 (a_iload 5 98)))) (am_nd 100 (am_lf 98 (a_iload 4 100)) (am_nd 103 (am_lf 100 (a_cvI tT mX12_has 12 2 103)) (am_lf 103 (a_if (fun x => x = nI 0) 110 106))))) (am_nd 111 (am_nd 107 (am_lf 106 (a_const (nI 1) 107)) (am_nd 110 (am_lf 107 (a_goto 111)) (am_lf 110 (a_const (nI 0) 111)))) (am_nd 112 (am_lf 111 (a_bin (fun x y => x + y) 112)) (am_nd 113 (am_lf 112 (a_iast tT 113)) (am_lf 113 (a_iinc 5 (nI 1) 116))))))
theorem gX12_mayLeave_2 : am_Good tT mX12_mayLeave tX12_mayLeave_2 := am_nd_ok (am_nd_ok (am_nd_ok (am_nd_ok (am_lf_ok (fun _ => ok_aload_n dX12_mayLeave_73 rfl rfl)) (am_nd_ok (am_lf_ok (fun _ => ok_get (C := RX12) (TT := TX12) (N := 31) rfl inw_X12 (Nat.le_of_ble_eq_true rfl) wd_448 dX12_mayLeave_74 rfl)) (am_lf_ok (fun _ => ok_iconst dX12_mayLeave_77 cv_iconst_1 rfl)))) (am_nd_ok (am_lf_ok (fun _ => ok_iald dX12_mayLeave_78 rfl)) (am_nd_ok (am_lf_ok (fun _ => ok_cmp_ge dX12_mayLeave_79 rfl rfl)) (am_lf_ok (fun _ => ok_aload_n dX12_mayLeave_82 rfl rfl))))) (am_nd_ok (am_nd_ok (am_lf_ok (fun _ => ok_get (C := RX12) (TT := TX12) (N := 31) rfl inw_X12 (Nat.le_of_ble_eq_true rfl) wd_550 dX12_mayLeave_83 rfl)) (am_nd_ok (am_lf_ok (fun _ => ok_iconst dX12_mayLeave_86 cv_iconst_5 rfl)) (am_lf_ok (fun _ => ok_dup2 dX12_mayLeave_87 rfl)))) (am_nd_ok (am_lf_ok (fun _ => ok_iald dX12_mayLeave_88 rfl)) (am_nd_ok (am_lf_ok (fun _ => ok_iload dX12_mayLeave_89 rfl)) (am_lf_ok (fun _ => ok_iload_n dX12_mayLeave_91 rfl rfl)))))) (am_nd_ok (am_nd_ok (am_nd_ok (am_lf_ok (fun _ => ok_cmp_eq dX12_mayLeave_92 rfl rfl)) (am_nd_ok (am_lf_ok (fun _ => ok_aload_n dX12_mayLeave_95 rfl rfl)) (am_lf_ok (fun _ => ok_iload dX12_mayLeave_96 rfl)))) (am_nd_ok (am_lf_ok (fun _ => ok_iload dX12_mayLeave_98 rfl)) (am_nd_ok (am_lf_ok (fun _ => ok_cvI rfl mw_X12_has (ci := 12) rfl rfl wd_465 wd_466 wd_467 dX12_mayLeave_100 rfl)) (am_lf_ok (fun _ => ok_if_eq dX12_mayLeave_103 rfl rfl))))) (am_nd_ok (am_nd_ok (am_lf_ok (fun _ => ok_iconst dX12_mayLeave_106 cv_iconst_1 rfl)) (am_nd_ok (am_lf_ok (fun _ => ok_goto dX12_mayLeave_107 rfl)) (am_lf_ok (fun _ => ok_iconst dX12_mayLeave_110 cv_iconst_0 rfl)))) (am_nd_ok (am_lf_ok (fun _ => ok_iadd dX12_mayLeave_111 rfl)) (am_nd_ok (am_lf_ok (fun _ => ok_iast dX12_mayLeave_112 rfl)) (am_lf_ok (fun _ => ok_iinc dX12_mayLeave_113 cv_iconst_1 (Nat.le_of_ble_eq_true rfl) rfl))))))
def tX12_mayLeave_3 : Nat → Option am_Act := am_nd 138 (am_nd 127 (am_nd 123 (am_nd 119 (am_lf 116 (a_goto 71)) (am_nd 120 (am_lf 119 (a_aload 0 120)) (am_lf 120 (a_get tT 12 10 123)))) (am_nd 125 (am_lf 123 (a_const (nI 6) 125)) (am_nd 126 (am_lf 125 (a_iload 3 126)) (am_lf 126 (a_iast tT 127))))) (am_nd 133 (am_nd 128 (am_lf 127 (a_aload 0 128)) (am_nd 131 (am_lf 128 (a_get tT 12 10 131)) (am_lf 131 (a_const (nI 7) 133)))) (am_nd 134 (am_lf 133 (a_aload 0 134)) (am_nd 137 (am_lf 134 (a_get tT 12 0 137)) (am_lf 137 (a_const (nI 3) 138)))))) (am_nd 147 (am_nd 141 (am_nd 139 (am_lf 138 (a_iald tT 139)) (am_nd 140 (am_lf 139 (a_iast tT 140)) (am_lf 140 (a_aload 0 141)))) (am_nd 144 (am_lf 141 (a_get tT 12 10 144)) (am_nd 146 (am_lf 144 (a_const (nI 8) 146)) (am_lf 146 (a_aload 0 147))))) (am_nd 155 (am_nd 150 (am_lf 147 (a_get tT 12 0 150)) (am_nd 153 (am_lf 150 (a_const (nI 220) 153)) (am_lf 153 (a_const (nI 20) 155)))) (am_nd 156 (am_lf 155 (a_iload 3 156)) (am_nd 157 (am_lf 156 (a_bin (fun x y => x * y) 157)) (am_lf 157 (a_bin (fun x y => x + y) 158))))))
theorem gX12_mayLeave_3 : am_Good tT mX12_mayLeave tX12_mayLeave_3 := am_nd_ok (am_nd_ok (am_nd_ok (am_nd_ok (am_lf_ok (fun _ => ok_goto dX12_mayLeave_116 rfl)) (am_nd_ok (am_lf_ok (fun _ => ok_aload_n dX12_mayLeave_119 rfl rfl)) (am_lf_ok (fun _ => ok_get (C := RX12) (TT := TX12) (N := 31) rfl inw_X12 (Nat.le_of_ble_eq_true rfl) wd_550 dX12_mayLeave_120 rfl)))) (am_nd_ok (am_lf_ok (fun _ => ok_bipush dX12_mayLeave_123 cv_bipush_6 rfl)) (am_nd_ok (am_lf_ok (fun _ => ok_iload_n dX12_mayLeave_125 rfl rfl)) (am_lf_ok (fun _ => ok_iast dX12_mayLeave_126 rfl))))) (am_nd_ok (am_nd_ok (am_lf_ok (fun _ => ok_aload_n dX12_mayLeave_127 rfl rfl)) (am_nd_ok (am_lf_ok (fun _ => ok_get (C := RX12) (TT := TX12) (N := 31) rfl inw_X12 (Nat.le_of_ble_eq_true rfl) wd_550 dX12_mayLeave_128 rfl)) (am_lf_ok (fun _ => ok_bipush dX12_mayLeave_131 cv_bipush_7 rfl)))) (am_nd_ok (am_lf_ok (fun _ => ok_aload_n dX12_mayLeave_133 rfl rfl)) (am_nd_ok (am_lf_ok (fun _ => ok_get (C := RX12) (TT := TX12) (N := 31) rfl inw_X12 (Nat.le_of_ble_eq_true rfl) wd_448 dX12_mayLeave_134 rfl)) (am_lf_ok (fun _ => ok_iconst dX12_mayLeave_137 cv_iconst_3 rfl)))))) (am_nd_ok (am_nd_ok (am_nd_ok (am_lf_ok (fun _ => ok_iald dX12_mayLeave_138 rfl)) (am_nd_ok (am_lf_ok (fun _ => ok_iast dX12_mayLeave_139 rfl)) (am_lf_ok (fun _ => ok_aload_n dX12_mayLeave_140 rfl rfl)))) (am_nd_ok (am_lf_ok (fun _ => ok_get (C := RX12) (TT := TX12) (N := 31) rfl inw_X12 (Nat.le_of_ble_eq_true rfl) wd_550 dX12_mayLeave_141 rfl)) (am_nd_ok (am_lf_ok (fun _ => ok_bipush dX12_mayLeave_144 cv_bipush_8 rfl)) (am_lf_ok (fun _ => ok_aload_n dX12_mayLeave_146 rfl rfl))))) (am_nd_ok (am_nd_ok (am_lf_ok (fun _ => ok_get (C := RX12) (TT := TX12) (N := 31) rfl inw_X12 (Nat.le_of_ble_eq_true rfl) wd_448 dX12_mayLeave_147 rfl)) (am_nd_ok (am_lf_ok (fun _ => ok_sipush dX12_mayLeave_150 cv_sipush_220 rfl)) (am_lf_ok (fun _ => ok_bipush dX12_mayLeave_153 cv_bipush_20 rfl)))) (am_nd_ok (am_lf_ok (fun _ => ok_iload_n dX12_mayLeave_155 rfl rfl)) (am_nd_ok (am_lf_ok (fun _ => ok_imul dX12_mayLeave_156 rfl)) (am_lf_ok (fun _ => ok_iadd dX12_mayLeave_157 rfl))))))
def tX12_mayLeave_4 : Nat → Option am_Act := am_nd 179 (am_nd 166 (am_nd 162 (am_nd 160 (am_lf 158 (a_iload 4 160)) (am_nd 161 (am_lf 160 (a_bin (fun x y => x + y) 161)) (am_lf 161 (a_iald tT 162)))) (am_nd 163 (am_lf 162 (a_iast tT 163)) (am_nd 164 (am_lf 163 (a_const (nI 0) 164)) (am_lf 164 (a_istore 5 166))))) (am_nd 172 (am_nd 168 (am_lf 166 (a_iload 5 168)) (am_nd 169 (am_lf 168 (a_aload 0 169)) (am_lf 169 (a_get tT 12 0 172)))) (am_nd 175 (am_lf 172 (a_const (nI 865) 175)) (am_nd 176 (am_lf 175 (a_iald tT 176)) (am_lf 176 (a_cmp (fun x y => y ≤ x) 260 179)))))) (am_nd 190 (am_nd 186 (am_nd 180 (am_lf 179 (a_aload 0 180)) (am_nd 183 (am_lf 180 (a_get tT 12 0 183)) (am_lf 183 (a_const (nI 910) 186)))) (am_nd 188 (am_lf 186 (a_iload 5 188)) (am_nd 189 (am_lf 188 (a_bin (fun x y => x + y) 189)) (am_lf 189 (a_iald tT 190))))) (am_nd 197 (am_nd 191 (am_lf 190 (a_aload 0 191)) (am_nd 194 (am_lf 191 (a_get tT 12 0 194)) (am_lf 194 (a_const (nI 890) 197)))) (am_nd 199 (am_lf 197 (a_iload 5 199)) (am_nd 200 (am_lf 199 (a_bin (fun x y => x + y) 200)) (am_lf 200 (a_iald tT 201))))))
theorem gX12_mayLeave_4 : am_Good tT mX12_mayLeave tX12_mayLeave_4 := am_nd_ok (am_nd_ok (am_nd_ok (am_nd_ok (am_lf_ok (fun _ => ok_iload dX12_mayLeave_158 rfl)) (am_nd_ok (am_lf_ok (fun _ => ok_iadd dX12_mayLeave_160 rfl)) (am_lf_ok (fun _ => ok_iald dX12_mayLeave_161 rfl)))) (am_nd_ok (am_lf_ok (fun _ => ok_iast dX12_mayLeave_162 rfl)) (am_nd_ok (am_lf_ok (fun _ => ok_iconst dX12_mayLeave_163 cv_iconst_0 rfl)) (am_lf_ok (fun _ => ok_istore dX12_mayLeave_164 (Nat.le_of_ble_eq_true rfl) rfl))))) (am_nd_ok (am_nd_ok (am_lf_ok (fun _ => ok_iload dX12_mayLeave_166 rfl)) (am_nd_ok (am_lf_ok (fun _ => ok_aload_n dX12_mayLeave_168 rfl rfl)) (am_lf_ok (fun _ => ok_get (C := RX12) (TT := TX12) (N := 31) rfl inw_X12 (Nat.le_of_ble_eq_true rfl) wd_448 dX12_mayLeave_169 rfl)))) (am_nd_ok (am_lf_ok (fun _ => ok_sipush dX12_mayLeave_172 cv_sipush_865 rfl)) (am_nd_ok (am_lf_ok (fun _ => ok_iald dX12_mayLeave_175 rfl)) (am_lf_ok (fun _ => ok_cmp_ge dX12_mayLeave_176 rfl rfl)))))) (am_nd_ok (am_nd_ok (am_nd_ok (am_lf_ok (fun _ => ok_aload_n dX12_mayLeave_179 rfl rfl)) (am_nd_ok (am_lf_ok (fun _ => ok_get (C := RX12) (TT := TX12) (N := 31) rfl inw_X12 (Nat.le_of_ble_eq_true rfl) wd_448 dX12_mayLeave_180 rfl)) (am_lf_ok (fun _ => ok_sipush dX12_mayLeave_183 cv_sipush_910 rfl)))) (am_nd_ok (am_lf_ok (fun _ => ok_iload dX12_mayLeave_186 rfl)) (am_nd_ok (am_lf_ok (fun _ => ok_iadd dX12_mayLeave_188 rfl)) (am_lf_ok (fun _ => ok_iald dX12_mayLeave_189 rfl))))) (am_nd_ok (am_nd_ok (am_lf_ok (fun _ => ok_aload_n dX12_mayLeave_190 rfl rfl)) (am_nd_ok (am_lf_ok (fun _ => ok_get (C := RX12) (TT := TX12) (N := 31) rfl inw_X12 (Nat.le_of_ble_eq_true rfl) wd_448 dX12_mayLeave_191 rfl)) (am_lf_ok (fun _ => ok_sipush dX12_mayLeave_194 cv_sipush_890 rfl)))) (am_nd_ok (am_lf_ok (fun _ => ok_iload dX12_mayLeave_197 rfl)) (am_nd_ok (am_lf_ok (fun _ => ok_iadd dX12_mayLeave_199 rfl)) (am_lf_ok (fun _ => ok_iald dX12_mayLeave_200 rfl))))))
def tX12_mayLeave_5 : Nat → Option am_Act := am_nd 225 (am_nd 214 (am_nd 206 (am_nd 204 (am_lf 201 (a_cmp (fun x y => x = y) 234 204)) (am_nd 205 (am_lf 204 (a_aload 0 205)) (am_lf 205 (a_aload 0 206)))) (am_nd 209 (am_lf 206 (a_get tT 12 0 209)) (am_nd 212 (am_lf 209 (a_const (nI 890) 212)) (am_lf 212 (a_iload 5 214))))) (am_nd 217 (am_nd 215 (am_lf 214 (a_bin (fun x y => x + y) 215)) (am_nd 216 (am_lf 215 (a_iald tT 216)) (am_lf 216 (a_aload 0 217)))) (am_nd 220 (am_lf 217 (a_get tT 12 0 220)) (am_nd 223 (am_lf 220 (a_const (nI 910) 223)) (am_lf 223 (a_iload 5 225)))))) (am_nd 235 (am_nd 230 (am_nd 226 (am_lf 225 (a_bin (fun x y => x + y) 226)) (am_nd 227 (am_lf 226 (a_iald tT 227)) (am_lf 227 (a_cvI tT mX12_comesTo 12 2 230)))) (am_nd 231 (am_lf 230 (a_const (nI 1) 231)) (am_nd 234 (am_lf 231 (a_cmp (fun x y => x = y) 234 254)) (am_lf 234 (a_aload 0 235))))) (am_nd 243 (am_nd 238 (am_lf 235 (a_get tT 12 0 238)) (am_nd 241 (am_lf 238 (a_const (nI 870) 241)) (am_lf 241 (a_iload 5 243)))) (am_nd 244 (am_lf 243 (a_bin (fun x y => x + y) 244)) (am_nd 245 (am_lf 244 (a_iald tT 245)) (am_lf 245 (a_if (fun x => x = nI 0) 248 252))))))
theorem gX12_mayLeave_5 : am_Good tT mX12_mayLeave tX12_mayLeave_5 := am_nd_ok (am_nd_ok (am_nd_ok (am_nd_ok (am_lf_ok (fun _ => ok_cmp_eq dX12_mayLeave_201 rfl rfl)) (am_nd_ok (am_lf_ok (fun _ => ok_aload_n dX12_mayLeave_204 rfl rfl)) (am_lf_ok (fun _ => ok_aload_n dX12_mayLeave_205 rfl rfl)))) (am_nd_ok (am_lf_ok (fun _ => ok_get (C := RX12) (TT := TX12) (N := 31) rfl inw_X12 (Nat.le_of_ble_eq_true rfl) wd_448 dX12_mayLeave_206 rfl)) (am_nd_ok (am_lf_ok (fun _ => ok_sipush dX12_mayLeave_209 cv_sipush_890 rfl)) (am_lf_ok (fun _ => ok_iload dX12_mayLeave_212 rfl))))) (am_nd_ok (am_nd_ok (am_lf_ok (fun _ => ok_iadd dX12_mayLeave_214 rfl)) (am_nd_ok (am_lf_ok (fun _ => ok_iald dX12_mayLeave_215 rfl)) (am_lf_ok (fun _ => ok_aload_n dX12_mayLeave_216 rfl rfl)))) (am_nd_ok (am_lf_ok (fun _ => ok_get (C := RX12) (TT := TX12) (N := 31) rfl inw_X12 (Nat.le_of_ble_eq_true rfl) wd_448 dX12_mayLeave_217 rfl)) (am_nd_ok (am_lf_ok (fun _ => ok_sipush dX12_mayLeave_220 cv_sipush_910 rfl)) (am_lf_ok (fun _ => ok_iload dX12_mayLeave_223 rfl)))))) (am_nd_ok (am_nd_ok (am_nd_ok (am_lf_ok (fun _ => ok_iadd dX12_mayLeave_225 rfl)) (am_nd_ok (am_lf_ok (fun _ => ok_iald dX12_mayLeave_226 rfl)) (am_lf_ok (fun _ => ok_cvI rfl mw_X12_comesTo (ci := 12) rfl rfl wd_553 wd_554 wd_555 dX12_mayLeave_227 rfl)))) (am_nd_ok (am_lf_ok (fun _ => ok_iconst dX12_mayLeave_230 cv_iconst_1 rfl)) (am_nd_ok (am_lf_ok (fun _ => ok_cmp_ne dX12_mayLeave_231 rfl rfl)) (am_lf_ok (fun _ => ok_aload_n dX12_mayLeave_234 rfl rfl))))) (am_nd_ok (am_nd_ok (am_lf_ok (fun _ => ok_get (C := RX12) (TT := TX12) (N := 31) rfl inw_X12 (Nat.le_of_ble_eq_true rfl) wd_448 dX12_mayLeave_235 rfl)) (am_nd_ok (am_lf_ok (fun _ => ok_sipush dX12_mayLeave_238 cv_sipush_870 rfl)) (am_lf_ok (fun _ => ok_iload dX12_mayLeave_241 rfl)))) (am_nd_ok (am_lf_ok (fun _ => ok_iadd dX12_mayLeave_243 rfl)) (am_nd_ok (am_lf_ok (fun _ => ok_iald dX12_mayLeave_244 rfl)) (am_lf_ok (fun _ => ok_if_ne dX12_mayLeave_245 rfl rfl))))))
def tX12_mayLeave_6 : Nat → Option am_Act := am_nd 254 (am_nd 252 (am_nd 249 (am_lf 248 (a_const (nI 1) 249)) (am_lf 249 (a_goto 253))) (am_nd 253 (am_lf 252 (a_const (nI 0) 253)) (am_lf 253 (a_zret)))) (am_nd 260 (am_nd 257 (am_lf 254 (a_iinc 5 (nI 1) 257)) (am_lf 257 (a_goto 166))) (am_nd 261 (am_lf 260 (a_const (nI 1) 261)) (am_lf 261 (a_zret))))
theorem gX12_mayLeave_6 : am_Good tT mX12_mayLeave tX12_mayLeave_6 := am_nd_ok (am_nd_ok (am_nd_ok (am_lf_ok (fun _ => ok_iconst dX12_mayLeave_248 cv_iconst_1 rfl)) (am_lf_ok (fun _ => ok_goto dX12_mayLeave_249 rfl))) (am_nd_ok (am_lf_ok (fun _ => ok_iconst dX12_mayLeave_252 cv_iconst_0 rfl)) (am_lf_ok (fun _ => ok_zret rfl dX12_mayLeave_253)))) (am_nd_ok (am_nd_ok (am_lf_ok (fun _ => ok_iinc dX12_mayLeave_254 cv_iconst_1 (Nat.le_of_ble_eq_true rfl) rfl)) (am_lf_ok (fun _ => ok_goto dX12_mayLeave_257 rfl))) (am_nd_ok (am_lf_ok (fun _ => ok_iconst dX12_mayLeave_260 cv_iconst_1 rfl)) (am_lf_ok (fun _ => ok_zret rfl dX12_mayLeave_261))))
def tX12_mayLeave : Nat → Option am_Act := am_nd 116 (am_nd 39 (tX12_mayLeave_0) (am_nd 73 (tX12_mayLeave_1) (tX12_mayLeave_2))) (am_nd 201 (am_nd 158 (tX12_mayLeave_3) (tX12_mayLeave_4)) (am_nd 248 (tX12_mayLeave_5) (tX12_mayLeave_6)))
theorem gX12_mayLeave : am_Good tT mX12_mayLeave tX12_mayLeave := am_nd_ok (am_nd_ok (gX12_mayLeave_0) (am_nd_ok (gX12_mayLeave_1) (gX12_mayLeave_2))) (am_nd_ok (am_nd_ok (gX12_mayLeave_3) (gX12_mayLeave_4)) (am_nd_ok (gX12_mayLeave_5) (gX12_mayLeave_6)))
theorem dX12_lettersOf_0 : decode cX12_lettersOf 0 = .ok (.iconst 0, 1) := by decide +kernel
theorem dX12_lettersOf_1 : decode cX12_lettersOf 1 = .ok (.istore_n 2, 1) := by decide +kernel
theorem dX12_lettersOf_2 : decode cX12_lettersOf 2 = .ok (.iconst 0, 1) := by decide +kernel
theorem dX12_lettersOf_3 : decode cX12_lettersOf 3 = .ok (.istore_n 3, 1) := by decide +kernel
theorem dX12_lettersOf_4 : decode cX12_lettersOf 4 = .ok (.iload_n 3, 1) := by decide +kernel
theorem dX12_lettersOf_5 : decode cX12_lettersOf 5 = .ok (.aload_n 0, 1) := by decide +kernel
theorem dX12_lettersOf_6 : decode cX12_lettersOf 6 = .ok (.iload_n 1, 1) := by decide +kernel
theorem dX12_lettersOf_7 : decode cX12_lettersOf 7 = .ok (.iconst 2, 1) := by decide +kernel
theorem dX12_lettersOf_8 : decode cX12_lettersOf 8 = .ok (.invokevirtual 76, 3) := by decide +kernel
theorem dX12_lettersOf_11 : decode cX12_lettersOf 11 = .ok (.if_icmp .ge 28, 3) := by decide +kernel
theorem dX12_lettersOf_14 : decode cX12_lettersOf 14 = .ok (.iload_n 2, 1) := by decide +kernel
theorem dX12_lettersOf_15 : decode cX12_lettersOf 15 = .ok (.aload_n 0, 1) := by decide +kernel
theorem dX12_lettersOf_16 : decode cX12_lettersOf 16 = .ok (.getfield 7, 3) := by decide +kernel
theorem dX12_lettersOf_19 : decode cX12_lettersOf 19 = .ok (.bipush 30, 2) := by decide +kernel
theorem dX12_lettersOf_21 : decode cX12_lettersOf 21 = .ok (.aload_n 0, 1) := by decide +kernel
theorem dX12_lettersOf_22 : decode cX12_lettersOf 22 = .ok (.iload_n 1, 1) := by decide +kernel
theorem dX12_lettersOf_23 : decode cX12_lettersOf 23 = .ok (.iconst 5, 1) := by decide +kernel
theorem dX12_lettersOf_24 : decode cX12_lettersOf 24 = .ok (.iload_n 3, 1) := by decide +kernel
theorem dX12_lettersOf_25 : decode cX12_lettersOf 25 = .ok (.iadd, 1) := by decide +kernel
theorem dX12_lettersOf_26 : decode cX12_lettersOf 26 = .ok (.invokevirtual 76, 3) := by decide +kernel
theorem dX12_lettersOf_29 : decode cX12_lettersOf 29 = .ok (.iadd, 1) := by decide +kernel
theorem dX12_lettersOf_30 : decode cX12_lettersOf 30 = .ok (.iaload, 1) := by decide +kernel
theorem dX12_lettersOf_31 : decode cX12_lettersOf 31 = .ok (.iadd, 1) := by decide +kernel
theorem dX12_lettersOf_32 : decode cX12_lettersOf 32 = .ok (.istore_n 2, 1) := by decide +kernel
theorem dX12_lettersOf_33 : decode cX12_lettersOf 33 = .ok (.iinc 3 1, 3) := by decide +kernel
theorem dX12_lettersOf_36 : decode cX12_lettersOf 36 = .ok (.goto (-32), 3) := by decide +kernel
theorem dX12_lettersOf_39 : decode cX12_lettersOf 39 = .ok (.iload_n 2, 1) := by decide +kernel
theorem dX12_lettersOf_40 : decode cX12_lettersOf 40 = .ok (.ireturn, 1) := by decide +kernel
def tX12_lettersOf_0 : Nat → Option am_Act := am_nd 16 (am_nd 6 (am_nd 3 (am_nd 1 (am_lf 0 (a_const (nI 0) 1)) (am_nd 2 (am_lf 1 (a_istore 2 2)) (am_lf 2 (a_const (nI 0) 3)))) (am_nd 4 (am_lf 3 (a_istore 3 4)) (am_nd 5 (am_lf 4 (a_iload 3 5)) (am_lf 5 (a_aload 0 6))))) (am_nd 11 (am_nd 7 (am_lf 6 (a_iload 1 7)) (am_nd 8 (am_lf 7 (a_const (nI 2) 8)) (am_lf 8 (a_cvI tT mX12_own 12 2 11)))) (am_nd 14 (am_lf 11 (a_cmp (fun x y => y ≤ x) 39 14)) (am_nd 15 (am_lf 14 (a_iload 2 15)) (am_lf 15 (a_aload 0 16)))))) (am_nd 25 (am_nd 22 (am_nd 19 (am_lf 16 (a_get tT 12 0 19)) (am_nd 21 (am_lf 19 (a_const (nI 30) 21)) (am_lf 21 (a_aload 0 22)))) (am_nd 23 (am_lf 22 (a_iload 1 23)) (am_nd 24 (am_lf 23 (a_const (nI 5) 24)) (am_lf 24 (a_iload 3 25))))) (am_nd 30 (am_nd 26 (am_lf 25 (a_bin (fun x y => x + y) 26)) (am_nd 29 (am_lf 26 (a_cvI tT mX12_own 12 2 29)) (am_lf 29 (a_bin (fun x y => x + y) 30)))) (am_nd 31 (am_lf 30 (a_iald tT 31)) (am_nd 32 (am_lf 31 (a_bin (fun x y => x + y) 32)) (am_lf 32 (a_istore 2 33))))))
theorem gX12_lettersOf_0 : am_Good tT mX12_lettersOf tX12_lettersOf_0 := am_nd_ok (am_nd_ok (am_nd_ok (am_nd_ok (am_lf_ok (fun _ => ok_iconst dX12_lettersOf_0 cv_iconst_0 rfl)) (am_nd_ok (am_lf_ok (fun _ => ok_istore_n dX12_lettersOf_1 rfl (Nat.le_of_ble_eq_true rfl) rfl)) (am_lf_ok (fun _ => ok_iconst dX12_lettersOf_2 cv_iconst_0 rfl)))) (am_nd_ok (am_lf_ok (fun _ => ok_istore_n dX12_lettersOf_3 rfl (Nat.le_of_ble_eq_true rfl) rfl)) (am_nd_ok (am_lf_ok (fun _ => ok_iload_n dX12_lettersOf_4 rfl rfl)) (am_lf_ok (fun _ => ok_aload_n dX12_lettersOf_5 rfl rfl))))) (am_nd_ok (am_nd_ok (am_lf_ok (fun _ => ok_iload_n dX12_lettersOf_6 rfl rfl)) (am_nd_ok (am_lf_ok (fun _ => ok_iconst dX12_lettersOf_7 cv_iconst_2 rfl)) (am_lf_ok (fun _ => ok_cvI rfl mw_X12_own (ci := 12) rfl rfl wd_462 wd_463 wd_464 dX12_lettersOf_8 rfl)))) (am_nd_ok (am_lf_ok (fun _ => ok_cmp_ge dX12_lettersOf_11 rfl rfl)) (am_nd_ok (am_lf_ok (fun _ => ok_iload_n dX12_lettersOf_14 rfl rfl)) (am_lf_ok (fun _ => ok_aload_n dX12_lettersOf_15 rfl rfl)))))) (am_nd_ok (am_nd_ok (am_nd_ok (am_lf_ok (fun _ => ok_get (C := RX12) (TT := TX12) (N := 31) rfl inw_X12 (Nat.le_of_ble_eq_true rfl) wd_448 dX12_lettersOf_16 rfl)) (am_nd_ok (am_lf_ok (fun _ => ok_bipush dX12_lettersOf_19 cv_bipush_30 rfl)) (am_lf_ok (fun _ => ok_aload_n dX12_lettersOf_21 rfl rfl)))) (am_nd_ok (am_lf_ok (fun _ => ok_iload_n dX12_lettersOf_22 rfl rfl)) (am_nd_ok (am_lf_ok (fun _ => ok_iconst dX12_lettersOf_23 cv_iconst_5 rfl)) (am_lf_ok (fun _ => ok_iload_n dX12_lettersOf_24 rfl rfl))))) (am_nd_ok (am_nd_ok (am_lf_ok (fun _ => ok_iadd dX12_lettersOf_25 rfl)) (am_nd_ok (am_lf_ok (fun _ => ok_cvI rfl mw_X12_own (ci := 12) rfl rfl wd_462 wd_463 wd_464 dX12_lettersOf_26 rfl)) (am_lf_ok (fun _ => ok_iadd dX12_lettersOf_29 rfl)))) (am_nd_ok (am_lf_ok (fun _ => ok_iald dX12_lettersOf_30 rfl)) (am_nd_ok (am_lf_ok (fun _ => ok_iadd dX12_lettersOf_31 rfl)) (am_lf_ok (fun _ => ok_istore_n dX12_lettersOf_32 rfl (Nat.le_of_ble_eq_true rfl) rfl))))))
def tX12_lettersOf_1 : Nat → Option am_Act := am_nd 39 (am_nd 36 (am_lf 33 (a_iinc 3 (nI 1) 36)) (am_lf 36 (a_goto 4))) (am_nd 40 (am_lf 39 (a_iload 2 40)) (am_lf 40 (a_iret)))
theorem gX12_lettersOf_1 : am_Good tT mX12_lettersOf tX12_lettersOf_1 := am_nd_ok (am_nd_ok (am_lf_ok (fun _ => ok_iinc dX12_lettersOf_33 cv_iconst_1 (Nat.le_of_ble_eq_true rfl) rfl)) (am_lf_ok (fun _ => ok_goto dX12_lettersOf_36 rfl))) (am_nd_ok (am_lf_ok (fun _ => ok_iload_n dX12_lettersOf_39 rfl rfl)) (am_lf_ok (fun _ => ok_iret rfl dX12_lettersOf_40)))
def tX12_lettersOf : Nat → Option am_Act := am_nd 33 (tX12_lettersOf_0) (tX12_lettersOf_1)
theorem gX12_lettersOf : am_Good tT mX12_lettersOf tX12_lettersOf := am_nd_ok (gX12_lettersOf_0) (gX12_lettersOf_1)
theorem dX12_otherEnd_0 : decode cX12_otherEnd 0 = .ok (.aload_n 0, 1) := by decide +kernel
theorem dX12_otherEnd_1 : decode cX12_otherEnd 1 = .ok (.getfield 7, 3) := by decide +kernel
theorem dX12_otherEnd_4 : decode cX12_otherEnd 4 = .ok (.bipush 50, 2) := by decide +kernel
theorem dX12_otherEnd_6 : decode cX12_otherEnd 6 = .ok (.iconst 2, 1) := by decide +kernel
theorem dX12_otherEnd_7 : decode cX12_otherEnd 7 = .ok (.iload_n 1, 1) := by decide +kernel
theorem dX12_otherEnd_8 : decode cX12_otherEnd 8 = .ok (.imul, 1) := by decide +kernel
theorem dX12_otherEnd_9 : decode cX12_otherEnd 9 = .ok (.iadd, 1) := by decide +kernel
theorem dX12_otherEnd_10 : decode cX12_otherEnd 10 = .ok (.iaload, 1) := by decide +kernel
theorem dX12_otherEnd_11 : decode cX12_otherEnd 11 = .ok (.istore_n 3, 1) := by decide +kernel
theorem dX12_otherEnd_12 : decode cX12_otherEnd 12 = .ok (.aload_n 0, 1) := by decide +kernel
theorem dX12_otherEnd_13 : decode cX12_otherEnd 13 = .ok (.getfield 7, 3) := by decide +kernel
theorem dX12_otherEnd_16 : decode cX12_otherEnd 16 = .ok (.bipush 50, 2) := by decide +kernel
theorem dX12_otherEnd_18 : decode cX12_otherEnd 18 = .ok (.iconst 2, 1) := by decide +kernel
theorem dX12_otherEnd_19 : decode cX12_otherEnd 19 = .ok (.iload_n 1, 1) := by decide +kernel
theorem dX12_otherEnd_20 : decode cX12_otherEnd 20 = .ok (.imul, 1) := by decide +kernel
theorem dX12_otherEnd_21 : decode cX12_otherEnd 21 = .ok (.iadd, 1) := by decide +kernel
theorem dX12_otherEnd_22 : decode cX12_otherEnd 22 = .ok (.iconst 1, 1) := by decide +kernel
theorem dX12_otherEnd_23 : decode cX12_otherEnd 23 = .ok (.iadd, 1) := by decide +kernel
theorem dX12_otherEnd_24 : decode cX12_otherEnd 24 = .ok (.iaload, 1) := by decide +kernel
theorem dX12_otherEnd_25 : decode cX12_otherEnd 25 = .ok (.istore 4, 2) := by decide +kernel
theorem dX12_otherEnd_27 : decode cX12_otherEnd 27 = .ok (.iload_n 3, 1) := by decide +kernel
theorem dX12_otherEnd_28 : decode cX12_otherEnd 28 = .ok (.iload_n 2, 1) := by decide +kernel
theorem dX12_otherEnd_29 : decode cX12_otherEnd 29 = .ok (.if_icmp .ne 8, 3) := by decide +kernel
theorem dX12_otherEnd_32 : decode cX12_otherEnd 32 = .ok (.iload 4, 2) := by decide +kernel
theorem dX12_otherEnd_34 : decode cX12_otherEnd 34 = .ok (.goto 14, 3) := by decide +kernel
theorem dX12_otherEnd_37 : decode cX12_otherEnd 37 = .ok (.iload 4, 2) := by decide +kernel
theorem dX12_otherEnd_39 : decode cX12_otherEnd 39 = .ok (.iload_n 2, 1) := by decide +kernel
theorem dX12_otherEnd_40 : decode cX12_otherEnd 40 = .ok (.if_icmp .ne 7, 3) := by decide +kernel
theorem dX12_otherEnd_43 : decode cX12_otherEnd 43 = .ok (.iload_n 3, 1) := by decide +kernel
theorem dX12_otherEnd_44 : decode cX12_otherEnd 44 = .ok (.goto 4, 3) := by decide +kernel
theorem dX12_otherEnd_47 : decode cX12_otherEnd 47 = .ok (.iconst (-1), 1) := by decide +kernel
theorem dX12_otherEnd_48 : decode cX12_otherEnd 48 = .ok (.ireturn, 1) := by decide +kernel
def tX12_otherEnd_0 : Nat → Option am_Act := am_nd 18 (am_nd 9 (am_nd 6 (am_nd 1 (am_lf 0 (a_aload 0 1)) (am_nd 4 (am_lf 1 (a_get tT 12 0 4)) (am_lf 4 (a_const (nI 50) 6)))) (am_nd 7 (am_lf 6 (a_const (nI 2) 7)) (am_nd 8 (am_lf 7 (a_iload 1 8)) (am_lf 8 (a_bin (fun x y => x * y) 9))))) (am_nd 12 (am_nd 10 (am_lf 9 (a_bin (fun x y => x + y) 10)) (am_nd 11 (am_lf 10 (a_iald tT 11)) (am_lf 11 (a_istore 3 12)))) (am_nd 13 (am_lf 12 (a_aload 0 13)) (am_nd 16 (am_lf 13 (a_get tT 12 0 16)) (am_lf 16 (a_const (nI 50) 18)))))) (am_nd 24 (am_nd 21 (am_nd 19 (am_lf 18 (a_const (nI 2) 19)) (am_nd 20 (am_lf 19 (a_iload 1 20)) (am_lf 20 (a_bin (fun x y => x * y) 21)))) (am_nd 22 (am_lf 21 (a_bin (fun x y => x + y) 22)) (am_nd 23 (am_lf 22 (a_const (nI 1) 23)) (am_lf 23 (a_bin (fun x y => x + y) 24))))) (am_nd 28 (am_nd 25 (am_lf 24 (a_iald tT 25)) (am_nd 27 (am_lf 25 (a_istore 4 27)) (am_lf 27 (a_iload 3 28)))) (am_nd 29 (am_lf 28 (a_iload 2 29)) (am_nd 32 (am_lf 29 (a_cmp (fun x y => x = y) 32 37)) (am_lf 32 (a_iload 4 34))))))
theorem gX12_otherEnd_0 : am_Good tT mX12_otherEnd tX12_otherEnd_0 := am_nd_ok (am_nd_ok (am_nd_ok (am_nd_ok (am_lf_ok (fun _ => ok_aload_n dX12_otherEnd_0 rfl rfl)) (am_nd_ok (am_lf_ok (fun _ => ok_get (C := RX12) (TT := TX12) (N := 31) rfl inw_X12 (Nat.le_of_ble_eq_true rfl) wd_448 dX12_otherEnd_1 rfl)) (am_lf_ok (fun _ => ok_bipush dX12_otherEnd_4 cv_bipush_50 rfl)))) (am_nd_ok (am_lf_ok (fun _ => ok_iconst dX12_otherEnd_6 cv_iconst_2 rfl)) (am_nd_ok (am_lf_ok (fun _ => ok_iload_n dX12_otherEnd_7 rfl rfl)) (am_lf_ok (fun _ => ok_imul dX12_otherEnd_8 rfl))))) (am_nd_ok (am_nd_ok (am_lf_ok (fun _ => ok_iadd dX12_otherEnd_9 rfl)) (am_nd_ok (am_lf_ok (fun _ => ok_iald dX12_otherEnd_10 rfl)) (am_lf_ok (fun _ => ok_istore_n dX12_otherEnd_11 rfl (Nat.le_of_ble_eq_true rfl) rfl)))) (am_nd_ok (am_lf_ok (fun _ => ok_aload_n dX12_otherEnd_12 rfl rfl)) (am_nd_ok (am_lf_ok (fun _ => ok_get (C := RX12) (TT := TX12) (N := 31) rfl inw_X12 (Nat.le_of_ble_eq_true rfl) wd_448 dX12_otherEnd_13 rfl)) (am_lf_ok (fun _ => ok_bipush dX12_otherEnd_16 cv_bipush_50 rfl)))))) (am_nd_ok (am_nd_ok (am_nd_ok (am_lf_ok (fun _ => ok_iconst dX12_otherEnd_18 cv_iconst_2 rfl)) (am_nd_ok (am_lf_ok (fun _ => ok_iload_n dX12_otherEnd_19 rfl rfl)) (am_lf_ok (fun _ => ok_imul dX12_otherEnd_20 rfl)))) (am_nd_ok (am_lf_ok (fun _ => ok_iadd dX12_otherEnd_21 rfl)) (am_nd_ok (am_lf_ok (fun _ => ok_iconst dX12_otherEnd_22 cv_iconst_1 rfl)) (am_lf_ok (fun _ => ok_iadd dX12_otherEnd_23 rfl))))) (am_nd_ok (am_nd_ok (am_lf_ok (fun _ => ok_iald dX12_otherEnd_24 rfl)) (am_nd_ok (am_lf_ok (fun _ => ok_istore dX12_otherEnd_25 (Nat.le_of_ble_eq_true rfl) rfl)) (am_lf_ok (fun _ => ok_iload_n dX12_otherEnd_27 rfl rfl)))) (am_nd_ok (am_lf_ok (fun _ => ok_iload_n dX12_otherEnd_28 rfl rfl)) (am_nd_ok (am_lf_ok (fun _ => ok_cmp_ne dX12_otherEnd_29 rfl rfl)) (am_lf_ok (fun _ => ok_iload dX12_otherEnd_32 rfl))))))
def tX12_otherEnd_1 : Nat → Option am_Act := am_nd 43 (am_nd 39 (am_nd 37 (am_lf 34 (a_goto 48)) (am_lf 37 (a_iload 4 39))) (am_nd 40 (am_lf 39 (a_iload 2 40)) (am_lf 40 (a_cmp (fun x y => x = y) 43 47)))) (am_nd 47 (am_nd 44 (am_lf 43 (a_iload 3 44)) (am_lf 44 (a_goto 48))) (am_nd 48 (am_lf 47 (a_const (-1) 48)) (am_lf 48 (a_iret))))
theorem gX12_otherEnd_1 : am_Good tT mX12_otherEnd tX12_otherEnd_1 := am_nd_ok (am_nd_ok (am_nd_ok (am_lf_ok (fun _ => ok_goto dX12_otherEnd_34 rfl)) (am_lf_ok (fun _ => ok_iload dX12_otherEnd_37 rfl))) (am_nd_ok (am_lf_ok (fun _ => ok_iload_n dX12_otherEnd_39 rfl rfl)) (am_lf_ok (fun _ => ok_cmp_ne dX12_otherEnd_40 rfl rfl)))) (am_nd_ok (am_nd_ok (am_lf_ok (fun _ => ok_iload_n dX12_otherEnd_43 rfl rfl)) (am_lf_ok (fun _ => ok_goto dX12_otherEnd_44 rfl))) (am_nd_ok (am_lf_ok (fun _ => ok_iconst dX12_otherEnd_47 cv_iconst_m1 rfl)) (am_lf_ok (fun _ => ok_iret rfl dX12_otherEnd_48))))
def tX12_otherEnd : Nat → Option am_Act := am_nd 34 (tX12_otherEnd_0) (tX12_otherEnd_1)
theorem gX12_otherEnd : am_Good tT mX12_otherEnd tX12_otherEnd := am_nd_ok (gX12_otherEnd_0) (gX12_otherEnd_1)
theorem dX12_loses_0 : decode cX12_loses 0 = .ok (.iload_n 2, 1) := by decide +kernel
theorem dX12_loses_1 : decode cX12_loses 1 = .ok (.iconst 1, 1) := by decide +kernel
theorem dX12_loses_2 : decode cX12_loses 2 = .ok (.iadd, 1) := by decide +kernel
theorem dX12_loses_3 : decode cX12_loses 3 = .ok (.istore_n 3, 1) := by decide +kernel
theorem dX12_loses_4 : decode cX12_loses 4 = .ok (.iload_n 3, 1) := by decide +kernel
theorem dX12_loses_5 : decode cX12_loses 5 = .ok (.aload_n 0, 1) := by decide +kernel
theorem dX12_loses_6 : decode cX12_loses 6 = .ok (.iload_n 1, 1) := by decide +kernel
theorem dX12_loses_7 : decode cX12_loses 7 = .ok (.iconst 2, 1) := by decide +kernel
theorem dX12_loses_8 : decode cX12_loses 8 = .ok (.invokevirtual 76, 3) := by decide +kernel
theorem dX12_loses_11 : decode cX12_loses 11 = .ok (.if_icmp .ge 27, 3) := by decide +kernel
theorem dX12_loses_14 : decode cX12_loses 14 = .ok (.aload_n 0, 1) := by decide +kernel
theorem dX12_loses_15 : decode cX12_loses 15 = .ok (.iload_n 1, 1) := by decide +kernel
theorem dX12_loses_16 : decode cX12_loses 16 = .ok (.iconst 5, 1) := by decide +kernel
theorem dX12_loses_17 : decode cX12_loses 17 = .ok (.iload_n 3, 1) := by decide +kernel
theorem dX12_loses_18 : decode cX12_loses 18 = .ok (.iadd, 1) := by decide +kernel
theorem dX12_loses_19 : decode cX12_loses 19 = .ok (.iconst 1, 1) := by decide +kernel
theorem dX12_loses_20 : decode cX12_loses 20 = .ok (.isub, 1) := by decide +kernel
theorem dX12_loses_21 : decode cX12_loses 21 = .ok (.aload_n 0, 1) := by decide +kernel
theorem dX12_loses_22 : decode cX12_loses 22 = .ok (.iload_n 1, 1) := by decide +kernel
theorem dX12_loses_23 : decode cX12_loses 23 = .ok (.iconst 5, 1) := by decide +kernel
theorem dX12_loses_24 : decode cX12_loses 24 = .ok (.iload_n 3, 1) := by decide +kernel
theorem dX12_loses_25 : decode cX12_loses 25 = .ok (.iadd, 1) := by decide +kernel
theorem dX12_loses_26 : decode cX12_loses 26 = .ok (.invokevirtual 76, 3) := by decide +kernel
theorem dX12_loses_29 : decode cX12_loses 29 = .ok (.invokevirtual 72, 3) := by decide +kernel
theorem dX12_loses_32 : decode cX12_loses 32 = .ok (.iinc 3 1, 3) := by decide +kernel
theorem dX12_loses_35 : decode cX12_loses 35 = .ok (.goto (-31), 3) := by decide +kernel
theorem dX12_loses_38 : decode cX12_loses 38 = .ok (.aload_n 0, 1) := by decide +kernel
theorem dX12_loses_39 : decode cX12_loses 39 = .ok (.iload_n 1, 1) := by decide +kernel
theorem dX12_loses_40 : decode cX12_loses 40 = .ok (.iconst 2, 1) := by decide +kernel
theorem dX12_loses_41 : decode cX12_loses 41 = .ok (.aload_n 0, 1) := by decide +kernel
theorem dX12_loses_42 : decode cX12_loses 42 = .ok (.iload_n 1, 1) := by decide +kernel
theorem dX12_loses_43 : decode cX12_loses 43 = .ok (.iconst 2, 1) := by decide +kernel
theorem dX12_loses_44 : decode cX12_loses 44 = .ok (.invokevirtual 76, 3) := by decide +kernel
theorem dX12_loses_47 : decode cX12_loses 47 = .ok (.iconst 1, 1) := by decide +kernel
theorem dX12_loses_48 : decode cX12_loses 48 = .ok (.isub, 1) := by decide +kernel
theorem dX12_loses_49 : decode cX12_loses 49 = .ok (.invokevirtual 72, 3) := by decide +kernel
theorem dX12_loses_52 : decode cX12_loses 52 = .ok (.return_, 1) := by decide +kernel
def tX12_loses_0 : Nat → Option am_Act := am_nd 16 (am_nd 6 (am_nd 3 (am_nd 1 (am_lf 0 (a_iload 2 1)) (am_nd 2 (am_lf 1 (a_const (nI 1) 2)) (am_lf 2 (a_bin (fun x y => x + y) 3)))) (am_nd 4 (am_lf 3 (a_istore 3 4)) (am_nd 5 (am_lf 4 (a_iload 3 5)) (am_lf 5 (a_aload 0 6))))) (am_nd 11 (am_nd 7 (am_lf 6 (a_iload 1 7)) (am_nd 8 (am_lf 7 (a_const (nI 2) 8)) (am_lf 8 (a_cvI tT mX12_own 12 2 11)))) (am_nd 14 (am_lf 11 (a_cmp (fun x y => y ≤ x) 38 14)) (am_nd 15 (am_lf 14 (a_aload 0 15)) (am_lf 15 (a_iload 1 16)))))) (am_nd 22 (am_nd 19 (am_nd 17 (am_lf 16 (a_const (nI 5) 17)) (am_nd 18 (am_lf 17 (a_iload 3 18)) (am_lf 18 (a_bin (fun x y => x + y) 19)))) (am_nd 20 (am_lf 19 (a_const (nI 1) 20)) (am_nd 21 (am_lf 20 (a_bin (fun x y => x - y) 21)) (am_lf 21 (a_aload 0 22))))) (am_nd 25 (am_nd 23 (am_lf 22 (a_iload 1 23)) (am_nd 24 (am_lf 23 (a_const (nI 5) 24)) (am_lf 24 (a_iload 3 25)))) (am_nd 26 (am_lf 25 (a_bin (fun x y => x + y) 26)) (am_nd 29 (am_lf 26 (a_cvI tT mX12_own 12 2 29)) (am_lf 29 (a_cvV tT mX12_gives 12 3 32))))))
theorem gX12_loses_0 : am_Good tT mX12_loses tX12_loses_0 := am_nd_ok (am_nd_ok (am_nd_ok (am_nd_ok (am_lf_ok (fun _ => ok_iload_n dX12_loses_0 rfl rfl)) (am_nd_ok (am_lf_ok (fun _ => ok_iconst dX12_loses_1 cv_iconst_1 rfl)) (am_lf_ok (fun _ => ok_iadd dX12_loses_2 rfl)))) (am_nd_ok (am_lf_ok (fun _ => ok_istore_n dX12_loses_3 rfl (Nat.le_of_ble_eq_true rfl) rfl)) (am_nd_ok (am_lf_ok (fun _ => ok_iload_n dX12_loses_4 rfl rfl)) (am_lf_ok (fun _ => ok_aload_n dX12_loses_5 rfl rfl))))) (am_nd_ok (am_nd_ok (am_lf_ok (fun _ => ok_iload_n dX12_loses_6 rfl rfl)) (am_nd_ok (am_lf_ok (fun _ => ok_iconst dX12_loses_7 cv_iconst_2 rfl)) (am_lf_ok (fun _ => ok_cvI rfl mw_X12_own (ci := 12) rfl rfl wd_462 wd_463 wd_464 dX12_loses_8 rfl)))) (am_nd_ok (am_lf_ok (fun _ => ok_cmp_ge dX12_loses_11 rfl rfl)) (am_nd_ok (am_lf_ok (fun _ => ok_aload_n dX12_loses_14 rfl rfl)) (am_lf_ok (fun _ => ok_iload_n dX12_loses_15 rfl rfl)))))) (am_nd_ok (am_nd_ok (am_nd_ok (am_lf_ok (fun _ => ok_iconst dX12_loses_16 cv_iconst_5 rfl)) (am_nd_ok (am_lf_ok (fun _ => ok_iload_n dX12_loses_17 rfl rfl)) (am_lf_ok (fun _ => ok_iadd dX12_loses_18 rfl)))) (am_nd_ok (am_lf_ok (fun _ => ok_iconst dX12_loses_19 cv_iconst_1 rfl)) (am_nd_ok (am_lf_ok (fun _ => ok_isub dX12_loses_20 rfl)) (am_lf_ok (fun _ => ok_aload_n dX12_loses_21 rfl rfl))))) (am_nd_ok (am_nd_ok (am_lf_ok (fun _ => ok_iload_n dX12_loses_22 rfl rfl)) (am_nd_ok (am_lf_ok (fun _ => ok_iconst dX12_loses_23 cv_iconst_5 rfl)) (am_lf_ok (fun _ => ok_iload_n dX12_loses_24 rfl rfl)))) (am_nd_ok (am_lf_ok (fun _ => ok_iadd dX12_loses_25 rfl)) (am_nd_ok (am_lf_ok (fun _ => ok_cvI rfl mw_X12_own (ci := 12) rfl rfl wd_462 wd_463 wd_464 dX12_loses_26 rfl)) (am_lf_ok (fun _ => ok_cvV rfl mw_X12_gives (ci := 12) rfl rfl wd_459 wd_460 wd_461 dX12_loses_29 rfl))))))
def tX12_loses_1 : Nat → Option am_Act := am_nd 42 (am_nd 39 (am_nd 35 (am_lf 32 (a_iinc 3 (nI 1) 35)) (am_nd 38 (am_lf 35 (a_goto 4)) (am_lf 38 (a_aload 0 39)))) (am_nd 40 (am_lf 39 (a_iload 1 40)) (am_nd 41 (am_lf 40 (a_const (nI 2) 41)) (am_lf 41 (a_aload 0 42))))) (am_nd 47 (am_nd 43 (am_lf 42 (a_iload 1 43)) (am_nd 44 (am_lf 43 (a_const (nI 2) 44)) (am_lf 44 (a_cvI tT mX12_own 12 2 47)))) (am_nd 49 (am_nd 48 (am_lf 47 (a_const (nI 1) 48)) (am_lf 48 (a_bin (fun x y => x - y) 49))) (am_nd 52 (am_lf 49 (a_cvV tT mX12_gives 12 3 52)) (am_lf 52 (a_ret)))))
theorem gX12_loses_1 : am_Good tT mX12_loses tX12_loses_1 := am_nd_ok (am_nd_ok (am_nd_ok (am_lf_ok (fun _ => ok_iinc dX12_loses_32 cv_iconst_1 (Nat.le_of_ble_eq_true rfl) rfl)) (am_nd_ok (am_lf_ok (fun _ => ok_goto dX12_loses_35 rfl)) (am_lf_ok (fun _ => ok_aload_n dX12_loses_38 rfl rfl)))) (am_nd_ok (am_lf_ok (fun _ => ok_iload_n dX12_loses_39 rfl rfl)) (am_nd_ok (am_lf_ok (fun _ => ok_iconst dX12_loses_40 cv_iconst_2 rfl)) (am_lf_ok (fun _ => ok_aload_n dX12_loses_41 rfl rfl))))) (am_nd_ok (am_nd_ok (am_lf_ok (fun _ => ok_iload_n dX12_loses_42 rfl rfl)) (am_nd_ok (am_lf_ok (fun _ => ok_iconst dX12_loses_43 cv_iconst_2 rfl)) (am_lf_ok (fun _ => ok_cvI rfl mw_X12_own (ci := 12) rfl rfl wd_462 wd_463 wd_464 dX12_loses_44 rfl)))) (am_nd_ok (am_nd_ok (am_lf_ok (fun _ => ok_iconst dX12_loses_47 cv_iconst_1 rfl)) (am_lf_ok (fun _ => ok_isub dX12_loses_48 rfl))) (am_nd_ok (am_lf_ok (fun _ => ok_cvV rfl mw_X12_gives (ci := 12) rfl rfl wd_459 wd_460 wd_461 dX12_loses_49 rfl)) (am_lf_ok (fun _ => ok_ret rfl dX12_loses_52)))))
def tX12_loses : Nat → Option am_Act := am_nd 32 (tX12_loses_0) (tX12_loses_1)
theorem gX12_loses : am_Good tT mX12_loses tX12_loses := am_nd_ok (gX12_loses_0) (gX12_loses_1)
theorem dX12_crosses_0 : decode cX12_crosses 0 = .ok (.aload_n 0, 1) := by decide +kernel
theorem dX12_crosses_1 : decode cX12_crosses 1 = .ok (.iload_n 2, 1) := by decide +kernel
theorem dX12_crosses_2 : decode cX12_crosses 2 = .ok (.aload_n 0, 1) := by decide +kernel
theorem dX12_crosses_3 : decode cX12_crosses 3 = .ok (.iload_n 1, 1) := by decide +kernel
theorem dX12_crosses_4 : decode cX12_crosses 4 = .ok (.iconst 0, 1) := by decide +kernel
theorem dX12_crosses_5 : decode cX12_crosses 5 = .ok (.invokevirtual 76, 3) := by decide +kernel
theorem dX12_crosses_8 : decode cX12_crosses 8 = .ok (.invokevirtual 231, 3) := by decide +kernel
theorem dX12_crosses_11 : decode cX12_crosses 11 = .ok (.istore_n 3, 1) := by decide +kernel
theorem dX12_crosses_12 : decode cX12_crosses 12 = .ok (.aload_n 0, 1) := by decide +kernel
theorem dX12_crosses_13 : decode cX12_crosses 13 = .ok (.iload_n 1, 1) := by decide +kernel
theorem dX12_crosses_14 : decode cX12_crosses 14 = .ok (.invokevirtual 234, 3) := by decide +kernel
theorem dX12_crosses_17 : decode cX12_crosses 17 = .ok (.aload_n 0, 1) := by decide +kernel
theorem dX12_crosses_18 : decode cX12_crosses 18 = .ok (.getfield 7, 3) := by decide +kernel
theorem dX12_crosses_21 : decode cX12_crosses 21 = .ok (.bipush 7, 2) := by decide +kernel
theorem dX12_crosses_23 : decode cX12_crosses 23 = .ok (.iaload, 1) := by decide +kernel
theorem dX12_crosses_24 : decode cX12_crosses 24 = .ok (.if_icmp .gt 13, 3) := by decide +kernel
theorem dX12_crosses_27 : decode cX12_crosses 27 = .ok (.aload_n 0, 1) := by decide +kernel
theorem dX12_crosses_28 : decode cX12_crosses 28 = .ok (.iload_n 1, 1) := by decide +kernel
theorem dX12_crosses_29 : decode cX12_crosses 29 = .ok (.iconst 0, 1) := by decide +kernel
theorem dX12_crosses_30 : decode cX12_crosses 30 = .ok (.iload_n 3, 1) := by decide +kernel
theorem dX12_crosses_31 : decode cX12_crosses 31 = .ok (.invokevirtual 72, 3) := by decide +kernel
theorem dX12_crosses_34 : decode cX12_crosses 34 = .ok (.bipush 100, 2) := by decide +kernel
theorem dX12_crosses_36 : decode cX12_crosses 36 = .ok (.ireturn, 1) := by decide +kernel
theorem dX12_crosses_37 : decode cX12_crosses 37 = .ok (.iconst 0, 1) := by decide +kernel
theorem dX12_crosses_38 : decode cX12_crosses 38 = .ok (.istore 4, 2) := by decide +kernel
theorem dX12_crosses_40 : decode cX12_crosses 40 = .ok (.iload 4, 2) := by decide +kernel
theorem dX12_crosses_42 : decode cX12_crosses 42 = .ok (.aload_n 0, 1) := by decide +kernel
theorem dX12_crosses_43 : decode cX12_crosses 43 = .ok (.iload_n 1, 1) := by decide +kernel
theorem dX12_crosses_44 : decode cX12_crosses 44 = .ok (.iconst 2, 1) := by decide +kernel
theorem dX12_crosses_45 : decode cX12_crosses 45 = .ok (.invokevirtual 76, 3) := by decide +kernel
theorem dX12_crosses_48 : decode cX12_crosses 48 = .ok (.if_icmp .ge 20, 3) := by decide +kernel
theorem dX12_crosses_51 : decode cX12_crosses 51 = .ok (.aload_n 0, 1) := by decide +kernel
theorem dX12_crosses_52 : decode cX12_crosses 52 = .ok (.iload_n 1, 1) := by decide +kernel
theorem dX12_crosses_53 : decode cX12_crosses 53 = .ok (.iload 4, 2) := by decide +kernel
theorem dX12_crosses_55 : decode cX12_crosses 55 = .ok (.iload_n 2, 1) := by decide +kernel
theorem dX12_crosses_56 : decode cX12_crosses 56 = .ok (.invokevirtual 237, 3) := by decide +kernel
theorem dX12_crosses_59 : decode cX12_crosses 59 = .ok (.ifCond .ne 9, 3) := by decide +kernel
theorem dX12_crosses_62 : decode cX12_crosses 62 = .ok (.iinc 4 1, 3) := by decide +kernel
theorem dX12_crosses_65 : decode cX12_crosses 65 = .ok (.goto (-25), 3) := by decide +kernel
theorem dX12_crosses_68 : decode cX12_crosses 68 = .ok (.iload 4, 2) := by decide +kernel
theorem dX12_crosses_70 : decode cX12_crosses 70 = .ok (.aload_n 0, 1) := by decide +kernel
theorem dX12_crosses_71 : decode cX12_crosses 71 = .ok (.iload_n 1, 1) := by decide +kernel
theorem dX12_crosses_72 : decode cX12_crosses 72 = .ok (.iconst 2, 1) := by decide +kernel
theorem dX12_crosses_73 : decode cX12_crosses 73 = .ok (.invokevirtual 76, 3) := by decide +kernel
theorem dX12_crosses_76 : decode cX12_crosses 76 = .ok (.if_icmp .ne 6, 3) := by decide +kernel
theorem dX12_crosses_79 : decode cX12_crosses 79 = .ok (.bipush (-2), 2) := by decide +kernel
theorem dX12_crosses_81 : decode cX12_crosses 81 = .ok (.ireturn, 1) := by decide +kernel
theorem dX12_crosses_82 : decode cX12_crosses 82 = .ok (.aload_n 0, 1) := by decide +kernel
theorem dX12_crosses_83 : decode cX12_crosses 83 = .ok (.iload_n 1, 1) := by decide +kernel
theorem dX12_crosses_84 : decode cX12_crosses 84 = .ok (.iconst 5, 1) := by decide +kernel
theorem dX12_crosses_85 : decode cX12_crosses 85 = .ok (.iload 4, 2) := by decide +kernel
theorem dX12_crosses_87 : decode cX12_crosses 87 = .ok (.iadd, 1) := by decide +kernel
theorem dX12_crosses_88 : decode cX12_crosses 88 = .ok (.invokevirtual 76, 3) := by decide +kernel
theorem dX12_crosses_91 : decode cX12_crosses 91 = .ok (.istore 5, 2) := by decide +kernel
theorem dX12_crosses_93 : decode cX12_crosses 93 = .ok (.aload_n 0, 1) := by decide +kernel
theorem dX12_crosses_94 : decode cX12_crosses 94 = .ok (.iload_n 1, 1) := by decide +kernel
theorem dX12_crosses_95 : decode cX12_crosses 95 = .ok (.iload 4, 2) := by decide +kernel
theorem dX12_crosses_97 : decode cX12_crosses 97 = .ok (.invokevirtual 240, 3) := by decide +kernel
theorem dX12_crosses_100 : decode cX12_crosses 100 = .ok (.aload_n 0, 1) := by decide +kernel
theorem dX12_crosses_101 : decode cX12_crosses 101 = .ok (.getfield 7, 3) := by decide +kernel
theorem dX12_crosses_104 : decode cX12_crosses 104 = .ok (.sipush 220, 3) := by decide +kernel
theorem dX12_crosses_107 : decode cX12_crosses 107 = .ok (.bipush 20, 2) := by decide +kernel
theorem dX12_crosses_109 : decode cX12_crosses 109 = .ok (.iload_n 2, 1) := by decide +kernel
theorem dX12_crosses_110 : decode cX12_crosses 110 = .ok (.imul, 1) := by decide +kernel
theorem dX12_crosses_111 : decode cX12_crosses 111 = .ok (.iadd, 1) := by decide +kernel
theorem dX12_crosses_112 : decode cX12_crosses 112 = .ok (.iload 5, 2) := by decide +kernel
theorem dX12_crosses_114 : decode cX12_crosses 114 = .ok (.iadd, 1) := by decide +kernel
theorem dX12_crosses_115 : decode cX12_crosses 115 = .ok (.dup2, 1) := by decide +kernel
theorem dX12_crosses_116 : decode cX12_crosses 116 = .ok (.iaload, 1) := by decide +kernel
theorem dX12_crosses_117 : decode cX12_crosses 117 = .ok (.iconst 1, 1) := by decide +kernel
theorem dX12_crosses_118 : decode cX12_crosses 118 = .ok (.iadd, 1) := by decide +kernel
theorem dX12_crosses_119 : decode cX12_crosses 119 = .ok (.iastore, 1) := by decide +kernel
theorem dX12_crosses_120 : decode cX12_crosses 120 = .ok (.aload_n 0, 1) := by decide +kernel
theorem dX12_crosses_121 : decode cX12_crosses 121 = .ok (.iload_n 1, 1) := by decide +kernel
theorem dX12_crosses_122 : decode cX12_crosses 122 = .ok (.iconst 4, 1) := by decide +kernel
theorem dX12_crosses_123 : decode cX12_crosses 123 = .ok (.aload_n 0, 1) := by decide +kernel
theorem dX12_crosses_124 : decode cX12_crosses 124 = .ok (.iload_n 1, 1) := by decide +kernel
theorem dX12_crosses_125 : decode cX12_crosses 125 = .ok (.iconst 4, 1) := by decide +kernel
theorem dX12_crosses_126 : decode cX12_crosses 126 = .ok (.invokevirtual 76, 3) := by decide +kernel
theorem dX12_crosses_129 : decode cX12_crosses 129 = .ok (.iconst 1, 1) := by decide +kernel
theorem dX12_crosses_130 : decode cX12_crosses 130 = .ok (.iload 5, 2) := by decide +kernel
theorem dX12_crosses_132 : decode cX12_crosses 132 = .ok (.ishl, 1) := by decide +kernel
theorem dX12_crosses_133 : decode cX12_crosses 133 = .ok (.ior, 1) := by decide +kernel
theorem dX12_crosses_134 : decode cX12_crosses 134 = .ok (.invokevirtual 72, 3) := by decide +kernel
theorem dX12_crosses_137 : decode cX12_crosses 137 = .ok (.aload_n 0, 1) := by decide +kernel
theorem dX12_crosses_138 : decode cX12_crosses 138 = .ok (.iload_n 1, 1) := by decide +kernel
theorem dX12_crosses_139 : decode cX12_crosses 139 = .ok (.iconst 0, 1) := by decide +kernel
theorem dX12_crosses_140 : decode cX12_crosses 140 = .ok (.iload_n 3, 1) := by decide +kernel
theorem dX12_crosses_141 : decode cX12_crosses 141 = .ok (.invokevirtual 72, 3) := by decide +kernel
theorem dX12_crosses_144 : decode cX12_crosses 144 = .ok (.iload 5, 2) := by decide +kernel
theorem dX12_crosses_146 : decode cX12_crosses 146 = .ok (.ireturn, 1) := by decide +kernel
def tX12_crosses_0 : Nat → Option am_Act := am_nd 18 (am_nd 8 (am_nd 3 (am_nd 1 (am_lf 0 (a_aload 0 1)) (am_nd 2 (am_lf 1 (a_iload 2 2)) (am_lf 2 (a_aload 0 3)))) (am_nd 4 (am_lf 3 (a_iload 1 4)) (am_nd 5 (am_lf 4 (a_const (nI 0) 5)) (am_lf 5 (a_cvI tT mX12_own 12 2 8))))) (am_nd 13 (am_nd 11 (am_lf 8 (a_cvI tT mX12_otherEnd 12 2 11)) (am_nd 12 (am_lf 11 (a_istore 3 12)) (am_lf 12 (a_aload 0 13)))) (am_nd 14 (am_lf 13 (a_iload 1 14)) (am_nd 17 (am_lf 14 (a_cvI tT mX12_lettersOf 12 1 17)) (am_lf 17 (a_aload 0 18)))))) (am_nd 29 (am_nd 24 (am_nd 21 (am_lf 18 (a_get tT 12 0 21)) (am_nd 23 (am_lf 21 (a_const (nI 7) 23)) (am_lf 23 (a_iald tT 24)))) (am_nd 27 (am_lf 24 (a_cmp (fun x y => y < x) 37 27)) (am_nd 28 (am_lf 27 (a_aload 0 28)) (am_lf 28 (a_iload 1 29))))) (am_nd 34 (am_nd 30 (am_lf 29 (a_const (nI 0) 30)) (am_nd 31 (am_lf 30 (a_iload 3 31)) (am_lf 31 (a_cvV tT mX12_gives 12 3 34)))) (am_nd 36 (am_lf 34 (a_const (nI 100) 36)) (am_nd 37 (am_lf 36 (a_iret)) (am_lf 37 (a_const (nI 0) 38))))))
theorem gX12_crosses_0 : am_Good tT mX12_crosses tX12_crosses_0 := am_nd_ok (am_nd_ok (am_nd_ok (am_nd_ok (am_lf_ok (fun _ => ok_aload_n dX12_crosses_0 rfl rfl)) (am_nd_ok (am_lf_ok (fun _ => ok_iload_n dX12_crosses_1 rfl rfl)) (am_lf_ok (fun _ => ok_aload_n dX12_crosses_2 rfl rfl)))) (am_nd_ok (am_lf_ok (fun _ => ok_iload_n dX12_crosses_3 rfl rfl)) (am_nd_ok (am_lf_ok (fun _ => ok_iconst dX12_crosses_4 cv_iconst_0 rfl)) (am_lf_ok (fun _ => ok_cvI rfl mw_X12_own (ci := 12) rfl rfl wd_462 wd_463 wd_464 dX12_crosses_5 rfl))))) (am_nd_ok (am_nd_ok (am_lf_ok (fun _ => ok_cvI rfl mw_X12_otherEnd (ci := 12) rfl rfl wd_556 wd_557 wd_558 dX12_crosses_8 rfl)) (am_nd_ok (am_lf_ok (fun _ => ok_istore_n dX12_crosses_11 rfl (Nat.le_of_ble_eq_true rfl) rfl)) (am_lf_ok (fun _ => ok_aload_n dX12_crosses_12 rfl rfl)))) (am_nd_ok (am_lf_ok (fun _ => ok_iload_n dX12_crosses_13 rfl rfl)) (am_nd_ok (am_lf_ok (fun _ => ok_cvI rfl mw_X12_lettersOf (ci := 12) rfl rfl wd_559 wd_560 wd_561 dX12_crosses_14 rfl)) (am_lf_ok (fun _ => ok_aload_n dX12_crosses_17 rfl rfl)))))) (am_nd_ok (am_nd_ok (am_nd_ok (am_lf_ok (fun _ => ok_get (C := RX12) (TT := TX12) (N := 31) rfl inw_X12 (Nat.le_of_ble_eq_true rfl) wd_448 dX12_crosses_18 rfl)) (am_nd_ok (am_lf_ok (fun _ => ok_bipush dX12_crosses_21 cv_bipush_7 rfl)) (am_lf_ok (fun _ => ok_iald dX12_crosses_23 rfl)))) (am_nd_ok (am_lf_ok (fun _ => ok_cmp_gt dX12_crosses_24 rfl rfl)) (am_nd_ok (am_lf_ok (fun _ => ok_aload_n dX12_crosses_27 rfl rfl)) (am_lf_ok (fun _ => ok_iload_n dX12_crosses_28 rfl rfl))))) (am_nd_ok (am_nd_ok (am_lf_ok (fun _ => ok_iconst dX12_crosses_29 cv_iconst_0 rfl)) (am_nd_ok (am_lf_ok (fun _ => ok_iload_n dX12_crosses_30 rfl rfl)) (am_lf_ok (fun _ => ok_cvV rfl mw_X12_gives (ci := 12) rfl rfl wd_459 wd_460 wd_461 dX12_crosses_31 rfl)))) (am_nd_ok (am_lf_ok (fun _ => ok_bipush dX12_crosses_34 cv_bipush_100 rfl)) (am_nd_ok (am_lf_ok (fun _ => ok_iret rfl dX12_crosses_36)) (am_lf_ok (fun _ => ok_iconst dX12_crosses_37 cv_iconst_0 rfl))))))
def tX12_crosses_1 : Nat → Option am_Act := am_nd 59 (am_nd 48 (am_nd 43 (am_nd 40 (am_lf 38 (a_istore 4 40)) (am_nd 42 (am_lf 40 (a_iload 4 42)) (am_lf 42 (a_aload 0 43)))) (am_nd 44 (am_lf 43 (a_iload 1 44)) (am_nd 45 (am_lf 44 (a_const (nI 2) 45)) (am_lf 45 (a_cvI tT mX12_own 12 2 48))))) (am_nd 53 (am_nd 51 (am_lf 48 (a_cmp (fun x y => y ≤ x) 68 51)) (am_nd 52 (am_lf 51 (a_aload 0 52)) (am_lf 52 (a_iload 1 53)))) (am_nd 55 (am_lf 53 (a_iload 4 55)) (am_nd 56 (am_lf 55 (a_iload 2 56)) (am_lf 56 (a_cvI tT mX12_mayLeave 12 3 59)))))) (am_nd 72 (am_nd 68 (am_nd 62 (am_lf 59 (a_if (fun x => x = nI 0) 62 68)) (am_nd 65 (am_lf 62 (a_iinc 4 (nI 1) 65)) (am_lf 65 (a_goto 40)))) (am_nd 70 (am_lf 68 (a_iload 4 70)) (am_nd 71 (am_lf 70 (a_aload 0 71)) (am_lf 71 (a_iload 1 72))))) (am_nd 79 (am_nd 73 (am_lf 72 (a_const (nI 2) 73)) (am_nd 76 (am_lf 73 (a_cvI tT mX12_own 12 2 76)) (am_lf 76 (a_cmp (fun x y => x = y) 79 82)))) (am_nd 81 (am_lf 79 (a_const (-2) 81)) (am_nd 82 (am_lf 81 (a_iret)) (am_lf 82 (a_aload 0 83))))))
theorem gX12_crosses_1 : am_Good tT mX12_crosses tX12_crosses_1 := am_nd_ok (am_nd_ok (am_nd_ok (am_nd_ok (am_lf_ok (fun _ => ok_istore dX12_crosses_38 (Nat.le_of_ble_eq_true rfl) rfl)) (am_nd_ok (am_lf_ok (fun _ => ok_iload dX12_crosses_40 rfl)) (am_lf_ok (fun _ => ok_aload_n dX12_crosses_42 rfl rfl)))) (am_nd_ok (am_lf_ok (fun _ => ok_iload_n dX12_crosses_43 rfl rfl)) (am_nd_ok (am_lf_ok (fun _ => ok_iconst dX12_crosses_44 cv_iconst_2 rfl)) (am_lf_ok (fun _ => ok_cvI rfl mw_X12_own (ci := 12) rfl rfl wd_462 wd_463 wd_464 dX12_crosses_45 rfl))))) (am_nd_ok (am_nd_ok (am_lf_ok (fun _ => ok_cmp_ge dX12_crosses_48 rfl rfl)) (am_nd_ok (am_lf_ok (fun _ => ok_aload_n dX12_crosses_51 rfl rfl)) (am_lf_ok (fun _ => ok_iload_n dX12_crosses_52 rfl rfl)))) (am_nd_ok (am_lf_ok (fun _ => ok_iload dX12_crosses_53 rfl)) (am_nd_ok (am_lf_ok (fun _ => ok_iload_n dX12_crosses_55 rfl rfl)) (am_lf_ok (fun _ => ok_cvI rfl mw_X12_mayLeave (ci := 12) rfl rfl wd_562 wd_563 wd_564 dX12_crosses_56 rfl)))))) (am_nd_ok (am_nd_ok (am_nd_ok (am_lf_ok (fun _ => ok_if_ne dX12_crosses_59 rfl rfl)) (am_nd_ok (am_lf_ok (fun _ => ok_iinc dX12_crosses_62 cv_iconst_1 (Nat.le_of_ble_eq_true rfl) rfl)) (am_lf_ok (fun _ => ok_goto dX12_crosses_65 rfl)))) (am_nd_ok (am_lf_ok (fun _ => ok_iload dX12_crosses_68 rfl)) (am_nd_ok (am_lf_ok (fun _ => ok_aload_n dX12_crosses_70 rfl rfl)) (am_lf_ok (fun _ => ok_iload_n dX12_crosses_71 rfl rfl))))) (am_nd_ok (am_nd_ok (am_lf_ok (fun _ => ok_iconst dX12_crosses_72 cv_iconst_2 rfl)) (am_nd_ok (am_lf_ok (fun _ => ok_cvI rfl mw_X12_own (ci := 12) rfl rfl wd_462 wd_463 wd_464 dX12_crosses_73 rfl)) (am_lf_ok (fun _ => ok_cmp_ne dX12_crosses_76 rfl rfl)))) (am_nd_ok (am_lf_ok (fun _ => ok_bipush dX12_crosses_79 cv_bipush_m2 rfl)) (am_nd_ok (am_lf_ok (fun _ => ok_iret rfl dX12_crosses_81)) (am_lf_ok (fun _ => ok_aload_n dX12_crosses_82 rfl rfl))))))
def tX12_crosses_2 : Nat → Option am_Act := am_nd 104 (am_nd 93 (am_nd 87 (am_nd 84 (am_lf 83 (a_iload 1 84)) (am_nd 85 (am_lf 84 (a_const (nI 5) 85)) (am_lf 85 (a_iload 4 87)))) (am_nd 88 (am_lf 87 (a_bin (fun x y => x + y) 88)) (am_nd 91 (am_lf 88 (a_cvI tT mX12_own 12 2 91)) (am_lf 91 (a_istore 5 93))))) (am_nd 97 (am_nd 94 (am_lf 93 (a_aload 0 94)) (am_nd 95 (am_lf 94 (a_iload 1 95)) (am_lf 95 (a_iload 4 97)))) (am_nd 100 (am_lf 97 (a_cvV tT mX12_loses 12 2 100)) (am_nd 101 (am_lf 100 (a_aload 0 101)) (am_lf 101 (a_get tT 12 0 104)))))) (am_nd 114 (am_nd 110 (am_nd 107 (am_lf 104 (a_const (nI 220) 107)) (am_nd 109 (am_lf 107 (a_const (nI 20) 109)) (am_lf 109 (a_iload 2 110)))) (am_nd 111 (am_lf 110 (a_bin (fun x y => x * y) 111)) (am_nd 112 (am_lf 111 (a_bin (fun x y => x + y) 112)) (am_lf 112 (a_iload 5 114))))) (am_nd 117 (am_nd 115 (am_lf 114 (a_bin (fun x y => x + y) 115)) (am_nd 116 (am_lf 115 (a_dup2 116)) (am_lf 116 (a_iald tT 117)))) (am_nd 118 (am_lf 117 (a_const (nI 1) 118)) (am_nd 119 (am_lf 118 (a_bin (fun x y => x + y) 119)) (am_lf 119 (a_iast tT 120))))))
theorem gX12_crosses_2 : am_Good tT mX12_crosses tX12_crosses_2 := am_nd_ok (am_nd_ok (am_nd_ok (am_nd_ok (am_lf_ok (fun _ => ok_iload_n dX12_crosses_83 rfl rfl)) (am_nd_ok (am_lf_ok (fun _ => ok_iconst dX12_crosses_84 cv_iconst_5 rfl)) (am_lf_ok (fun _ => ok_iload dX12_crosses_85 rfl)))) (am_nd_ok (am_lf_ok (fun _ => ok_iadd dX12_crosses_87 rfl)) (am_nd_ok (am_lf_ok (fun _ => ok_cvI rfl mw_X12_own (ci := 12) rfl rfl wd_462 wd_463 wd_464 dX12_crosses_88 rfl)) (am_lf_ok (fun _ => ok_istore dX12_crosses_91 (Nat.le_of_ble_eq_true rfl) rfl))))) (am_nd_ok (am_nd_ok (am_lf_ok (fun _ => ok_aload_n dX12_crosses_93 rfl rfl)) (am_nd_ok (am_lf_ok (fun _ => ok_iload_n dX12_crosses_94 rfl rfl)) (am_lf_ok (fun _ => ok_iload dX12_crosses_95 rfl)))) (am_nd_ok (am_lf_ok (fun _ => ok_cvV rfl mw_X12_loses (ci := 12) rfl rfl wd_565 wd_566 wd_567 dX12_crosses_97 rfl)) (am_nd_ok (am_lf_ok (fun _ => ok_aload_n dX12_crosses_100 rfl rfl)) (am_lf_ok (fun _ => ok_get (C := RX12) (TT := TX12) (N := 31) rfl inw_X12 (Nat.le_of_ble_eq_true rfl) wd_448 dX12_crosses_101 rfl)))))) (am_nd_ok (am_nd_ok (am_nd_ok (am_lf_ok (fun _ => ok_sipush dX12_crosses_104 cv_sipush_220 rfl)) (am_nd_ok (am_lf_ok (fun _ => ok_bipush dX12_crosses_107 cv_bipush_20 rfl)) (am_lf_ok (fun _ => ok_iload_n dX12_crosses_109 rfl rfl)))) (am_nd_ok (am_lf_ok (fun _ => ok_imul dX12_crosses_110 rfl)) (am_nd_ok (am_lf_ok (fun _ => ok_iadd dX12_crosses_111 rfl)) (am_lf_ok (fun _ => ok_iload dX12_crosses_112 rfl))))) (am_nd_ok (am_nd_ok (am_lf_ok (fun _ => ok_iadd dX12_crosses_114 rfl)) (am_nd_ok (am_lf_ok (fun _ => ok_dup2 dX12_crosses_115 rfl)) (am_lf_ok (fun _ => ok_iald dX12_crosses_116 rfl)))) (am_nd_ok (am_lf_ok (fun _ => ok_iconst dX12_crosses_117 cv_iconst_1 rfl)) (am_nd_ok (am_lf_ok (fun _ => ok_iadd dX12_crosses_118 rfl)) (am_lf_ok (fun _ => ok_iast dX12_crosses_119 rfl))))))
def tX12_crosses_3 : Nat → Option am_Act := am_nd 132 (am_nd 124 (am_nd 122 (am_nd 121 (am_lf 120 (a_aload 0 121)) (am_lf 121 (a_iload 1 122))) (am_nd 123 (am_lf 122 (a_const (nI 4) 123)) (am_lf 123 (a_aload 0 124)))) (am_nd 126 (am_nd 125 (am_lf 124 (a_iload 1 125)) (am_lf 125 (a_const (nI 4) 126))) (am_nd 129 (am_lf 126 (a_cvI tT mX12_own 12 2 129)) (am_nd 130 (am_lf 129 (a_const (nI 1) 130)) (am_lf 130 (a_iload 5 132)))))) (am_nd 139 (am_nd 134 (am_nd 133 (am_lf 132 (a_bin (fun x y => x <<< (y &&& 31)) 133)) (am_lf 133 (a_bin (fun x y => x ||| y) 134))) (am_nd 137 (am_lf 134 (a_cvV tT mX12_gives 12 3 137)) (am_nd 138 (am_lf 137 (a_aload 0 138)) (am_lf 138 (a_iload 1 139))))) (am_nd 141 (am_nd 140 (am_lf 139 (a_const (nI 0) 140)) (am_lf 140 (a_iload 3 141))) (am_nd 144 (am_lf 141 (a_cvV tT mX12_gives 12 3 144)) (am_nd 146 (am_lf 144 (a_iload 5 146)) (am_lf 146 (a_iret))))))
theorem gX12_crosses_3 : am_Good tT mX12_crosses tX12_crosses_3 := am_nd_ok (am_nd_ok (am_nd_ok (am_nd_ok (am_lf_ok (fun _ => ok_aload_n dX12_crosses_120 rfl rfl)) (am_lf_ok (fun _ => ok_iload_n dX12_crosses_121 rfl rfl))) (am_nd_ok (am_lf_ok (fun _ => ok_iconst dX12_crosses_122 cv_iconst_4 rfl)) (am_lf_ok (fun _ => ok_aload_n dX12_crosses_123 rfl rfl)))) (am_nd_ok (am_nd_ok (am_lf_ok (fun _ => ok_iload_n dX12_crosses_124 rfl rfl)) (am_lf_ok (fun _ => ok_iconst dX12_crosses_125 cv_iconst_4 rfl))) (am_nd_ok (am_lf_ok (fun _ => ok_cvI rfl mw_X12_own (ci := 12) rfl rfl wd_462 wd_463 wd_464 dX12_crosses_126 rfl)) (am_nd_ok (am_lf_ok (fun _ => ok_iconst dX12_crosses_129 cv_iconst_1 rfl)) (am_lf_ok (fun _ => ok_iload dX12_crosses_130 rfl)))))) (am_nd_ok (am_nd_ok (am_nd_ok (am_lf_ok (fun _ => ok_ishl dX12_crosses_132 rfl)) (am_lf_ok (fun _ => ok_ior dX12_crosses_133 rfl))) (am_nd_ok (am_lf_ok (fun _ => ok_cvV rfl mw_X12_gives (ci := 12) rfl rfl wd_459 wd_460 wd_461 dX12_crosses_134 rfl)) (am_nd_ok (am_lf_ok (fun _ => ok_aload_n dX12_crosses_137 rfl rfl)) (am_lf_ok (fun _ => ok_iload_n dX12_crosses_138 rfl rfl))))) (am_nd_ok (am_nd_ok (am_lf_ok (fun _ => ok_iconst dX12_crosses_139 cv_iconst_0 rfl)) (am_lf_ok (fun _ => ok_iload_n dX12_crosses_140 rfl rfl))) (am_nd_ok (am_lf_ok (fun _ => ok_cvV rfl mw_X12_gives (ci := 12) rfl rfl wd_459 wd_460 wd_461 dX12_crosses_141 rfl)) (am_nd_ok (am_lf_ok (fun _ => ok_iload dX12_crosses_144 rfl)) (am_lf_ok (fun _ => ok_iret rfl dX12_crosses_146))))))
def tX12_crosses : Nat → Option am_Act := am_nd 83 (am_nd 38 (tX12_crosses_0) (tX12_crosses_1)) (am_nd 120 (tX12_crosses_2) (tX12_crosses_3))
theorem gX12_crosses : am_Good tT mX12_crosses tX12_crosses := am_nd_ok (am_nd_ok (gX12_crosses_0) (gX12_crosses_1)) (am_nd_ok (gX12_crosses_2) (gX12_crosses_3))
