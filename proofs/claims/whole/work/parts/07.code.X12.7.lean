/-! ===== code of TollOfNamesModel ===== -/
theorem dX12_night_0 : decode cX12_night 0 = .ok (.aload_n 0, 1) := by decide +kernel
theorem dX12_night_1 : decode cX12_night 1 = .ok (.iload_n 1, 1) := by decide +kernel
theorem dX12_night_2 : decode cX12_night 2 = .ok (.invokevirtual 84, 3) := by decide +kernel
theorem dX12_night_5 : decode cX12_night 5 = .ok (.ifCond .eq 16, 3) := by decide +kernel
theorem dX12_night_8 : decode cX12_night 8 = .ok (.aload_n 0, 1) := by decide +kernel
theorem dX12_night_9 : decode cX12_night 9 = .ok (.iload_n 2, 1) := by decide +kernel
theorem dX12_night_10 : decode cX12_night 10 = .ok (.invokevirtual 84, 3) := by decide +kernel
theorem dX12_night_13 : decode cX12_night 13 = .ok (.ifCond .eq 8, 3) := by decide +kernel
theorem dX12_night_16 : decode cX12_night 16 = .ok (.iload_n 1, 1) := by decide +kernel
theorem dX12_night_17 : decode cX12_night 17 = .ok (.iload_n 2, 1) := by decide +kernel
theorem dX12_night_18 : decode cX12_night 18 = .ok (.if_icmp .ne 5, 3) := by decide +kernel
theorem dX12_night_21 : decode cX12_night 21 = .ok (.iconst (-1), 1) := by decide +kernel
theorem dX12_night_22 : decode cX12_night 22 = .ok (.ireturn, 1) := by decide +kernel
theorem dX12_night_23 : decode cX12_night 23 = .ok (.aload_n 0, 1) := by decide +kernel
theorem dX12_night_24 : decode cX12_night 24 = .ok (.iload_n 2, 1) := by decide +kernel
theorem dX12_night_25 : decode cX12_night 25 = .ok (.invokevirtual 262, 3) := by decide +kernel
theorem dX12_night_28 : decode cX12_night 28 = .ok (.aload_n 0, 1) := by decide +kernel
theorem dX12_night_29 : decode cX12_night 29 = .ok (.iload_n 1, 1) := by decide +kernel
theorem dX12_night_30 : decode cX12_night 30 = .ok (.invokevirtual 262, 3) := by decide +kernel
theorem dX12_night_33 : decode cX12_night 33 = .ok (.iconst (-1), 1) := by decide +kernel
theorem dX12_night_34 : decode cX12_night 34 = .ok (.ixor, 1) := by decide +kernel
theorem dX12_night_35 : decode cX12_night 35 = .ok (.iand, 1) := by decide +kernel
theorem dX12_night_36 : decode cX12_night 36 = .ok (.istore_n 3, 1) := by decide +kernel
theorem dX12_night_37 : decode cX12_night 37 = .ok (.iconst 0, 1) := by decide +kernel
theorem dX12_night_38 : decode cX12_night 38 = .ok (.istore 4, 2) := by decide +kernel
theorem dX12_night_40 : decode cX12_night 40 = .ok (.iload 4, 2) := by decide +kernel
theorem dX12_night_42 : decode cX12_night 42 = .ok (.aload_n 0, 1) := by decide +kernel
theorem dX12_night_43 : decode cX12_night 43 = .ok (.getfield 7, 3) := by decide +kernel
theorem dX12_night_46 : decode cX12_night 46 = .ok (.iconst 0, 1) := by decide +kernel
theorem dX12_night_47 : decode cX12_night 47 = .ok (.iaload, 1) := by decide +kernel
theorem dX12_night_48 : decode cX12_night 48 = .ok (.if_icmp .ge 84, 3) := by decide +kernel
theorem dX12_night_51 : decode cX12_night 51 = .ok (.iload_n 3, 1) := by decide +kernel
theorem dX12_night_52 : decode cX12_night 52 = .ok (.iload 4, 2) := by decide +kernel
theorem dX12_night_54 : decode cX12_night 54 = .ok (.ishr, 1) := by decide +kernel
theorem dX12_night_55 : decode cX12_night 55 = .ok (.iconst 1, 1) := by decide +kernel
theorem dX12_night_56 : decode cX12_night 56 = .ok (.iand, 1) := by decide +kernel
theorem dX12_night_57 : decode cX12_night 57 = .ok (.ifCond .ne 7, 3) := by decide +kernel
theorem dX12_night_60 : decode cX12_night 60 = .ok (.iconst 1, 1) := by decide +kernel
theorem dX12_night_61 : decode cX12_night 61 = .ok (.goto 4, 3) := by decide +kernel
theorem dX12_night_64 : decode cX12_night 64 = .ok (.iconst 0, 1) := by decide +kernel
theorem dX12_night_65 : decode cX12_night 65 = .ok (.istore 5, 2) := by decide +kernel
theorem dX12_night_67 : decode cX12_night 67 = .ok (.iconst 0, 1) := by decide +kernel
theorem dX12_night_68 : decode cX12_night 68 = .ok (.istore 6, 2) := by decide +kernel
theorem dX12_night_70 : decode cX12_night 70 = .ok (.iload 6, 2) := by decide +kernel
theorem dX12_night_72 : decode cX12_night 72 = .ok (.aload_n 0, 1) := by decide +kernel
theorem dX12_night_73 : decode cX12_night 73 = .ok (.getfield 7, 3) := by decide +kernel
theorem dX12_night_76 : decode cX12_night 76 = .ok (.iconst 2, 1) := by decide +kernel
theorem dX12_night_77 : decode cX12_night 77 = .ok (.iaload, 1) := by decide +kernel
theorem dX12_night_78 : decode cX12_night 78 = .ok (.if_icmp .ge 41, 3) := by decide +kernel
theorem dX12_night_81 : decode cX12_night 81 = .ok (.iload 5, 2) := by decide +kernel
theorem dX12_night_83 : decode cX12_night 83 = .ok (.ifCond .ne 23, 3) := by decide +kernel
theorem dX12_night_86 : decode cX12_night 86 = .ok (.aload_n 0, 1) := by decide +kernel
theorem dX12_night_87 : decode cX12_night 87 = .ok (.getfield 7, 3) := by decide +kernel
theorem dX12_night_90 : decode cX12_night 90 = .ok (.sipush 220, 3) := by decide +kernel
theorem dX12_night_93 : decode cX12_night 93 = .ok (.bipush 20, 2) := by decide +kernel
theorem dX12_night_95 : decode cX12_night 95 = .ok (.iload 6, 2) := by decide +kernel
theorem dX12_night_97 : decode cX12_night 97 = .ok (.imul, 1) := by decide +kernel
theorem dX12_night_98 : decode cX12_night 98 = .ok (.iadd, 1) := by decide +kernel
theorem dX12_night_99 : decode cX12_night 99 = .ok (.iload 4, 2) := by decide +kernel
theorem dX12_night_101 : decode cX12_night 101 = .ok (.iadd, 1) := by decide +kernel
theorem dX12_night_102 : decode cX12_night 102 = .ok (.iaload, 1) := by decide +kernel
theorem dX12_night_103 : decode cX12_night 103 = .ok (.ifCond .le 7, 3) := by decide +kernel
theorem dX12_night_106 : decode cX12_night 106 = .ok (.iconst 1, 1) := by decide +kernel
theorem dX12_night_107 : decode cX12_night 107 = .ok (.goto 4, 3) := by decide +kernel
theorem dX12_night_110 : decode cX12_night 110 = .ok (.iconst 0, 1) := by decide +kernel
theorem dX12_night_111 : decode cX12_night 111 = .ok (.istore 5, 2) := by decide +kernel
theorem dX12_night_113 : decode cX12_night 113 = .ok (.iinc 6 1, 3) := by decide +kernel
theorem dX12_night_116 : decode cX12_night 116 = .ok (.goto (-46), 3) := by decide +kernel
theorem dX12_night_119 : decode cX12_night 119 = .ok (.iload 5, 2) := by decide +kernel
theorem dX12_night_121 : decode cX12_night 121 = .ok (.ifCond .ne 5, 3) := by decide +kernel
theorem dX12_night_124 : decode cX12_night 124 = .ok (.iconst (-1), 1) := by decide +kernel
theorem dX12_night_125 : decode cX12_night 125 = .ok (.ireturn, 1) := by decide +kernel
theorem dX12_night_126 : decode cX12_night 126 = .ok (.iinc 4 1, 3) := by decide +kernel
theorem dX12_night_129 : decode cX12_night 129 = .ok (.goto (-89), 3) := by decide +kernel
theorem dX12_night_132 : decode cX12_night 132 = .ok (.aload_n 0, 1) := by decide +kernel
theorem dX12_night_133 : decode cX12_night 133 = .ok (.iload_n 1, 1) := by decide +kernel
theorem dX12_night_134 : decode cX12_night 134 = .ok (.iconst 2, 1) := by decide +kernel
theorem dX12_night_135 : decode cX12_night 135 = .ok (.invokevirtual 76, 3) := by decide +kernel
theorem dX12_night_138 : decode cX12_night 138 = .ok (.iload_n 3, 1) := by decide +kernel
theorem dX12_night_139 : decode cX12_night 139 = .ok (.invokestatic 268, 3) := by decide +kernel
theorem dX12_night_142 : decode cX12_night 142 = .ok (.iadd, 1) := by decide +kernel
theorem dX12_night_143 : decode cX12_night 143 = .ok (.bipush 9, 2) := by decide +kernel
theorem dX12_night_145 : decode cX12_night 145 = .ok (.if_icmp .le 7, 3) := by decide +kernel
theorem dX12_night_148 : decode cX12_night 148 = .ok (.iconst (-1), 1) := by decide +kernel
theorem dX12_night_149 : decode cX12_night 149 = .ok (.goto 7, 3) := by decide +kernel
theorem dX12_night_152 : decode cX12_night 152 = .ok (.iload_n 3, 1) := by decide +kernel
theorem dX12_night_153 : decode cX12_night 153 = .ok (.invokestatic 268, 3) := by decide +kernel
theorem dX12_night_156 : decode cX12_night 156 = .ok (.ireturn, 1) := by decide +kernel
def tX12_night_0 : Nat → Option am_Act := am_nd 22 (am_nd 10 (am_nd 5 (am_nd 1 (am_lf 0 (a_aload 0 1)) (am_nd 2 (am_lf 1 (a_iload 1 2)) (am_lf 2 (a_cvI tT mX12_isPerson 12 1 5)))) (am_nd 8 (am_lf 5 (a_if (fun x => x = nI 0) 21 8)) (am_nd 9 (am_lf 8 (a_aload 0 9)) (am_lf 9 (a_iload 2 10))))) (am_nd 17 (am_nd 13 (am_lf 10 (a_cvI tT mX12_isPerson 12 1 13)) (am_nd 16 (am_lf 13 (a_if (fun x => x = nI 0) 21 16)) (am_lf 16 (a_iload 1 17)))) (am_nd 18 (am_lf 17 (a_iload 2 18)) (am_nd 21 (am_lf 18 (a_cmp (fun x y => x = y) 21 23)) (am_lf 21 (a_const (-1) 22)))))) (am_nd 30 (am_nd 25 (am_nd 23 (am_lf 22 (a_iret)) (am_nd 24 (am_lf 23 (a_aload 0 24)) (am_lf 24 (a_iload 2 25)))) (am_nd 28 (am_lf 25 (a_cvI tT mX12_had 12 1 28)) (am_nd 29 (am_lf 28 (a_aload 0 29)) (am_lf 29 (a_iload 1 30))))) (am_nd 35 (am_nd 33 (am_lf 30 (a_cvI tT mX12_had 12 1 33)) (am_nd 34 (am_lf 33 (a_const (-1) 34)) (am_lf 34 (a_bin (fun x y => x ^^^ y) 35)))) (am_nd 36 (am_lf 35 (a_bin (fun x y => x &&& y) 36)) (am_nd 37 (am_lf 36 (a_istore 3 37)) (am_lf 37 (a_const (nI 0) 38))))))
theorem gX12_night_0 : am_Good tT mX12_night tX12_night_0 := am_nd_ok (am_nd_ok (am_nd_ok (am_nd_ok (am_lf_ok (fun _ => ok_aload_n dX12_night_0 rfl rfl)) (am_nd_ok (am_lf_ok (fun _ => ok_iload_n dX12_night_1 rfl rfl)) (am_lf_ok (fun _ => ok_cvI rfl mw_X12_isPerson (ci := 12) rfl rfl wd_468 wd_469 wd_470 dX12_night_2 rfl)))) (am_nd_ok (am_lf_ok (fun _ => ok_if_eq dX12_night_5 rfl rfl)) (am_nd_ok (am_lf_ok (fun _ => ok_aload_n dX12_night_8 rfl rfl)) (am_lf_ok (fun _ => ok_iload_n dX12_night_9 rfl rfl))))) (am_nd_ok (am_nd_ok (am_lf_ok (fun _ => ok_cvI rfl mw_X12_isPerson (ci := 12) rfl rfl wd_468 wd_469 wd_470 dX12_night_10 rfl)) (am_nd_ok (am_lf_ok (fun _ => ok_if_eq dX12_night_13 rfl rfl)) (am_lf_ok (fun _ => ok_iload_n dX12_night_16 rfl rfl)))) (am_nd_ok (am_lf_ok (fun _ => ok_iload_n dX12_night_17 rfl rfl)) (am_nd_ok (am_lf_ok (fun _ => ok_cmp_ne dX12_night_18 rfl rfl)) (am_lf_ok (fun _ => ok_iconst dX12_night_21 cv_iconst_m1 rfl)))))) (am_nd_ok (am_nd_ok (am_nd_ok (am_lf_ok (fun _ => ok_iret rfl dX12_night_22)) (am_nd_ok (am_lf_ok (fun _ => ok_aload_n dX12_night_23 rfl rfl)) (am_lf_ok (fun _ => ok_iload_n dX12_night_24 rfl rfl)))) (am_nd_ok (am_lf_ok (fun _ => ok_cvI rfl mw_X12_had (ci := 12) rfl rfl wd_587 wd_588 wd_589 dX12_night_25 rfl)) (am_nd_ok (am_lf_ok (fun _ => ok_aload_n dX12_night_28 rfl rfl)) (am_lf_ok (fun _ => ok_iload_n dX12_night_29 rfl rfl))))) (am_nd_ok (am_nd_ok (am_lf_ok (fun _ => ok_cvI rfl mw_X12_had (ci := 12) rfl rfl wd_587 wd_588 wd_589 dX12_night_30 rfl)) (am_nd_ok (am_lf_ok (fun _ => ok_iconst dX12_night_33 cv_iconst_m1 rfl)) (am_lf_ok (fun _ => ok_ixor dX12_night_34 rfl)))) (am_nd_ok (am_lf_ok (fun _ => ok_iand dX12_night_35 rfl)) (am_nd_ok (am_lf_ok (fun _ => ok_istore_n dX12_night_36 rfl (Nat.le_of_ble_eq_true rfl) rfl)) (am_lf_ok (fun _ => ok_iconst dX12_night_37 cv_iconst_0 rfl))))))
def tX12_night_1 : Nat → Option am_Act := am_nd 57 (am_nd 48 (am_nd 43 (am_nd 40 (am_lf 38 (a_istore 4 40)) (am_nd 42 (am_lf 40 (a_iload 4 42)) (am_lf 42 (a_aload 0 43)))) (am_nd 46 (am_lf 43 (a_get tT 12 0 46)) (am_nd 47 (am_lf 46 (a_const (nI 0) 47)) (am_lf 47 (a_iald tT 48))))) (am_nd 54 (am_nd 51 (am_lf 48 (a_cmp (fun x y => y ≤ x) 132 51)) (am_nd 52 (am_lf 51 (a_iload 3 52)) (am_lf 52 (a_iload 4 54)))) (am_nd 55 (am_lf 54 (a_bin (fun x y => x >>> (y &&& 31)) 55)) (am_nd 56 (am_lf 55 (a_const (nI 1) 56)) (am_lf 56 (a_bin (fun x y => x &&& y) 57)))))) (am_nd 68 (am_nd 64 (am_nd 60 (am_lf 57 (a_if (fun x => x = nI 0) 60 64)) (am_nd 61 (am_lf 60 (a_const (nI 1) 61)) (am_lf 61 (a_goto 65)))) (am_nd 65 (am_lf 64 (a_const (nI 0) 65)) (am_nd 67 (am_lf 65 (a_istore 5 67)) (am_lf 67 (a_const (nI 0) 68))))) (am_nd 73 (am_nd 70 (am_lf 68 (a_istore 6 70)) (am_nd 72 (am_lf 70 (a_iload 6 72)) (am_lf 72 (a_aload 0 73)))) (am_nd 76 (am_lf 73 (a_get tT 12 0 76)) (am_nd 77 (am_lf 76 (a_const (nI 2) 77)) (am_lf 77 (a_iald tT 78))))))
theorem gX12_night_1 : am_Good tT mX12_night tX12_night_1 := am_nd_ok (am_nd_ok (am_nd_ok (am_nd_ok (am_lf_ok (fun _ => ok_istore dX12_night_38 (Nat.le_of_ble_eq_true rfl) rfl)) (am_nd_ok (am_lf_ok (fun _ => ok_iload dX12_night_40 rfl)) (am_lf_ok (fun _ => ok_aload_n dX12_night_42 rfl rfl)))) (am_nd_ok (am_lf_ok (fun _ => ok_get (C := RX12) (TT := TX12) (N := 31) rfl inw_X12 (Nat.le_of_ble_eq_true rfl) wd_448 dX12_night_43 rfl)) (am_nd_ok (am_lf_ok (fun _ => ok_iconst dX12_night_46 cv_iconst_0 rfl)) (am_lf_ok (fun _ => ok_iald dX12_night_47 rfl))))) (am_nd_ok (am_nd_ok (am_lf_ok (fun _ => ok_cmp_ge dX12_night_48 rfl rfl)) (am_nd_ok (am_lf_ok (fun _ => ok_iload_n dX12_night_51 rfl rfl)) (am_lf_ok (fun _ => ok_iload dX12_night_52 rfl)))) (am_nd_ok (am_lf_ok (fun _ => ok_ishr dX12_night_54 rfl)) (am_nd_ok (am_lf_ok (fun _ => ok_iconst dX12_night_55 cv_iconst_1 rfl)) (am_lf_ok (fun _ => ok_iand dX12_night_56 rfl)))))) (am_nd_ok (am_nd_ok (am_nd_ok (am_lf_ok (fun _ => ok_if_ne dX12_night_57 rfl rfl)) (am_nd_ok (am_lf_ok (fun _ => ok_iconst dX12_night_60 cv_iconst_1 rfl)) (am_lf_ok (fun _ => ok_goto dX12_night_61 rfl)))) (am_nd_ok (am_lf_ok (fun _ => ok_iconst dX12_night_64 cv_iconst_0 rfl)) (am_nd_ok (am_lf_ok (fun _ => ok_istore dX12_night_65 (Nat.le_of_ble_eq_true rfl) rfl)) (am_lf_ok (fun _ => ok_iconst dX12_night_67 cv_iconst_0 rfl))))) (am_nd_ok (am_nd_ok (am_lf_ok (fun _ => ok_istore dX12_night_68 (Nat.le_of_ble_eq_true rfl) rfl)) (am_nd_ok (am_lf_ok (fun _ => ok_iload dX12_night_70 rfl)) (am_lf_ok (fun _ => ok_aload_n dX12_night_72 rfl rfl)))) (am_nd_ok (am_lf_ok (fun _ => ok_get (C := RX12) (TT := TX12) (N := 31) rfl inw_X12 (Nat.le_of_ble_eq_true rfl) wd_448 dX12_night_73 rfl)) (am_nd_ok (am_lf_ok (fun _ => ok_iconst dX12_night_76 cv_iconst_2 rfl)) (am_lf_ok (fun _ => ok_iald dX12_night_77 rfl))))))
def tX12_night_2 : Nat → Option am_Act := am_nd 102 (am_nd 93 (am_nd 86 (am_nd 81 (am_lf 78 (a_cmp (fun x y => y ≤ x) 119 81)) (am_nd 83 (am_lf 81 (a_iload 5 83)) (am_lf 83 (a_if (fun x => x = nI 0) 86 106)))) (am_nd 87 (am_lf 86 (a_aload 0 87)) (am_nd 90 (am_lf 87 (a_get tT 12 0 90)) (am_lf 90 (a_const (nI 220) 93))))) (am_nd 98 (am_nd 95 (am_lf 93 (a_const (nI 20) 95)) (am_nd 97 (am_lf 95 (a_iload 6 97)) (am_lf 97 (a_bin (fun x y => x * y) 98)))) (am_nd 99 (am_lf 98 (a_bin (fun x y => x + y) 99)) (am_nd 101 (am_lf 99 (a_iload 4 101)) (am_lf 101 (a_bin (fun x y => x + y) 102)))))) (am_nd 113 (am_nd 107 (am_nd 103 (am_lf 102 (a_iald tT 103)) (am_nd 106 (am_lf 103 (a_if (fun x => x ≤ nI 0) 110 106)) (am_lf 106 (a_const (nI 1) 107)))) (am_nd 110 (am_lf 107 (a_goto 111)) (am_nd 111 (am_lf 110 (a_const (nI 0) 111)) (am_lf 111 (a_istore 5 113))))) (am_nd 121 (am_nd 116 (am_lf 113 (a_iinc 6 (nI 1) 116)) (am_nd 119 (am_lf 116 (a_goto 70)) (am_lf 119 (a_iload 5 121)))) (am_nd 124 (am_lf 121 (a_if (fun x => x = nI 0) 124 126)) (am_nd 125 (am_lf 124 (a_const (-1) 125)) (am_lf 125 (a_iret))))))
theorem gX12_night_2 : am_Good tT mX12_night tX12_night_2 := am_nd_ok (am_nd_ok (am_nd_ok (am_nd_ok (am_lf_ok (fun _ => ok_cmp_ge dX12_night_78 rfl rfl)) (am_nd_ok (am_lf_ok (fun _ => ok_iload dX12_night_81 rfl)) (am_lf_ok (fun _ => ok_if_ne dX12_night_83 rfl rfl)))) (am_nd_ok (am_lf_ok (fun _ => ok_aload_n dX12_night_86 rfl rfl)) (am_nd_ok (am_lf_ok (fun _ => ok_get (C := RX12) (TT := TX12) (N := 31) rfl inw_X12 (Nat.le_of_ble_eq_true rfl) wd_448 dX12_night_87 rfl)) (am_lf_ok (fun _ => ok_sipush dX12_night_90 cv_sipush_220 rfl))))) (am_nd_ok (am_nd_ok (am_lf_ok (fun _ => ok_bipush dX12_night_93 cv_bipush_20 rfl)) (am_nd_ok (am_lf_ok (fun _ => ok_iload dX12_night_95 rfl)) (am_lf_ok (fun _ => ok_imul dX12_night_97 rfl)))) (am_nd_ok (am_lf_ok (fun _ => ok_iadd dX12_night_98 rfl)) (am_nd_ok (am_lf_ok (fun _ => ok_iload dX12_night_99 rfl)) (am_lf_ok (fun _ => ok_iadd dX12_night_101 rfl)))))) (am_nd_ok (am_nd_ok (am_nd_ok (am_lf_ok (fun _ => ok_iald dX12_night_102 rfl)) (am_nd_ok (am_lf_ok (fun _ => ok_if_le dX12_night_103 rfl rfl)) (am_lf_ok (fun _ => ok_iconst dX12_night_106 cv_iconst_1 rfl)))) (am_nd_ok (am_lf_ok (fun _ => ok_goto dX12_night_107 rfl)) (am_nd_ok (am_lf_ok (fun _ => ok_iconst dX12_night_110 cv_iconst_0 rfl)) (am_lf_ok (fun _ => ok_istore dX12_night_111 (Nat.le_of_ble_eq_true rfl) rfl))))) (am_nd_ok (am_nd_ok (am_lf_ok (fun _ => ok_iinc dX12_night_113 cv_iconst_1 (Nat.le_of_ble_eq_true rfl) rfl)) (am_nd_ok (am_lf_ok (fun _ => ok_goto dX12_night_116 rfl)) (am_lf_ok (fun _ => ok_iload dX12_night_119 rfl)))) (am_nd_ok (am_lf_ok (fun _ => ok_if_ne dX12_night_121 rfl rfl)) (am_nd_ok (am_lf_ok (fun _ => ok_iconst dX12_night_124 cv_iconst_m1 rfl)) (am_lf_ok (fun _ => ok_iret rfl dX12_night_125))))))
def tX12_night_3 : Nat → Option am_Act := am_nd 142 (am_nd 134 (am_nd 132 (am_nd 129 (am_lf 126 (a_iinc 4 (nI 1) 129)) (am_lf 129 (a_goto 40))) (am_nd 133 (am_lf 132 (a_aload 0 133)) (am_lf 133 (a_iload 1 134)))) (am_nd 138 (am_nd 135 (am_lf 134 (a_const (nI 2) 135)) (am_lf 135 (a_cvI tT mX12_own 12 2 138))) (am_nd 139 (am_lf 138 (a_iload 3 139)) (am_lf 139 (a_csI mX12_count 1 142))))) (am_nd 149 (am_nd 145 (am_nd 143 (am_lf 142 (a_bin (fun x y => x + y) 143)) (am_lf 143 (a_const (nI 9) 145))) (am_nd 148 (am_lf 145 (a_cmp (fun x y => x ≤ y) 152 148)) (am_lf 148 (a_const (-1) 149)))) (am_nd 153 (am_nd 152 (am_lf 149 (a_goto 156)) (am_lf 152 (a_iload 3 153))) (am_nd 156 (am_lf 153 (a_csI mX12_count 1 156)) (am_lf 156 (a_iret)))))
theorem gX12_night_3 : am_Good tT mX12_night tX12_night_3 := am_nd_ok (am_nd_ok (am_nd_ok (am_nd_ok (am_lf_ok (fun _ => ok_iinc dX12_night_126 cv_iconst_1 (Nat.le_of_ble_eq_true rfl) rfl)) (am_lf_ok (fun _ => ok_goto dX12_night_129 rfl))) (am_nd_ok (am_lf_ok (fun _ => ok_aload_n dX12_night_132 rfl rfl)) (am_lf_ok (fun _ => ok_iload_n dX12_night_133 rfl rfl)))) (am_nd_ok (am_nd_ok (am_lf_ok (fun _ => ok_iconst dX12_night_134 cv_iconst_2 rfl)) (am_lf_ok (fun _ => ok_cvI rfl mw_X12_own (ci := 12) rfl rfl wd_462 wd_463 wd_464 dX12_night_135 rfl))) (am_nd_ok (am_lf_ok (fun _ => ok_iload_n dX12_night_138 rfl rfl)) (am_lf_ok (fun _ => ok_csI rfl mw_X12_count wd_593 wd_594 dX12_night_139 rfl))))) (am_nd_ok (am_nd_ok (am_nd_ok (am_lf_ok (fun _ => ok_iadd dX12_night_142 rfl)) (am_lf_ok (fun _ => ok_bipush dX12_night_143 cv_bipush_9 rfl))) (am_nd_ok (am_lf_ok (fun _ => ok_cmp_le dX12_night_145 rfl rfl)) (am_lf_ok (fun _ => ok_iconst dX12_night_148 cv_iconst_m1 rfl)))) (am_nd_ok (am_nd_ok (am_lf_ok (fun _ => ok_goto dX12_night_149 rfl)) (am_lf_ok (fun _ => ok_iload_n dX12_night_152 rfl rfl))) (am_nd_ok (am_lf_ok (fun _ => ok_csI rfl mw_X12_count wd_593 wd_594 dX12_night_153 rfl)) (am_lf_ok (fun _ => ok_iret rfl dX12_night_156)))))
def tX12_night : Nat → Option am_Act := am_nd 78 (am_nd 38 (tX12_night_0) (tX12_night_1)) (am_nd 126 (tX12_night_2) (tX12_night_3))
theorem gX12_night : am_Good tT mX12_night tX12_night := am_nd_ok (am_nd_ok (gX12_night_0) (gX12_night_1)) (am_nd_ok (gX12_night_2) (gX12_night_3))
theorem dX12_tries_0 : decode cX12_tries 0 = .ok (.iload_n 2, 1) := by decide +kernel
theorem dX12_tries_1 : decode cX12_tries 1 = .ok (.ifCond .ne 60, 3) := by decide +kernel
theorem dX12_tries_4 : decode cX12_tries 4 = .ok (.aload_n 0, 1) := by decide +kernel
theorem dX12_tries_5 : decode cX12_tries 5 = .ok (.iload_n 1, 1) := by decide +kernel
theorem dX12_tries_6 : decode cX12_tries 6 = .ok (.invokevirtual 274, 3) := by decide +kernel
theorem dX12_tries_9 : decode cX12_tries 9 = .ok (.invokestatic 268, 3) := by decide +kernel
theorem dX12_tries_12 : decode cX12_tries 12 = .ok (.istore 5, 2) := by decide +kernel
theorem dX12_tries_14 : decode cX12_tries 14 = .ok (.iload 5, 2) := by decide +kernel
theorem dX12_tries_16 : decode cX12_tries 16 = .ok (.aload_n 0, 1) := by decide +kernel
theorem dX12_tries_17 : decode cX12_tries 17 = .ok (.getfield 300, 3) := by decide +kernel
theorem dX12_tries_20 : decode cX12_tries 20 = .ok (.if_icmp .gt 4, 3) := by decide +kernel
theorem dX12_tries_23 : decode cX12_tries 23 = .ok (.return_, 1) := by decide +kernel
theorem dX12_tries_24 : decode cX12_tries 24 = .ok (.aload_n 0, 1) := by decide +kernel
theorem dX12_tries_25 : decode cX12_tries 25 = .ok (.iload 5, 2) := by decide +kernel
theorem dX12_tries_27 : decode cX12_tries 27 = .ok (.putfield 300, 3) := by decide +kernel
theorem dX12_tries_30 : decode cX12_tries 30 = .ok (.iconst 0, 1) := by decide +kernel
theorem dX12_tries_31 : decode cX12_tries 31 = .ok (.istore 6, 2) := by decide +kernel
theorem dX12_tries_33 : decode cX12_tries 33 = .ok (.iload 6, 2) := by decide +kernel
theorem dX12_tries_35 : decode cX12_tries 35 = .ok (.iload 4, 2) := by decide +kernel
theorem dX12_tries_37 : decode cX12_tries 37 = .ok (.if_icmp .ge 23, 3) := by decide +kernel
theorem dX12_tries_40 : decode cX12_tries 40 = .ok (.aload_n 0, 1) := by decide +kernel
theorem dX12_tries_41 : decode cX12_tries 41 = .ok (.getfield 53, 3) := by decide +kernel
theorem dX12_tries_44 : decode cX12_tries 44 = .ok (.iload 6, 2) := by decide +kernel
theorem dX12_tries_46 : decode cX12_tries 46 = .ok (.aload_n 0, 1) := by decide +kernel
theorem dX12_tries_47 : decode cX12_tries 47 = .ok (.getfield 50, 3) := by decide +kernel
theorem dX12_tries_50 : decode cX12_tries 50 = .ok (.iload 6, 2) := by decide +kernel
theorem dX12_tries_52 : decode cX12_tries 52 = .ok (.iaload, 1) := by decide +kernel
theorem dX12_tries_53 : decode cX12_tries 53 = .ok (.iastore, 1) := by decide +kernel
theorem dX12_tries_54 : decode cX12_tries 54 = .ok (.iinc 6 1, 3) := by decide +kernel
theorem dX12_tries_57 : decode cX12_tries 57 = .ok (.goto (-24), 3) := by decide +kernel
theorem dX12_tries_60 : decode cX12_tries 60 = .ok (.return_, 1) := by decide +kernel
theorem dX12_tries_61 : decode cX12_tries 61 = .ok (.aload_n 0, 1) := by decide +kernel
theorem dX12_tries_62 : decode cX12_tries 62 = .ok (.iload 4, 2) := by decide +kernel
theorem dX12_tries_64 : decode cX12_tries 64 = .ok (.invokevirtual 246, 3) := by decide +kernel
theorem dX12_tries_67 : decode cX12_tries 67 = .ok (.iconst 0, 1) := by decide +kernel
theorem dX12_tries_68 : decode cX12_tries 68 = .ok (.istore 5, 2) := by decide +kernel
theorem dX12_tries_70 : decode cX12_tries 70 = .ok (.iload 5, 2) := by decide +kernel
theorem dX12_tries_72 : decode cX12_tries 72 = .ok (.aload_n 0, 1) := by decide +kernel
theorem dX12_tries_73 : decode cX12_tries 73 = .ok (.getfield 7, 3) := by decide +kernel
theorem dX12_tries_76 : decode cX12_tries 76 = .ok (.iconst 1, 1) := by decide +kernel
theorem dX12_tries_77 : decode cX12_tries 77 = .ok (.iaload, 1) := by decide +kernel
theorem dX12_tries_78 : decode cX12_tries 78 = .ok (.if_icmp .ge 66, 3) := by decide +kernel
theorem dX12_tries_81 : decode cX12_tries 81 = .ok (.iload_n 2, 1) := by decide +kernel
theorem dX12_tries_82 : decode cX12_tries 82 = .ok (.iload 5, 2) := by decide +kernel
theorem dX12_tries_84 : decode cX12_tries 84 = .ok (.ishr, 1) := by decide +kernel
theorem dX12_tries_85 : decode cX12_tries 85 = .ok (.iconst 1, 1) := by decide +kernel
theorem dX12_tries_86 : decode cX12_tries 86 = .ok (.iand, 1) := by decide +kernel
theorem dX12_tries_87 : decode cX12_tries 87 = .ok (.ifCond .ne 6, 3) := by decide +kernel
theorem dX12_tries_90 : decode cX12_tries 90 = .ok (.goto 48, 3) := by decide +kernel
theorem dX12_tries_93 : decode cX12_tries 93 = .ok (.aload_n 0, 1) := by decide +kernel
theorem dX12_tries_94 : decode cX12_tries 94 = .ok (.getfield 50, 3) := by decide +kernel
theorem dX12_tries_97 : decode cX12_tries 97 = .ok (.iload 4, 2) := by decide +kernel
theorem dX12_tries_99 : decode cX12_tries 99 = .ok (.iload 5, 2) := by decide +kernel
theorem dX12_tries_101 : decode cX12_tries 101 = .ok (.iastore, 1) := by decide +kernel
theorem dX12_tries_102 : decode cX12_tries 102 = .ok (.aload_n 0, 1) := by decide +kernel
theorem dX12_tries_103 : decode cX12_tries 103 = .ok (.iload 5, 2) := by decide +kernel
theorem dX12_tries_105 : decode cX12_tries 105 = .ok (.iload_n 3, 1) := by decide +kernel
theorem dX12_tries_106 : decode cX12_tries 106 = .ok (.invokevirtual 250, 3) := by decide +kernel
theorem dX12_tries_109 : decode cX12_tries 109 = .ok (.bipush (-2), 2) := by decide +kernel
theorem dX12_tries_111 : decode cX12_tries 111 = .ok (.if_icmp .eq 21, 3) := by decide +kernel
theorem dX12_tries_114 : decode cX12_tries 114 = .ok (.aload_n 0, 1) := by decide +kernel
theorem dX12_tries_115 : decode cX12_tries 115 = .ok (.iload_n 1, 1) := by decide +kernel
theorem dX12_tries_116 : decode cX12_tries 116 = .ok (.iload_n 2, 1) := by decide +kernel
theorem dX12_tries_117 : decode cX12_tries 117 = .ok (.iconst 1, 1) := by decide +kernel
theorem dX12_tries_118 : decode cX12_tries 118 = .ok (.iload 5, 2) := by decide +kernel
theorem dX12_tries_120 : decode cX12_tries 120 = .ok (.ishl, 1) := by decide +kernel
theorem dX12_tries_121 : decode cX12_tries 121 = .ok (.iconst (-1), 1) := by decide +kernel
theorem dX12_tries_122 : decode cX12_tries 122 = .ok (.ixor, 1) := by decide +kernel
theorem dX12_tries_123 : decode cX12_tries 123 = .ok (.iand, 1) := by decide +kernel
theorem dX12_tries_124 : decode cX12_tries 124 = .ok (.iload_n 3, 1) := by decide +kernel
theorem dX12_tries_125 : decode cX12_tries 125 = .ok (.iload 4, 2) := by decide +kernel
theorem dX12_tries_127 : decode cX12_tries 127 = .ok (.iconst 1, 1) := by decide +kernel
theorem dX12_tries_128 : decode cX12_tries 128 = .ok (.iadd, 1) := by decide +kernel
theorem dX12_tries_129 : decode cX12_tries 129 = .ok (.invokevirtual 303, 3) := by decide +kernel
theorem dX12_tries_132 : decode cX12_tries 132 = .ok (.aload_n 0, 1) := by decide +kernel
theorem dX12_tries_133 : decode cX12_tries 133 = .ok (.iload 4, 2) := by decide +kernel
theorem dX12_tries_135 : decode cX12_tries 135 = .ok (.invokevirtual 253, 3) := by decide +kernel
theorem dX12_tries_138 : decode cX12_tries 138 = .ok (.iinc 5 1, 3) := by decide +kernel
theorem dX12_tries_141 : decode cX12_tries 141 = .ok (.goto (-71), 3) := by decide +kernel
theorem dX12_tries_144 : decode cX12_tries 144 = .ok (.return_, 1) := by decide +kernel
def tX12_tries_0 : Nat → Option am_Act := am_nd 24 (am_nd 12 (am_nd 5 (am_nd 1 (am_lf 0 (a_iload 2 1)) (am_nd 4 (am_lf 1 (a_if (fun x => x = nI 0) 4 61)) (am_lf 4 (a_aload 0 5)))) (am_nd 6 (am_lf 5 (a_iload 1 6)) (am_nd 9 (am_lf 6 (a_cvI tT mX12_aloneOf 12 1 9)) (am_lf 9 (a_csI mX12_count 1 12))))) (am_nd 17 (am_nd 14 (am_lf 12 (a_istore 5 14)) (am_nd 16 (am_lf 14 (a_iload 5 16)) (am_lf 16 (a_aload 0 17)))) (am_nd 20 (am_lf 17 (a_get tT 12 30 20)) (am_nd 23 (am_lf 20 (a_cmp (fun x y => y < x) 24 23)) (am_lf 23 (a_ret)))))) (am_nd 35 (am_nd 30 (am_nd 25 (am_lf 24 (a_aload 0 25)) (am_nd 27 (am_lf 25 (a_iload 5 27)) (am_lf 27 (a_put tT 12 30 30)))) (am_nd 31 (am_lf 30 (a_const (nI 0) 31)) (am_nd 33 (am_lf 31 (a_istore 6 33)) (am_lf 33 (a_iload 6 35))))) (am_nd 41 (am_nd 37 (am_lf 35 (a_iload 4 37)) (am_nd 40 (am_lf 37 (a_cmp (fun x y => y ≤ x) 60 40)) (am_lf 40 (a_aload 0 41)))) (am_nd 44 (am_lf 41 (a_get tT 12 29 44)) (am_nd 46 (am_lf 44 (a_iload 6 46)) (am_lf 46 (a_aload 0 47))))))
theorem gX12_tries_0 : am_Good tT mX12_tries tX12_tries_0 := am_nd_ok (am_nd_ok (am_nd_ok (am_nd_ok (am_lf_ok (fun _ => ok_iload_n dX12_tries_0 rfl rfl)) (am_nd_ok (am_lf_ok (fun _ => ok_if_ne dX12_tries_1 rfl rfl)) (am_lf_ok (fun _ => ok_aload_n dX12_tries_4 rfl rfl)))) (am_nd_ok (am_lf_ok (fun _ => ok_iload_n dX12_tries_5 rfl rfl)) (am_nd_ok (am_lf_ok (fun _ => ok_cvI rfl mw_X12_aloneOf (ci := 12) rfl rfl wd_597 wd_598 wd_599 dX12_tries_6 rfl)) (am_lf_ok (fun _ => ok_csI rfl mw_X12_count wd_593 wd_594 dX12_tries_9 rfl))))) (am_nd_ok (am_nd_ok (am_lf_ok (fun _ => ok_istore dX12_tries_12 (Nat.le_of_ble_eq_true rfl) rfl)) (am_nd_ok (am_lf_ok (fun _ => ok_iload dX12_tries_14 rfl)) (am_lf_ok (fun _ => ok_aload_n dX12_tries_16 rfl rfl)))) (am_nd_ok (am_lf_ok (fun _ => ok_get (C := RX12) (TT := TX12) (N := 31) rfl inw_X12 (Nat.le_of_ble_eq_true rfl) wd_621 dX12_tries_17 rfl)) (am_nd_ok (am_lf_ok (fun _ => ok_cmp_gt dX12_tries_20 rfl rfl)) (am_lf_ok (fun _ => ok_ret rfl dX12_tries_23)))))) (am_nd_ok (am_nd_ok (am_nd_ok (am_lf_ok (fun _ => ok_aload_n dX12_tries_24 rfl rfl)) (am_nd_ok (am_lf_ok (fun _ => ok_iload dX12_tries_25 rfl)) (am_lf_ok (fun _ => ok_put (C := RX12) (TT := TX12) (N := 31) (ty0 := tyX12) rfl inw_X12 tyX12_ok nmX12 (Nat.le_of_ble_eq_true rfl) rfl rfl wd_621 dX12_tries_27 rfl)))) (am_nd_ok (am_lf_ok (fun _ => ok_iconst dX12_tries_30 cv_iconst_0 rfl)) (am_nd_ok (am_lf_ok (fun _ => ok_istore dX12_tries_31 (Nat.le_of_ble_eq_true rfl) rfl)) (am_lf_ok (fun _ => ok_iload dX12_tries_33 rfl))))) (am_nd_ok (am_nd_ok (am_lf_ok (fun _ => ok_iload dX12_tries_35 rfl)) (am_nd_ok (am_lf_ok (fun _ => ok_cmp_ge dX12_tries_37 rfl rfl)) (am_lf_ok (fun _ => ok_aload_n dX12_tries_40 rfl rfl)))) (am_nd_ok (am_lf_ok (fun _ => ok_get (C := RX12) (TT := TX12) (N := 31) rfl inw_X12 (Nat.le_of_ble_eq_true rfl) wd_622 dX12_tries_41 rfl)) (am_nd_ok (am_lf_ok (fun _ => ok_iload dX12_tries_44 rfl)) (am_lf_ok (fun _ => ok_aload_n dX12_tries_46 rfl rfl))))))
def tX12_tries_1 : Nat → Option am_Act := am_nd 70 (am_nd 60 (am_nd 53 (am_nd 50 (am_lf 47 (a_get tT 12 28 50)) (am_nd 52 (am_lf 50 (a_iload 6 52)) (am_lf 52 (a_iald tT 53)))) (am_nd 54 (am_lf 53 (a_iast tT 54)) (am_nd 57 (am_lf 54 (a_iinc 6 (nI 1) 57)) (am_lf 57 (a_goto 33))))) (am_nd 64 (am_nd 61 (am_lf 60 (a_ret)) (am_nd 62 (am_lf 61 (a_aload 0 62)) (am_lf 62 (a_iload 4 64)))) (am_nd 67 (am_lf 64 (a_cvV tT mX12_laysAside 12 1 67)) (am_nd 68 (am_lf 67 (a_const (nI 0) 68)) (am_lf 68 (a_istore 5 70)))))) (am_nd 81 (am_nd 76 (am_nd 72 (am_lf 70 (a_iload 5 72)) (am_nd 73 (am_lf 72 (a_aload 0 73)) (am_lf 73 (a_get tT 12 0 76)))) (am_nd 77 (am_lf 76 (a_const (nI 1) 77)) (am_nd 78 (am_lf 77 (a_iald tT 78)) (am_lf 78 (a_cmp (fun x y => y ≤ x) 144 81))))) (am_nd 85 (am_nd 82 (am_lf 81 (a_iload 2 82)) (am_nd 84 (am_lf 82 (a_iload 5 84)) (am_lf 84 (a_bin (fun x y => x >>> (y &&& 31)) 85)))) (am_nd 86 (am_lf 85 (a_const (nI 1) 86)) (am_nd 87 (am_lf 86 (a_bin (fun x y => x &&& y) 87)) (am_lf 87 (a_if (fun x => x = nI 0) 90 93))))))
theorem gX12_tries_1 : am_Good tT mX12_tries tX12_tries_1 := am_nd_ok (am_nd_ok (am_nd_ok (am_nd_ok (am_lf_ok (fun _ => ok_get (C := RX12) (TT := TX12) (N := 31) rfl inw_X12 (Nat.le_of_ble_eq_true rfl) wd_623 dX12_tries_47 rfl)) (am_nd_ok (am_lf_ok (fun _ => ok_iload dX12_tries_50 rfl)) (am_lf_ok (fun _ => ok_iald dX12_tries_52 rfl)))) (am_nd_ok (am_lf_ok (fun _ => ok_iast dX12_tries_53 rfl)) (am_nd_ok (am_lf_ok (fun _ => ok_iinc dX12_tries_54 cv_iconst_1 (Nat.le_of_ble_eq_true rfl) rfl)) (am_lf_ok (fun _ => ok_goto dX12_tries_57 rfl))))) (am_nd_ok (am_nd_ok (am_lf_ok (fun _ => ok_ret rfl dX12_tries_60)) (am_nd_ok (am_lf_ok (fun _ => ok_aload_n dX12_tries_61 rfl rfl)) (am_lf_ok (fun _ => ok_iload dX12_tries_62 rfl)))) (am_nd_ok (am_lf_ok (fun _ => ok_cvV rfl mw_X12_laysAside (ci := 12) rfl rfl wd_572 wd_573 wd_574 dX12_tries_64 rfl)) (am_nd_ok (am_lf_ok (fun _ => ok_iconst dX12_tries_67 cv_iconst_0 rfl)) (am_lf_ok (fun _ => ok_istore dX12_tries_68 (Nat.le_of_ble_eq_true rfl) rfl)))))) (am_nd_ok (am_nd_ok (am_nd_ok (am_lf_ok (fun _ => ok_iload dX12_tries_70 rfl)) (am_nd_ok (am_lf_ok (fun _ => ok_aload_n dX12_tries_72 rfl rfl)) (am_lf_ok (fun _ => ok_get (C := RX12) (TT := TX12) (N := 31) rfl inw_X12 (Nat.le_of_ble_eq_true rfl) wd_448 dX12_tries_73 rfl)))) (am_nd_ok (am_lf_ok (fun _ => ok_iconst dX12_tries_76 cv_iconst_1 rfl)) (am_nd_ok (am_lf_ok (fun _ => ok_iald dX12_tries_77 rfl)) (am_lf_ok (fun _ => ok_cmp_ge dX12_tries_78 rfl rfl))))) (am_nd_ok (am_nd_ok (am_lf_ok (fun _ => ok_iload_n dX12_tries_81 rfl rfl)) (am_nd_ok (am_lf_ok (fun _ => ok_iload dX12_tries_82 rfl)) (am_lf_ok (fun _ => ok_ishr dX12_tries_84 rfl)))) (am_nd_ok (am_lf_ok (fun _ => ok_iconst dX12_tries_85 cv_iconst_1 rfl)) (am_nd_ok (am_lf_ok (fun _ => ok_iand dX12_tries_86 rfl)) (am_lf_ok (fun _ => ok_if_ne dX12_tries_87 rfl rfl))))))
def tX12_tries_2 : Nat → Option am_Act := am_nd 114 (am_nd 102 (am_nd 97 (am_nd 93 (am_lf 90 (a_goto 138)) (am_nd 94 (am_lf 93 (a_aload 0 94)) (am_lf 94 (a_get tT 12 28 97)))) (am_nd 99 (am_lf 97 (a_iload 4 99)) (am_nd 101 (am_lf 99 (a_iload 5 101)) (am_lf 101 (a_iast tT 102))))) (am_nd 106 (am_nd 103 (am_lf 102 (a_aload 0 103)) (am_nd 105 (am_lf 103 (a_iload 5 105)) (am_lf 105 (a_iload 3 106)))) (am_nd 109 (am_lf 106 (a_cvI tT mX12_crosses 12 2 109)) (am_nd 111 (am_lf 109 (a_const (-2) 111)) (am_lf 111 (a_cmp (fun x y => x = y) 132 114)))))) (am_nd 121 (am_nd 117 (am_nd 115 (am_lf 114 (a_aload 0 115)) (am_nd 116 (am_lf 115 (a_iload 1 116)) (am_lf 116 (a_iload 2 117)))) (am_nd 118 (am_lf 117 (a_const (nI 1) 118)) (am_nd 120 (am_lf 118 (a_iload 5 120)) (am_lf 120 (a_bin (fun x y => x <<< (y &&& 31)) 121))))) (am_nd 124 (am_nd 122 (am_lf 121 (a_const (-1) 122)) (am_nd 123 (am_lf 122 (a_bin (fun x y => x ^^^ y) 123)) (am_lf 123 (a_bin (fun x y => x &&& y) 124)))) (am_nd 125 (am_lf 124 (a_iload 3 125)) (am_nd 127 (am_lf 125 (a_iload 4 127)) (am_lf 127 (a_const (nI 1) 128))))))
theorem gX12_tries_2 : am_Good tT mX12_tries tX12_tries_2 := am_nd_ok (am_nd_ok (am_nd_ok (am_nd_ok (am_lf_ok (fun _ => ok_goto dX12_tries_90 rfl)) (am_nd_ok (am_lf_ok (fun _ => ok_aload_n dX12_tries_93 rfl rfl)) (am_lf_ok (fun _ => ok_get (C := RX12) (TT := TX12) (N := 31) rfl inw_X12 (Nat.le_of_ble_eq_true rfl) wd_623 dX12_tries_94 rfl)))) (am_nd_ok (am_lf_ok (fun _ => ok_iload dX12_tries_97 rfl)) (am_nd_ok (am_lf_ok (fun _ => ok_iload dX12_tries_99 rfl)) (am_lf_ok (fun _ => ok_iast dX12_tries_101 rfl))))) (am_nd_ok (am_nd_ok (am_lf_ok (fun _ => ok_aload_n dX12_tries_102 rfl rfl)) (am_nd_ok (am_lf_ok (fun _ => ok_iload dX12_tries_103 rfl)) (am_lf_ok (fun _ => ok_iload_n dX12_tries_105 rfl rfl)))) (am_nd_ok (am_lf_ok (fun _ => ok_cvI rfl mw_X12_crosses (ci := 12) rfl rfl wd_575 wd_576 wd_577 dX12_tries_106 rfl)) (am_nd_ok (am_lf_ok (fun _ => ok_bipush dX12_tries_109 cv_bipush_m2 rfl)) (am_lf_ok (fun _ => ok_cmp_eq dX12_tries_111 rfl rfl)))))) (am_nd_ok (am_nd_ok (am_nd_ok (am_lf_ok (fun _ => ok_aload_n dX12_tries_114 rfl rfl)) (am_nd_ok (am_lf_ok (fun _ => ok_iload_n dX12_tries_115 rfl rfl)) (am_lf_ok (fun _ => ok_iload_n dX12_tries_116 rfl rfl)))) (am_nd_ok (am_lf_ok (fun _ => ok_iconst dX12_tries_117 cv_iconst_1 rfl)) (am_nd_ok (am_lf_ok (fun _ => ok_iload dX12_tries_118 rfl)) (am_lf_ok (fun _ => ok_ishl dX12_tries_120 rfl))))) (am_nd_ok (am_nd_ok (am_lf_ok (fun _ => ok_iconst dX12_tries_121 cv_iconst_m1 rfl)) (am_nd_ok (am_lf_ok (fun _ => ok_ixor dX12_tries_122 rfl)) (am_lf_ok (fun _ => ok_iand dX12_tries_123 rfl)))) (am_nd_ok (am_lf_ok (fun _ => ok_iload_n dX12_tries_124 rfl rfl)) (am_nd_ok (am_lf_ok (fun _ => ok_iload dX12_tries_125 rfl)) (am_lf_ok (fun _ => ok_iconst dX12_tries_127 cv_iconst_1 rfl))))))
def tX12_tries_3 : Nat → Option am_Act := am_nd 135 (am_nd 132 (am_nd 129 (am_lf 128 (a_bin (fun x y => x + y) 129)) (am_lf 129 (a_cvV tT mX12_tries 12 4 132))) (am_nd 133 (am_lf 132 (a_aload 0 133)) (am_lf 133 (a_iload 4 135)))) (am_nd 141 (am_nd 138 (am_lf 135 (a_cvV tT mX12_putsBack 12 1 138)) (am_lf 138 (a_iinc 5 (nI 1) 141))) (am_nd 144 (am_lf 141 (a_goto 70)) (am_lf 144 (a_ret))))
theorem gX12_tries_3 : am_Good tT mX12_tries tX12_tries_3 := am_nd_ok (am_nd_ok (am_nd_ok (am_lf_ok (fun _ => ok_iadd dX12_tries_128 rfl)) (am_lf_ok (fun _ => ok_cvV rfl mw_X12_tries (ci := 12) rfl rfl wd_624 wd_625 wd_626 dX12_tries_129 rfl))) (am_nd_ok (am_lf_ok (fun _ => ok_aload_n dX12_tries_132 rfl rfl)) (am_lf_ok (fun _ => ok_iload dX12_tries_133 rfl)))) (am_nd_ok (am_nd_ok (am_lf_ok (fun _ => ok_cvV rfl mw_X12_putsBack (ci := 12) rfl rfl wd_578 wd_579 wd_580 dX12_tries_135 rfl)) (am_lf_ok (fun _ => ok_iinc dX12_tries_138 cv_iconst_1 (Nat.le_of_ble_eq_true rfl) rfl))) (am_nd_ok (am_lf_ok (fun _ => ok_goto dX12_tries_141 rfl)) (am_lf_ok (fun _ => ok_ret rfl dX12_tries_144))))
def tX12_tries : Nat → Option am_Act := am_nd 90 (am_nd 47 (tX12_tries_0) (tX12_tries_1)) (am_nd 128 (tX12_tries_2) (tX12_tries_3))
theorem gX12_tries : am_Good tT mX12_tries tX12_tries := am_nd_ok (am_nd_ok (gX12_tries_0) (gX12_tries_1)) (am_nd_ok (gX12_tries_2) (gX12_tries_3))
theorem dX12_order_0 : decode cX12_order 0 = .ok (.aload_n 0, 1) := by decide +kernel
theorem dX12_order_1 : decode cX12_order 1 = .ok (.iload_n 2, 1) := by decide +kernel
theorem dX12_order_2 : decode cX12_order 2 = .ok (.invokevirtual 243, 3) := by decide +kernel
theorem dX12_order_5 : decode cX12_order 5 = .ok (.ifCond .eq 50, 3) := by decide +kernel
theorem dX12_order_8 : decode cX12_order 8 = .ok (.iload_n 1, 1) := by decide +kernel
theorem dX12_order_9 : decode cX12_order 9 = .ok (.iconst 1, 1) := by decide +kernel
theorem dX12_order_10 : decode cX12_order 10 = .ok (.iconst 1, 1) := by decide +kernel
theorem dX12_order_11 : decode cX12_order 11 = .ok (.aload_n 0, 1) := by decide +kernel
theorem dX12_order_12 : decode cX12_order 12 = .ok (.getfield 7, 3) := by decide +kernel
theorem dX12_order_15 : decode cX12_order 15 = .ok (.iconst 1, 1) := by decide +kernel
theorem dX12_order_16 : decode cX12_order 16 = .ok (.iaload, 1) := by decide +kernel
theorem dX12_order_17 : decode cX12_order 17 = .ok (.ishl, 1) := by decide +kernel
theorem dX12_order_18 : decode cX12_order 18 = .ok (.iconst 1, 1) := by decide +kernel
theorem dX12_order_19 : decode cX12_order 19 = .ok (.isub, 1) := by decide +kernel
theorem dX12_order_20 : decode cX12_order 20 = .ok (.invokestatic 56, 3) := by decide +kernel
theorem dX12_order_23 : decode cX12_order 23 = .ok (.ifCond .eq 32, 3) := by decide +kernel
theorem dX12_order_26 : decode cX12_order 26 = .ok (.iload_n 1, 1) := by decide +kernel
theorem dX12_order_27 : decode cX12_order 27 = .ok (.invokestatic 268, 3) := by decide +kernel
theorem dX12_order_30 : decode cX12_order 30 = .ok (.bipush 6, 2) := by decide +kernel
theorem dX12_order_32 : decode cX12_order 32 = .ok (.if_icmp .gt 23, 3) := by decide +kernel
theorem dX12_order_35 : decode cX12_order 35 = .ok (.iload_n 3, 1) := by decide +kernel
theorem dX12_order_36 : decode cX12_order 36 = .ok (.ifCond .eq 21, 3) := by decide +kernel
theorem dX12_order_39 : decode cX12_order 39 = .ok (.iload_n 3, 1) := by decide +kernel
theorem dX12_order_40 : decode cX12_order 40 = .ok (.bipush 10, 2) := by decide +kernel
theorem dX12_order_42 : decode cX12_order 42 = .ok (.bipush 9, 2) := by decide +kernel
theorem dX12_order_44 : decode cX12_order 44 = .ok (.iload_n 1, 1) := by decide +kernel
theorem dX12_order_45 : decode cX12_order 45 = .ok (.invokestatic 268, 3) := by decide +kernel
theorem dX12_order_48 : decode cX12_order 48 = .ok (.iadd, 1) := by decide +kernel
theorem dX12_order_49 : decode cX12_order 49 = .ok (.invokestatic 56, 3) := by decide +kernel
theorem dX12_order_52 : decode cX12_order 52 = .ok (.ifCond .ne 5, 3) := by decide +kernel
theorem dX12_order_55 : decode cX12_order 55 = .ok (.iconst (-1), 1) := by decide +kernel
theorem dX12_order_56 : decode cX12_order 56 = .ok (.ireturn, 1) := by decide +kernel
theorem dX12_order_57 : decode cX12_order 57 = .ok (.iconst (-1), 1) := by decide +kernel
theorem dX12_order_58 : decode cX12_order 58 = .ok (.istore 4, 2) := by decide +kernel
theorem dX12_order_60 : decode cX12_order 60 = .ok (.aload_n 0, 1) := by decide +kernel
theorem dX12_order_61 : decode cX12_order 61 = .ok (.getfield 7, 3) := by decide +kernel
theorem dX12_order_64 : decode cX12_order 64 = .ok (.iconst 1, 1) := by decide +kernel
theorem dX12_order_65 : decode cX12_order 65 = .ok (.iaload, 1) := by decide +kernel
theorem dX12_order_66 : decode cX12_order 66 = .ok (.iconst 1, 1) := by decide +kernel
theorem dX12_order_67 : decode cX12_order 67 = .ok (.isub, 1) := by decide +kernel
theorem dX12_order_68 : decode cX12_order 68 = .ok (.istore 5, 2) := by decide +kernel
theorem dX12_order_70 : decode cX12_order 70 = .ok (.iload 5, 2) := by decide +kernel
theorem dX12_order_72 : decode cX12_order 72 = .ok (.ifCond .lt 33, 3) := by decide +kernel
theorem dX12_order_75 : decode cX12_order 75 = .ok (.iload_n 1, 1) := by decide +kernel
theorem dX12_order_76 : decode cX12_order 76 = .ok (.iload 5, 2) := by decide +kernel
theorem dX12_order_78 : decode cX12_order 78 = .ok (.ishr, 1) := by decide +kernel
theorem dX12_order_79 : decode cX12_order 79 = .ok (.iconst 1, 1) := by decide +kernel
theorem dX12_order_80 : decode cX12_order 80 = .ok (.iand, 1) := by decide +kernel
theorem dX12_order_81 : decode cX12_order 81 = .ok (.iconst 1, 1) := by decide +kernel
theorem dX12_order_82 : decode cX12_order 82 = .ok (.if_icmp .ne 13, 3) := by decide +kernel
theorem dX12_order_85 : decode cX12_order 85 = .ok (.aload_n 0, 1) := by decide +kernel
theorem dX12_order_86 : decode cX12_order 86 = .ok (.iload 5, 2) := by decide +kernel
theorem dX12_order_88 : decode cX12_order 88 = .ok (.iconst 0, 1) := by decide +kernel
theorem dX12_order_89 : decode cX12_order 89 = .ok (.invokevirtual 76, 3) := by decide +kernel
theorem dX12_order_92 : decode cX12_order 92 = .ok (.goto 5, 3) := by decide +kernel
theorem dX12_order_95 : decode cX12_order 95 = .ok (.iload 4, 2) := by decide +kernel
theorem dX12_order_97 : decode cX12_order 97 = .ok (.istore 4, 2) := by decide +kernel
theorem dX12_order_99 : decode cX12_order 99 = .ok (.iinc 5 (-1), 3) := by decide +kernel
theorem dX12_order_102 : decode cX12_order 102 = .ok (.goto (-32), 3) := by decide +kernel
theorem dX12_order_105 : decode cX12_order 105 = .ok (.iconst 0, 1) := by decide +kernel
theorem dX12_order_106 : decode cX12_order 106 = .ok (.istore 5, 2) := by decide +kernel
theorem dX12_order_108 : decode cX12_order 108 = .ok (.iload 5, 2) := by decide +kernel
theorem dX12_order_110 : decode cX12_order 110 = .ok (.aload_n 0, 1) := by decide +kernel
theorem dX12_order_111 : decode cX12_order 111 = .ok (.getfield 7, 3) := by decide +kernel
theorem dX12_order_114 : decode cX12_order 114 = .ok (.iconst 1, 1) := by decide +kernel
theorem dX12_order_115 : decode cX12_order 115 = .ok (.iaload, 1) := by decide +kernel
theorem dX12_order_116 : decode cX12_order 116 = .ok (.if_icmp .ge 33, 3) := by decide +kernel
theorem dX12_order_119 : decode cX12_order 119 = .ok (.iload_n 1, 1) := by decide +kernel
theorem dX12_order_120 : decode cX12_order 120 = .ok (.iload 5, 2) := by decide +kernel
theorem dX12_order_122 : decode cX12_order 122 = .ok (.ishr, 1) := by decide +kernel
theorem dX12_order_123 : decode cX12_order 123 = .ok (.iconst 1, 1) := by decide +kernel
theorem dX12_order_124 : decode cX12_order 124 = .ok (.iand, 1) := by decide +kernel
theorem dX12_order_125 : decode cX12_order 125 = .ok (.iconst 1, 1) := by decide +kernel
theorem dX12_order_126 : decode cX12_order 126 = .ok (.if_icmp .ne 17, 3) := by decide +kernel
theorem dX12_order_129 : decode cX12_order 129 = .ok (.aload_n 0, 1) := by decide +kernel
theorem dX12_order_130 : decode cX12_order 130 = .ok (.iload 5, 2) := by decide +kernel
theorem dX12_order_132 : decode cX12_order 132 = .ok (.iconst 0, 1) := by decide +kernel
theorem dX12_order_133 : decode cX12_order 133 = .ok (.invokevirtual 76, 3) := by decide +kernel
theorem dX12_order_136 : decode cX12_order 136 = .ok (.iload 4, 2) := by decide +kernel
theorem dX12_order_138 : decode cX12_order 138 = .ok (.if_icmp .eq 5, 3) := by decide +kernel
theorem dX12_order_141 : decode cX12_order 141 = .ok (.iconst (-1), 1) := by decide +kernel
theorem dX12_order_142 : decode cX12_order 142 = .ok (.ireturn, 1) := by decide +kernel
theorem dX12_order_143 : decode cX12_order 143 = .ok (.iinc 5 1, 3) := by decide +kernel
theorem dX12_order_146 : decode cX12_order 146 = .ok (.goto (-38), 3) := by decide +kernel
theorem dX12_order_149 : decode cX12_order 149 = .ok (.aload_n 0, 1) := by decide +kernel
theorem dX12_order_150 : decode cX12_order 150 = .ok (.iload_n 2, 1) := by decide +kernel
theorem dX12_order_151 : decode cX12_order 151 = .ok (.iload 4, 2) := by decide +kernel
theorem dX12_order_153 : decode cX12_order 153 = .ok (.invokevirtual 231, 3) := by decide +kernel
theorem dX12_order_156 : decode cX12_order 156 = .ok (.iconst (-1), 1) := by decide +kernel
theorem dX12_order_157 : decode cX12_order 157 = .ok (.if_icmp .ne 5, 3) := by decide +kernel
theorem dX12_order_160 : decode cX12_order 160 = .ok (.iconst (-1), 1) := by decide +kernel
theorem dX12_order_161 : decode cX12_order 161 = .ok (.ireturn, 1) := by decide +kernel
theorem dX12_order_162 : decode cX12_order 162 = .ok (.aload_n 0, 1) := by decide +kernel
theorem dX12_order_163 : decode cX12_order 163 = .ok (.iconst (-1), 1) := by decide +kernel
theorem dX12_order_164 : decode cX12_order 164 = .ok (.putfield 300, 3) := by decide +kernel
theorem dX12_order_167 : decode cX12_order 167 = .ok (.aload_n 0, 1) := by decide +kernel
theorem dX12_order_168 : decode cX12_order 168 = .ok (.iload_n 1, 1) := by decide +kernel
theorem dX12_order_169 : decode cX12_order 169 = .ok (.iload_n 1, 1) := by decide +kernel
theorem dX12_order_170 : decode cX12_order 170 = .ok (.iload_n 2, 1) := by decide +kernel
theorem dX12_order_171 : decode cX12_order 171 = .ok (.iconst 0, 1) := by decide +kernel
theorem dX12_order_172 : decode cX12_order 172 = .ok (.invokevirtual 303, 3) := by decide +kernel
theorem dX12_order_175 : decode cX12_order 175 = .ok (.aload_n 0, 1) := by decide +kernel
theorem dX12_order_176 : decode cX12_order 176 = .ok (.getfield 300, 3) := by decide +kernel
theorem dX12_order_179 : decode cX12_order 179 = .ok (.iconst (-1), 1) := by decide +kernel
theorem dX12_order_180 : decode cX12_order 180 = .ok (.if_icmp .eq 7, 3) := by decide +kernel
theorem dX12_order_183 : decode cX12_order 183 = .ok (.iload_n 3, 1) := by decide +kernel
theorem dX12_order_184 : decode cX12_order 184 = .ok (.ifCond .ne 10, 3) := by decide +kernel
theorem dX12_order_187 : decode cX12_order 187 = .ok (.aload_n 0, 1) := by decide +kernel
theorem dX12_order_188 : decode cX12_order 188 = .ok (.getfield 300, 3) := by decide +kernel
theorem dX12_order_191 : decode cX12_order 191 = .ok (.goto 12, 3) := by decide +kernel
theorem dX12_order_194 : decode cX12_order 194 = .ok (.aload_n 0, 1) := by decide +kernel
theorem dX12_order_195 : decode cX12_order 195 = .ok (.getfield 53, 3) := by decide +kernel
theorem dX12_order_198 : decode cX12_order 198 = .ok (.iload_n 3, 1) := by decide +kernel
theorem dX12_order_199 : decode cX12_order 199 = .ok (.bipush 10, 2) := by decide +kernel
theorem dX12_order_201 : decode cX12_order 201 = .ok (.isub, 1) := by decide +kernel
theorem dX12_order_202 : decode cX12_order 202 = .ok (.iaload, 1) := by decide +kernel
theorem dX12_order_203 : decode cX12_order 203 = .ok (.ireturn, 1) := by decide +kernel
def tX12_order_0 : Nat → Option am_Act := am_nd 18 (am_nd 10 (am_nd 5 (am_nd 1 (am_lf 0 (a_aload 0 1)) (am_nd 2 (am_lf 1 (a_iload 2 2)) (am_lf 2 (a_cvI tT mX12_isBridge 12 1 5)))) (am_nd 8 (am_lf 5 (a_if (fun x => x = nI 0) 55 8)) (am_nd 9 (am_lf 8 (a_iload 1 9)) (am_lf 9 (a_const (nI 1) 10))))) (am_nd 15 (am_nd 11 (am_lf 10 (a_const (nI 1) 11)) (am_nd 12 (am_lf 11 (a_aload 0 12)) (am_lf 12 (a_get tT 12 0 15)))) (am_nd 16 (am_lf 15 (a_const (nI 1) 16)) (am_nd 17 (am_lf 16 (a_iald tT 17)) (am_lf 17 (a_bin (fun x y => x <<< (y &&& 31)) 18)))))) (am_nd 30 (am_nd 23 (am_nd 19 (am_lf 18 (a_const (nI 1) 19)) (am_nd 20 (am_lf 19 (a_bin (fun x y => x - y) 20)) (am_lf 20 (a_csI mX12_isIn 3 23)))) (am_nd 26 (am_lf 23 (a_if (fun x => x = nI 0) 55 26)) (am_nd 27 (am_lf 26 (a_iload 1 27)) (am_lf 27 (a_csI mX12_count 1 30))))) (am_nd 36 (am_nd 32 (am_lf 30 (a_const (nI 6) 32)) (am_nd 35 (am_lf 32 (a_cmp (fun x y => y < x) 55 35)) (am_lf 35 (a_iload 3 36)))) (am_nd 39 (am_lf 36 (a_if (fun x => x = nI 0) 57 39)) (am_nd 40 (am_lf 39 (a_iload 3 40)) (am_lf 40 (a_const (nI 10) 42))))))
theorem gX12_order_0 : am_Good tT mX12_order tX12_order_0 := am_nd_ok (am_nd_ok (am_nd_ok (am_nd_ok (am_lf_ok (fun _ => ok_aload_n dX12_order_0 rfl rfl)) (am_nd_ok (am_lf_ok (fun _ => ok_iload_n dX12_order_1 rfl rfl)) (am_lf_ok (fun _ => ok_cvI rfl mw_X12_isBridge (ci := 12) rfl rfl wd_569 wd_570 wd_571 dX12_order_2 rfl)))) (am_nd_ok (am_lf_ok (fun _ => ok_if_eq dX12_order_5 rfl rfl)) (am_nd_ok (am_lf_ok (fun _ => ok_iload_n dX12_order_8 rfl rfl)) (am_lf_ok (fun _ => ok_iconst dX12_order_9 cv_iconst_1 rfl))))) (am_nd_ok (am_nd_ok (am_lf_ok (fun _ => ok_iconst dX12_order_10 cv_iconst_1 rfl)) (am_nd_ok (am_lf_ok (fun _ => ok_aload_n dX12_order_11 rfl rfl)) (am_lf_ok (fun _ => ok_get (C := RX12) (TT := TX12) (N := 31) rfl inw_X12 (Nat.le_of_ble_eq_true rfl) wd_448 dX12_order_12 rfl)))) (am_nd_ok (am_lf_ok (fun _ => ok_iconst dX12_order_15 cv_iconst_1 rfl)) (am_nd_ok (am_lf_ok (fun _ => ok_iald dX12_order_16 rfl)) (am_lf_ok (fun _ => ok_ishl dX12_order_17 rfl)))))) (am_nd_ok (am_nd_ok (am_nd_ok (am_lf_ok (fun _ => ok_iconst dX12_order_18 cv_iconst_1 rfl)) (am_nd_ok (am_lf_ok (fun _ => ok_isub dX12_order_19 rfl)) (am_lf_ok (fun _ => ok_csI rfl mw_X12_isIn wd_449 wd_450 dX12_order_20 rfl)))) (am_nd_ok (am_lf_ok (fun _ => ok_if_eq dX12_order_23 rfl rfl)) (am_nd_ok (am_lf_ok (fun _ => ok_iload_n dX12_order_26 rfl rfl)) (am_lf_ok (fun _ => ok_csI rfl mw_X12_count wd_593 wd_594 dX12_order_27 rfl))))) (am_nd_ok (am_nd_ok (am_lf_ok (fun _ => ok_bipush dX12_order_30 cv_bipush_6 rfl)) (am_nd_ok (am_lf_ok (fun _ => ok_cmp_gt dX12_order_32 rfl rfl)) (am_lf_ok (fun _ => ok_iload_n dX12_order_35 rfl rfl)))) (am_nd_ok (am_lf_ok (fun _ => ok_if_eq dX12_order_36 rfl rfl)) (am_nd_ok (am_lf_ok (fun _ => ok_iload_n dX12_order_39 rfl rfl)) (am_lf_ok (fun _ => ok_bipush dX12_order_40 cv_bipush_10 rfl))))))
def tX12_order_1 : Nat → Option am_Act := am_nd 64 (am_nd 55 (am_nd 48 (am_nd 44 (am_lf 42 (a_const (nI 9) 44)) (am_nd 45 (am_lf 44 (a_iload 1 45)) (am_lf 45 (a_csI mX12_count 1 48)))) (am_nd 49 (am_lf 48 (a_bin (fun x y => x + y) 49)) (am_nd 52 (am_lf 49 (a_csI mX12_isIn 3 52)) (am_lf 52 (a_if (fun x => x = nI 0) 55 57))))) (am_nd 58 (am_nd 56 (am_lf 55 (a_const (-1) 56)) (am_nd 57 (am_lf 56 (a_iret)) (am_lf 57 (a_const (-1) 58)))) (am_nd 60 (am_lf 58 (a_istore 4 60)) (am_nd 61 (am_lf 60 (a_aload 0 61)) (am_lf 61 (a_get tT 12 0 64)))))) (am_nd 72 (am_nd 67 (am_nd 65 (am_lf 64 (a_const (nI 1) 65)) (am_nd 66 (am_lf 65 (a_iald tT 66)) (am_lf 66 (a_const (nI 1) 67)))) (am_nd 68 (am_lf 67 (a_bin (fun x y => x - y) 68)) (am_nd 70 (am_lf 68 (a_istore 5 70)) (am_lf 70 (a_iload 5 72))))) (am_nd 78 (am_nd 75 (am_lf 72 (a_if (fun x => x < nI 0) 105 75)) (am_nd 76 (am_lf 75 (a_iload 1 76)) (am_lf 76 (a_iload 5 78)))) (am_nd 79 (am_lf 78 (a_bin (fun x y => x >>> (y &&& 31)) 79)) (am_nd 80 (am_lf 79 (a_const (nI 1) 80)) (am_lf 80 (a_bin (fun x y => x &&& y) 81))))))
theorem gX12_order_1 : am_Good tT mX12_order tX12_order_1 := am_nd_ok (am_nd_ok (am_nd_ok (am_nd_ok (am_lf_ok (fun _ => ok_bipush dX12_order_42 cv_bipush_9 rfl)) (am_nd_ok (am_lf_ok (fun _ => ok_iload_n dX12_order_44 rfl rfl)) (am_lf_ok (fun _ => ok_csI rfl mw_X12_count wd_593 wd_594 dX12_order_45 rfl)))) (am_nd_ok (am_lf_ok (fun _ => ok_iadd dX12_order_48 rfl)) (am_nd_ok (am_lf_ok (fun _ => ok_csI rfl mw_X12_isIn wd_449 wd_450 dX12_order_49 rfl)) (am_lf_ok (fun _ => ok_if_ne dX12_order_52 rfl rfl))))) (am_nd_ok (am_nd_ok (am_lf_ok (fun _ => ok_iconst dX12_order_55 cv_iconst_m1 rfl)) (am_nd_ok (am_lf_ok (fun _ => ok_iret rfl dX12_order_56)) (am_lf_ok (fun _ => ok_iconst dX12_order_57 cv_iconst_m1 rfl)))) (am_nd_ok (am_lf_ok (fun _ => ok_istore dX12_order_58 (Nat.le_of_ble_eq_true rfl) rfl)) (am_nd_ok (am_lf_ok (fun _ => ok_aload_n dX12_order_60 rfl rfl)) (am_lf_ok (fun _ => ok_get (C := RX12) (TT := TX12) (N := 31) rfl inw_X12 (Nat.le_of_ble_eq_true rfl) wd_448 dX12_order_61 rfl)))))) (am_nd_ok (am_nd_ok (am_nd_ok (am_lf_ok (fun _ => ok_iconst dX12_order_64 cv_iconst_1 rfl)) (am_nd_ok (am_lf_ok (fun _ => ok_iald dX12_order_65 rfl)) (am_lf_ok (fun _ => ok_iconst dX12_order_66 cv_iconst_1 rfl)))) (am_nd_ok (am_lf_ok (fun _ => ok_isub dX12_order_67 rfl)) (am_nd_ok (am_lf_ok (fun _ => ok_istore dX12_order_68 (Nat.le_of_ble_eq_true rfl) rfl)) (am_lf_ok (fun _ => ok_iload dX12_order_70 rfl))))) (am_nd_ok (am_nd_ok (am_lf_ok (fun _ => ok_if_lt dX12_order_72 rfl rfl)) (am_nd_ok (am_lf_ok (fun _ => ok_iload_n dX12_order_75 rfl rfl)) (am_lf_ok (fun _ => ok_iload dX12_order_76 rfl)))) (am_nd_ok (am_lf_ok (fun _ => ok_ishr dX12_order_78 rfl)) (am_nd_ok (am_lf_ok (fun _ => ok_iconst dX12_order_79 cv_iconst_1 rfl)) (am_lf_ok (fun _ => ok_iand dX12_order_80 rfl))))))
def tX12_order_2 : Nat → Option am_Act := am_nd 106 (am_nd 92 (am_nd 86 (am_nd 82 (am_lf 81 (a_const (nI 1) 82)) (am_nd 85 (am_lf 82 (a_cmp (fun x y => x = y) 85 95)) (am_lf 85 (a_aload 0 86)))) (am_nd 88 (am_lf 86 (a_iload 5 88)) (am_nd 89 (am_lf 88 (a_const (nI 0) 89)) (am_lf 89 (a_cvI tT mX12_own 12 2 92))))) (am_nd 99 (am_nd 95 (am_lf 92 (a_goto 97)) (am_nd 97 (am_lf 95 (a_iload 4 97)) (am_lf 97 (a_istore 4 99)))) (am_nd 102 (am_lf 99 (a_iinc 5 (-1) 102)) (am_nd 105 (am_lf 102 (a_goto 70)) (am_lf 105 (a_const (nI 0) 106)))))) (am_nd 116 (am_nd 111 (am_nd 108 (am_lf 106 (a_istore 5 108)) (am_nd 110 (am_lf 108 (a_iload 5 110)) (am_lf 110 (a_aload 0 111)))) (am_nd 114 (am_lf 111 (a_get tT 12 0 114)) (am_nd 115 (am_lf 114 (a_const (nI 1) 115)) (am_lf 115 (a_iald tT 116))))) (am_nd 122 (am_nd 119 (am_lf 116 (a_cmp (fun x y => y ≤ x) 149 119)) (am_nd 120 (am_lf 119 (a_iload 1 120)) (am_lf 120 (a_iload 5 122)))) (am_nd 123 (am_lf 122 (a_bin (fun x y => x >>> (y &&& 31)) 123)) (am_nd 124 (am_lf 123 (a_const (nI 1) 124)) (am_lf 124 (a_bin (fun x y => x &&& y) 125))))))
theorem gX12_order_2 : am_Good tT mX12_order tX12_order_2 := am_nd_ok (am_nd_ok (am_nd_ok (am_nd_ok (am_lf_ok (fun _ => ok_iconst dX12_order_81 cv_iconst_1 rfl)) (am_nd_ok (am_lf_ok (fun _ => ok_cmp_ne dX12_order_82 rfl rfl)) (am_lf_ok (fun _ => ok_aload_n dX12_order_85 rfl rfl)))) (am_nd_ok (am_lf_ok (fun _ => ok_iload dX12_order_86 rfl)) (am_nd_ok (am_lf_ok (fun _ => ok_iconst dX12_order_88 cv_iconst_0 rfl)) (am_lf_ok (fun _ => ok_cvI rfl mw_X12_own (ci := 12) rfl rfl wd_462 wd_463 wd_464 dX12_order_89 rfl))))) (am_nd_ok (am_nd_ok (am_lf_ok (fun _ => ok_goto dX12_order_92 rfl)) (am_nd_ok (am_lf_ok (fun _ => ok_iload dX12_order_95 rfl)) (am_lf_ok (fun _ => ok_istore dX12_order_97 (Nat.le_of_ble_eq_true rfl) rfl)))) (am_nd_ok (am_lf_ok (fun _ => ok_iinc dX12_order_99 cv_iconst_m1 (Nat.le_of_ble_eq_true rfl) rfl)) (am_nd_ok (am_lf_ok (fun _ => ok_goto dX12_order_102 rfl)) (am_lf_ok (fun _ => ok_iconst dX12_order_105 cv_iconst_0 rfl)))))) (am_nd_ok (am_nd_ok (am_nd_ok (am_lf_ok (fun _ => ok_istore dX12_order_106 (Nat.le_of_ble_eq_true rfl) rfl)) (am_nd_ok (am_lf_ok (fun _ => ok_iload dX12_order_108 rfl)) (am_lf_ok (fun _ => ok_aload_n dX12_order_110 rfl rfl)))) (am_nd_ok (am_lf_ok (fun _ => ok_get (C := RX12) (TT := TX12) (N := 31) rfl inw_X12 (Nat.le_of_ble_eq_true rfl) wd_448 dX12_order_111 rfl)) (am_nd_ok (am_lf_ok (fun _ => ok_iconst dX12_order_114 cv_iconst_1 rfl)) (am_lf_ok (fun _ => ok_iald dX12_order_115 rfl))))) (am_nd_ok (am_nd_ok (am_lf_ok (fun _ => ok_cmp_ge dX12_order_116 rfl rfl)) (am_nd_ok (am_lf_ok (fun _ => ok_iload_n dX12_order_119 rfl rfl)) (am_lf_ok (fun _ => ok_iload dX12_order_120 rfl)))) (am_nd_ok (am_lf_ok (fun _ => ok_ishr dX12_order_122 rfl)) (am_nd_ok (am_lf_ok (fun _ => ok_iconst dX12_order_123 cv_iconst_1 rfl)) (am_lf_ok (fun _ => ok_iand dX12_order_124 rfl))))))
def tX12_order_3 : Nat → Option am_Act := am_nd 149 (am_nd 136 (am_nd 130 (am_nd 126 (am_lf 125 (a_const (nI 1) 126)) (am_nd 129 (am_lf 126 (a_cmp (fun x y => x = y) 129 143)) (am_lf 129 (a_aload 0 130)))) (am_nd 132 (am_lf 130 (a_iload 5 132)) (am_nd 133 (am_lf 132 (a_const (nI 0) 133)) (am_lf 133 (a_cvI tT mX12_own 12 2 136))))) (am_nd 142 (am_nd 138 (am_lf 136 (a_iload 4 138)) (am_nd 141 (am_lf 138 (a_cmp (fun x y => x = y) 143 141)) (am_lf 141 (a_const (-1) 142)))) (am_nd 143 (am_lf 142 (a_iret)) (am_nd 146 (am_lf 143 (a_iinc 5 (nI 1) 146)) (am_lf 146 (a_goto 108)))))) (am_nd 160 (am_nd 153 (am_nd 150 (am_lf 149 (a_aload 0 150)) (am_nd 151 (am_lf 150 (a_iload 2 151)) (am_lf 151 (a_iload 4 153)))) (am_nd 156 (am_lf 153 (a_cvI tT mX12_otherEnd 12 2 156)) (am_nd 157 (am_lf 156 (a_const (-1) 157)) (am_lf 157 (a_cmp (fun x y => x = y) 160 162))))) (am_nd 163 (am_nd 161 (am_lf 160 (a_const (-1) 161)) (am_nd 162 (am_lf 161 (a_iret)) (am_lf 162 (a_aload 0 163)))) (am_nd 164 (am_lf 163 (a_const (-1) 164)) (am_nd 167 (am_lf 164 (a_put tT 12 30 167)) (am_lf 167 (a_aload 0 168))))))
theorem gX12_order_3 : am_Good tT mX12_order tX12_order_3 := am_nd_ok (am_nd_ok (am_nd_ok (am_nd_ok (am_lf_ok (fun _ => ok_iconst dX12_order_125 cv_iconst_1 rfl)) (am_nd_ok (am_lf_ok (fun _ => ok_cmp_ne dX12_order_126 rfl rfl)) (am_lf_ok (fun _ => ok_aload_n dX12_order_129 rfl rfl)))) (am_nd_ok (am_lf_ok (fun _ => ok_iload dX12_order_130 rfl)) (am_nd_ok (am_lf_ok (fun _ => ok_iconst dX12_order_132 cv_iconst_0 rfl)) (am_lf_ok (fun _ => ok_cvI rfl mw_X12_own (ci := 12) rfl rfl wd_462 wd_463 wd_464 dX12_order_133 rfl))))) (am_nd_ok (am_nd_ok (am_lf_ok (fun _ => ok_iload dX12_order_136 rfl)) (am_nd_ok (am_lf_ok (fun _ => ok_cmp_eq dX12_order_138 rfl rfl)) (am_lf_ok (fun _ => ok_iconst dX12_order_141 cv_iconst_m1 rfl)))) (am_nd_ok (am_lf_ok (fun _ => ok_iret rfl dX12_order_142)) (am_nd_ok (am_lf_ok (fun _ => ok_iinc dX12_order_143 cv_iconst_1 (Nat.le_of_ble_eq_true rfl) rfl)) (am_lf_ok (fun _ => ok_goto dX12_order_146 rfl)))))) (am_nd_ok (am_nd_ok (am_nd_ok (am_lf_ok (fun _ => ok_aload_n dX12_order_149 rfl rfl)) (am_nd_ok (am_lf_ok (fun _ => ok_iload_n dX12_order_150 rfl rfl)) (am_lf_ok (fun _ => ok_iload dX12_order_151 rfl)))) (am_nd_ok (am_lf_ok (fun _ => ok_cvI rfl mw_X12_otherEnd (ci := 12) rfl rfl wd_556 wd_557 wd_558 dX12_order_153 rfl)) (am_nd_ok (am_lf_ok (fun _ => ok_iconst dX12_order_156 cv_iconst_m1 rfl)) (am_lf_ok (fun _ => ok_cmp_ne dX12_order_157 rfl rfl))))) (am_nd_ok (am_nd_ok (am_lf_ok (fun _ => ok_iconst dX12_order_160 cv_iconst_m1 rfl)) (am_nd_ok (am_lf_ok (fun _ => ok_iret rfl dX12_order_161)) (am_lf_ok (fun _ => ok_aload_n dX12_order_162 rfl rfl)))) (am_nd_ok (am_lf_ok (fun _ => ok_iconst dX12_order_163 cv_iconst_m1 rfl)) (am_nd_ok (am_lf_ok (fun _ => ok_put (C := RX12) (TT := TX12) (N := 31) (ty0 := tyX12) rfl inw_X12 tyX12_ok nmX12 (Nat.le_of_ble_eq_true rfl) rfl rfl wd_621 dX12_order_164 rfl)) (am_lf_ok (fun _ => ok_aload_n dX12_order_167 rfl rfl))))))
def tX12_order_4 : Nat → Option am_Act := am_nd 184 (am_nd 175 (am_nd 170 (am_nd 169 (am_lf 168 (a_iload 1 169)) (am_lf 169 (a_iload 1 170))) (am_nd 171 (am_lf 170 (a_iload 2 171)) (am_nd 172 (am_lf 171 (a_const (nI 0) 172)) (am_lf 172 (a_cvV tT mX12_tries 12 4 175))))) (am_nd 179 (am_nd 176 (am_lf 175 (a_aload 0 176)) (am_lf 176 (a_get tT 12 30 179))) (am_nd 180 (am_lf 179 (a_const (-1) 180)) (am_nd 183 (am_lf 180 (a_cmp (fun x y => x = y) 187 183)) (am_lf 183 (a_iload 3 184)))))) (am_nd 195 (am_nd 188 (am_nd 187 (am_lf 184 (a_if (fun x => x = nI 0) 187 194)) (am_lf 187 (a_aload 0 188))) (am_nd 191 (am_lf 188 (a_get tT 12 30 191)) (am_nd 194 (am_lf 191 (a_goto 203)) (am_lf 194 (a_aload 0 195))))) (am_nd 201 (am_nd 198 (am_lf 195 (a_get tT 12 29 198)) (am_nd 199 (am_lf 198 (a_iload 3 199)) (am_lf 199 (a_const (nI 10) 201)))) (am_nd 202 (am_lf 201 (a_bin (fun x y => x - y) 202)) (am_nd 203 (am_lf 202 (a_iald tT 203)) (am_lf 203 (a_iret))))))
theorem gX12_order_4 : am_Good tT mX12_order tX12_order_4 := am_nd_ok (am_nd_ok (am_nd_ok (am_nd_ok (am_lf_ok (fun _ => ok_iload_n dX12_order_168 rfl rfl)) (am_lf_ok (fun _ => ok_iload_n dX12_order_169 rfl rfl))) (am_nd_ok (am_lf_ok (fun _ => ok_iload_n dX12_order_170 rfl rfl)) (am_nd_ok (am_lf_ok (fun _ => ok_iconst dX12_order_171 cv_iconst_0 rfl)) (am_lf_ok (fun _ => ok_cvV rfl mw_X12_tries (ci := 12) rfl rfl wd_624 wd_625 wd_626 dX12_order_172 rfl))))) (am_nd_ok (am_nd_ok (am_lf_ok (fun _ => ok_aload_n dX12_order_175 rfl rfl)) (am_lf_ok (fun _ => ok_get (C := RX12) (TT := TX12) (N := 31) rfl inw_X12 (Nat.le_of_ble_eq_true rfl) wd_621 dX12_order_176 rfl))) (am_nd_ok (am_lf_ok (fun _ => ok_iconst dX12_order_179 cv_iconst_m1 rfl)) (am_nd_ok (am_lf_ok (fun _ => ok_cmp_eq dX12_order_180 rfl rfl)) (am_lf_ok (fun _ => ok_iload_n dX12_order_183 rfl rfl)))))) (am_nd_ok (am_nd_ok (am_nd_ok (am_lf_ok (fun _ => ok_if_ne dX12_order_184 rfl rfl)) (am_lf_ok (fun _ => ok_aload_n dX12_order_187 rfl rfl))) (am_nd_ok (am_lf_ok (fun _ => ok_get (C := RX12) (TT := TX12) (N := 31) rfl inw_X12 (Nat.le_of_ble_eq_true rfl) wd_621 dX12_order_188 rfl)) (am_nd_ok (am_lf_ok (fun _ => ok_goto dX12_order_191 rfl)) (am_lf_ok (fun _ => ok_aload_n dX12_order_194 rfl rfl))))) (am_nd_ok (am_nd_ok (am_lf_ok (fun _ => ok_get (C := RX12) (TT := TX12) (N := 31) rfl inw_X12 (Nat.le_of_ble_eq_true rfl) wd_622 dX12_order_195 rfl)) (am_nd_ok (am_lf_ok (fun _ => ok_iload_n dX12_order_198 rfl rfl)) (am_lf_ok (fun _ => ok_bipush dX12_order_199 cv_bipush_10 rfl)))) (am_nd_ok (am_lf_ok (fun _ => ok_isub dX12_order_201 rfl)) (am_nd_ok (am_lf_ok (fun _ => ok_iald dX12_order_202 rfl)) (am_lf_ok (fun _ => ok_iret rfl dX12_order_203))))))
def tX12_order : Nat → Option am_Act := am_nd 81 (am_nd 42 (tX12_order_0) (tX12_order_1)) (am_nd 125 (tX12_order_2) (am_nd 168 (tX12_order_3) (tX12_order_4)))
theorem gX12_order : am_Good tT mX12_order tX12_order := am_nd_ok (am_nd_ok (gX12_order_0) (gX12_order_1)) (am_nd_ok (gX12_order_2) (am_nd_ok (gX12_order_3) (gX12_order_4)))
theorem dX12_image_0 : decode cX12_image 0 = .ok (.iload_n 1, 1) := by decide +kernel
theorem dX12_image_1 : decode cX12_image 1 = .ok (.ifCond .ne 12, 3) := by decide +kernel
theorem dX12_image_4 : decode cX12_image 4 = .ok (.aload_n 0, 1) := by decide +kernel
theorem dX12_image_5 : decode cX12_image 5 = .ok (.getfield 307, 3) := by decide +kernel
theorem dX12_image_8 : decode cX12_image 8 = .ok (.ifCond .ne 5, 3) := by decide +kernel
theorem dX12_image_11 : decode cX12_image 11 = .ok (.iconst 0, 1) := by decide +kernel
theorem dX12_image_12 : decode cX12_image 12 = .ok (.ireturn, 1) := by decide +kernel
theorem dX12_image_13 : decode cX12_image 13 = .ok (.iconst 0, 1) := by decide +kernel
theorem dX12_image_14 : decode cX12_image 14 = .ok (.istore_n 2, 1) := by decide +kernel
theorem dX12_image_15 : decode cX12_image 15 = .ok (.iload_n 2, 1) := by decide +kernel
theorem dX12_image_16 : decode cX12_image 16 = .ok (.sipush 1750, 3) := by decide +kernel
theorem dX12_image_19 : decode cX12_image 19 = .ok (.if_icmp .ge 40, 3) := by decide +kernel
theorem dX12_image_22 : decode cX12_image 22 = .ok (.iload_n 1, 1) := by decide +kernel
theorem dX12_image_23 : decode cX12_image 23 = .ok (.ifCond .eq 18, 3) := by decide +kernel
theorem dX12_image_26 : decode cX12_image 26 = .ok (.aload_n 0, 1) := by decide +kernel
theorem dX12_image_27 : decode cX12_image 27 = .ok (.getfield 13, 3) := by decide +kernel
theorem dX12_image_30 : decode cX12_image 30 = .ok (.iload_n 2, 1) := by decide +kernel
theorem dX12_image_31 : decode cX12_image 31 = .ok (.aload_n 0, 1) := by decide +kernel
theorem dX12_image_32 : decode cX12_image 32 = .ok (.getfield 7, 3) := by decide +kernel
theorem dX12_image_35 : decode cX12_image 35 = .ok (.iload_n 2, 1) := by decide +kernel
theorem dX12_image_36 : decode cX12_image 36 = .ok (.iaload, 1) := by decide +kernel
theorem dX12_image_37 : decode cX12_image 37 = .ok (.iastore, 1) := by decide +kernel
theorem dX12_image_38 : decode cX12_image 38 = .ok (.goto 15, 3) := by decide +kernel
theorem dX12_image_41 : decode cX12_image 41 = .ok (.aload_n 0, 1) := by decide +kernel
theorem dX12_image_42 : decode cX12_image 42 = .ok (.getfield 7, 3) := by decide +kernel
theorem dX12_image_45 : decode cX12_image 45 = .ok (.iload_n 2, 1) := by decide +kernel
theorem dX12_image_46 : decode cX12_image 46 = .ok (.aload_n 0, 1) := by decide +kernel
theorem dX12_image_47 : decode cX12_image 47 = .ok (.getfield 13, 3) := by decide +kernel
theorem dX12_image_50 : decode cX12_image 50 = .ok (.iload_n 2, 1) := by decide +kernel
theorem dX12_image_51 : decode cX12_image 51 = .ok (.iaload, 1) := by decide +kernel
theorem dX12_image_52 : decode cX12_image 52 = .ok (.iastore, 1) := by decide +kernel
theorem dX12_image_53 : decode cX12_image 53 = .ok (.iinc 2 1, 3) := by decide +kernel
theorem dX12_image_56 : decode cX12_image 56 = .ok (.goto (-41), 3) := by decide +kernel
theorem dX12_image_59 : decode cX12_image 59 = .ok (.iload_n 1, 1) := by decide +kernel
theorem dX12_image_60 : decode cX12_image 60 = .ok (.ifCond .ne 7, 3) := by decide +kernel
theorem dX12_image_63 : decode cX12_image 63 = .ok (.aload_n 0, 1) := by decide +kernel
theorem dX12_image_64 : decode cX12_image 64 = .ok (.invokevirtual 65, 3) := by decide +kernel
theorem dX12_image_67 : decode cX12_image 67 = .ok (.aload_n 0, 1) := by decide +kernel
theorem dX12_image_68 : decode cX12_image 68 = .ok (.iconst 1, 1) := by decide +kernel
theorem dX12_image_69 : decode cX12_image 69 = .ok (.putfield 307, 3) := by decide +kernel
theorem dX12_image_72 : decode cX12_image 72 = .ok (.iconst 1, 1) := by decide +kernel
theorem dX12_image_73 : decode cX12_image 73 = .ok (.ireturn, 1) := by decide +kernel
def tX12_image_0 : Nat → Option am_Act := am_nd 22 (am_nd 12 (am_nd 5 (am_nd 1 (am_lf 0 (a_iload 1 1)) (am_nd 4 (am_lf 1 (a_if (fun x => x = nI 0) 4 13)) (am_lf 4 (a_aload 0 5)))) (am_nd 8 (am_lf 5 (a_get tT 12 5 8)) (am_nd 11 (am_lf 8 (a_if (fun x => x = nI 0) 11 13)) (am_lf 11 (a_const (nI 0) 12))))) (am_nd 15 (am_nd 13 (am_lf 12 (a_zret)) (am_nd 14 (am_lf 13 (a_const (nI 0) 14)) (am_lf 14 (a_istore 2 15)))) (am_nd 16 (am_lf 15 (a_iload 2 16)) (am_nd 19 (am_lf 16 (a_const (nI 1750) 19)) (am_lf 19 (a_cmp (fun x y => y ≤ x) 59 22)))))) (am_nd 32 (am_nd 27 (am_nd 23 (am_lf 22 (a_iload 1 23)) (am_nd 26 (am_lf 23 (a_if (fun x => x = nI 0) 41 26)) (am_lf 26 (a_aload 0 27)))) (am_nd 30 (am_lf 27 (a_get tT 12 1 30)) (am_nd 31 (am_lf 30 (a_iload 2 31)) (am_lf 31 (a_aload 0 32))))) (am_nd 37 (am_nd 35 (am_lf 32 (a_get tT 12 0 35)) (am_nd 36 (am_lf 35 (a_iload 2 36)) (am_lf 36 (a_iald tT 37)))) (am_nd 38 (am_lf 37 (a_iast tT 38)) (am_nd 41 (am_lf 38 (a_goto 53)) (am_lf 41 (a_aload 0 42))))))
theorem gX12_image_0 : am_Good tT mX12_image tX12_image_0 := am_nd_ok (am_nd_ok (am_nd_ok (am_nd_ok (am_lf_ok (fun _ => ok_iload_n dX12_image_0 rfl rfl)) (am_nd_ok (am_lf_ok (fun _ => ok_if_ne dX12_image_1 rfl rfl)) (am_lf_ok (fun _ => ok_aload_n dX12_image_4 rfl rfl)))) (am_nd_ok (am_lf_ok (fun _ => ok_get (C := RX12) (TT := TX12) (N := 31) rfl inw_X12 (Nat.le_of_ble_eq_true rfl) wd_627 dX12_image_5 rfl)) (am_nd_ok (am_lf_ok (fun _ => ok_if_ne dX12_image_8 rfl rfl)) (am_lf_ok (fun _ => ok_iconst dX12_image_11 cv_iconst_0 rfl))))) (am_nd_ok (am_nd_ok (am_lf_ok (fun _ => ok_zret rfl dX12_image_12)) (am_nd_ok (am_lf_ok (fun _ => ok_iconst dX12_image_13 cv_iconst_0 rfl)) (am_lf_ok (fun _ => ok_istore_n dX12_image_14 rfl (Nat.le_of_ble_eq_true rfl) rfl)))) (am_nd_ok (am_lf_ok (fun _ => ok_iload_n dX12_image_15 rfl rfl)) (am_nd_ok (am_lf_ok (fun _ => ok_sipush dX12_image_16 cv_sipush_1750 rfl)) (am_lf_ok (fun _ => ok_cmp_ge dX12_image_19 rfl rfl)))))) (am_nd_ok (am_nd_ok (am_nd_ok (am_lf_ok (fun _ => ok_iload_n dX12_image_22 rfl rfl)) (am_nd_ok (am_lf_ok (fun _ => ok_if_eq dX12_image_23 rfl rfl)) (am_lf_ok (fun _ => ok_aload_n dX12_image_26 rfl rfl)))) (am_nd_ok (am_lf_ok (fun _ => ok_get (C := RX12) (TT := TX12) (N := 31) rfl inw_X12 (Nat.le_of_ble_eq_true rfl) wd_628 dX12_image_27 rfl)) (am_nd_ok (am_lf_ok (fun _ => ok_iload_n dX12_image_30 rfl rfl)) (am_lf_ok (fun _ => ok_aload_n dX12_image_31 rfl rfl))))) (am_nd_ok (am_nd_ok (am_lf_ok (fun _ => ok_get (C := RX12) (TT := TX12) (N := 31) rfl inw_X12 (Nat.le_of_ble_eq_true rfl) wd_448 dX12_image_32 rfl)) (am_nd_ok (am_lf_ok (fun _ => ok_iload_n dX12_image_35 rfl rfl)) (am_lf_ok (fun _ => ok_iald dX12_image_36 rfl)))) (am_nd_ok (am_lf_ok (fun _ => ok_iast dX12_image_37 rfl)) (am_nd_ok (am_lf_ok (fun _ => ok_goto dX12_image_38 rfl)) (am_lf_ok (fun _ => ok_aload_n dX12_image_41 rfl rfl))))))
def tX12_image_1 : Nat → Option am_Act := am_nd 59 (am_nd 50 (am_nd 46 (am_nd 45 (am_lf 42 (a_get tT 12 0 45)) (am_lf 45 (a_iload 2 46))) (am_nd 47 (am_lf 46 (a_aload 0 47)) (am_lf 47 (a_get tT 12 1 50)))) (am_nd 52 (am_nd 51 (am_lf 50 (a_iload 2 51)) (am_lf 51 (a_iald tT 52))) (am_nd 53 (am_lf 52 (a_iast tT 53)) (am_nd 56 (am_lf 53 (a_iinc 2 (nI 1) 56)) (am_lf 56 (a_goto 15)))))) (am_nd 67 (am_nd 63 (am_nd 60 (am_lf 59 (a_iload 1 60)) (am_lf 60 (a_if (fun x => x = nI 0) 63 67))) (am_nd 64 (am_lf 63 (a_aload 0 64)) (am_lf 64 (a_cvV tT mX12_forgets 12 0 67)))) (am_nd 69 (am_nd 68 (am_lf 67 (a_aload 0 68)) (am_lf 68 (a_const (nI 1) 69))) (am_nd 72 (am_lf 69 (a_putz tT 12 5 72)) (am_nd 73 (am_lf 72 (a_const (nI 1) 73)) (am_lf 73 (a_zret))))))
theorem gX12_image_1 : am_Good tT mX12_image tX12_image_1 := am_nd_ok (am_nd_ok (am_nd_ok (am_nd_ok (am_lf_ok (fun _ => ok_get (C := RX12) (TT := TX12) (N := 31) rfl inw_X12 (Nat.le_of_ble_eq_true rfl) wd_448 dX12_image_42 rfl)) (am_lf_ok (fun _ => ok_iload_n dX12_image_45 rfl rfl))) (am_nd_ok (am_lf_ok (fun _ => ok_aload_n dX12_image_46 rfl rfl)) (am_lf_ok (fun _ => ok_get (C := RX12) (TT := TX12) (N := 31) rfl inw_X12 (Nat.le_of_ble_eq_true rfl) wd_628 dX12_image_47 rfl)))) (am_nd_ok (am_nd_ok (am_lf_ok (fun _ => ok_iload_n dX12_image_50 rfl rfl)) (am_lf_ok (fun _ => ok_iald dX12_image_51 rfl))) (am_nd_ok (am_lf_ok (fun _ => ok_iast dX12_image_52 rfl)) (am_nd_ok (am_lf_ok (fun _ => ok_iinc dX12_image_53 cv_iconst_1 (Nat.le_of_ble_eq_true rfl) rfl)) (am_lf_ok (fun _ => ok_goto dX12_image_56 rfl)))))) (am_nd_ok (am_nd_ok (am_nd_ok (am_lf_ok (fun _ => ok_iload_n dX12_image_59 rfl rfl)) (am_lf_ok (fun _ => ok_if_ne dX12_image_60 rfl rfl))) (am_nd_ok (am_lf_ok (fun _ => ok_aload_n dX12_image_63 rfl rfl)) (am_lf_ok (fun _ => ok_cvV rfl mw_X12_forgets (ci := 12) rfl rfl wd_454 wd_455 wd_456 dX12_image_64 rfl)))) (am_nd_ok (am_nd_ok (am_lf_ok (fun _ => ok_aload_n dX12_image_67 rfl rfl)) (am_lf_ok (fun _ => ok_iconst dX12_image_68 cv_iconst_1 rfl))) (am_nd_ok (am_lf_ok (fun _ => ok_putz (C := RX12) (TT := TX12) (N := 31) (ty0 := tyX12) rfl inw_X12 tyX12_ok nmX12 (Nat.le_of_ble_eq_true rfl) rfl rfl wd_627 dX12_image_69 rfl)) (am_nd_ok (am_lf_ok (fun _ => ok_iconst dX12_image_72 cv_iconst_1 rfl)) (am_lf_ok (fun _ => ok_zret rfl dX12_image_73))))))
def tX12_image : Nat → Option am_Act := am_nd 42 (tX12_image_0) (tX12_image_1)
theorem gX12_image : am_Good tT mX12_image tX12_image := am_nd_ok (gX12_image_0) (gX12_image_1)
theorem dX12_look_0 : decode cX12_look 0 = .ok (.iload_n 1, 1) := by decide +kernel
theorem dX12_look_1 : decode cX12_look 1 = .ok (.iconst 0, 1) := by decide +kernel
theorem dX12_look_2 : decode cX12_look 2 = .ok (.bipush 7, 2) := by decide +kernel
theorem dX12_look_4 : decode cX12_look 4 = .ok (.invokestatic 56, 3) := by decide +kernel
theorem dX12_look_7 : decode cX12_look 7 = .ok (.ifCond .eq 10, 3) := by decide +kernel
theorem dX12_look_10 : decode cX12_look 10 = .ok (.aload_n 0, 1) := by decide +kernel
theorem dX12_look_11 : decode cX12_look 11 = .ok (.getfield 7, 3) := by decide +kernel
theorem dX12_look_14 : decode cX12_look 14 = .ok (.iload_n 1, 1) := by decide +kernel
theorem dX12_look_15 : decode cX12_look 15 = .ok (.iaload, 1) := by decide +kernel
theorem dX12_look_16 : decode cX12_look 16 = .ok (.ireturn, 1) := by decide +kernel
theorem dX12_look_17 : decode cX12_look 17 = .ok (.iload_n 1, 1) := by decide +kernel
theorem dX12_look_18 : decode cX12_look 18 = .ok (.bipush 8, 2) := by decide +kernel
theorem dX12_look_20 : decode cX12_look 20 = .ok (.if_icmp .ne 12, 3) := by decide +kernel
theorem dX12_look_23 : decode cX12_look 23 = .ok (.aload_n 0, 1) := by decide +kernel
theorem dX12_look_24 : decode cX12_look 24 = .ok (.getfield 7, 3) := by decide +kernel
theorem dX12_look_27 : decode cX12_look 27 = .ok (.sipush 865, 3) := by decide +kernel
theorem dX12_look_30 : decode cX12_look 30 = .ok (.iaload, 1) := by decide +kernel
theorem dX12_look_31 : decode cX12_look 31 = .ok (.ireturn, 1) := by decide +kernel
theorem dX12_look_32 : decode cX12_look 32 = .ok (.iload_n 1, 1) := by decide +kernel
theorem dX12_look_33 : decode cX12_look 33 = .ok (.bipush 9, 2) := by decide +kernel
theorem dX12_look_35 : decode cX12_look 35 = .ok (.if_icmp .ne 11, 3) := by decide +kernel
theorem dX12_look_38 : decode cX12_look 38 = .ok (.aload_n 0, 1) := by decide +kernel
theorem dX12_look_39 : decode cX12_look 39 = .ok (.getfield 7, 3) := by decide +kernel
theorem dX12_look_42 : decode cX12_look 42 = .ok (.bipush 8, 2) := by decide +kernel
theorem dX12_look_44 : decode cX12_look 44 = .ok (.iaload, 1) := by decide +kernel
theorem dX12_look_45 : decode cX12_look 45 = .ok (.ireturn, 1) := by decide +kernel
theorem dX12_look_46 : decode cX12_look 46 = .ok (.iload_n 1, 1) := by decide +kernel
theorem dX12_look_47 : decode cX12_look 47 = .ok (.bipush 10, 2) := by decide +kernel
theorem dX12_look_49 : decode cX12_look 49 = .ok (.if_icmp .ne 8, 3) := by decide +kernel
theorem dX12_look_52 : decode cX12_look 52 = .ok (.aload_n 0, 1) := by decide +kernel
theorem dX12_look_53 : decode cX12_look 53 = .ok (.getfield 62, 3) := by decide +kernel
theorem dX12_look_56 : decode cX12_look 56 = .ok (.ireturn, 1) := by decide +kernel
theorem dX12_look_57 : decode cX12_look 57 = .ok (.iload_n 1, 1) := by decide +kernel
theorem dX12_look_58 : decode cX12_look 58 = .ok (.bipush 20, 2) := by decide +kernel
theorem dX12_look_60 : decode cX12_look 60 = .ok (.bipush 19, 2) := by decide +kernel
theorem dX12_look_62 : decode cX12_look 62 = .ok (.aload_n 0, 1) := by decide +kernel
theorem dX12_look_63 : decode cX12_look 63 = .ok (.getfield 7, 3) := by decide +kernel
theorem dX12_look_66 : decode cX12_look 66 = .ok (.iconst 0, 1) := by decide +kernel
theorem dX12_look_67 : decode cX12_look 67 = .ok (.iaload, 1) := by decide +kernel
theorem dX12_look_68 : decode cX12_look 68 = .ok (.iadd, 1) := by decide +kernel
theorem dX12_look_69 : decode cX12_look 69 = .ok (.invokestatic 56, 3) := by decide +kernel
theorem dX12_look_72 : decode cX12_look 72 = .ok (.ifCond .eq 16, 3) := by decide +kernel
theorem dX12_look_75 : decode cX12_look 75 = .ok (.aload_n 0, 1) := by decide +kernel
theorem dX12_look_76 : decode cX12_look 76 = .ok (.getfield 7, 3) := by decide +kernel
theorem dX12_look_79 : decode cX12_look 79 = .ok (.bipush 10, 2) := by decide +kernel
theorem dX12_look_81 : decode cX12_look 81 = .ok (.iload_n 1, 1) := by decide +kernel
theorem dX12_look_82 : decode cX12_look 82 = .ok (.iadd, 1) := by decide +kernel
theorem dX12_look_83 : decode cX12_look 83 = .ok (.bipush 20, 2) := by decide +kernel
theorem dX12_look_85 : decode cX12_look 85 = .ok (.isub, 1) := by decide +kernel
theorem dX12_look_86 : decode cX12_look 86 = .ok (.iaload, 1) := by decide +kernel
theorem dX12_look_87 : decode cX12_look 87 = .ok (.ireturn, 1) := by decide +kernel
theorem dX12_look_88 : decode cX12_look 88 = .ok (.iload_n 1, 1) := by decide +kernel
theorem dX12_look_89 : decode cX12_look 89 = .ok (.bipush 40, 2) := by decide +kernel
theorem dX12_look_91 : decode cX12_look 91 = .ok (.bipush 39, 2) := by decide +kernel
theorem dX12_look_93 : decode cX12_look 93 = .ok (.aload_n 0, 1) := by decide +kernel
theorem dX12_look_94 : decode cX12_look 94 = .ok (.getfield 7, 3) := by decide +kernel
theorem dX12_look_97 : decode cX12_look 97 = .ok (.iconst 0, 1) := by decide +kernel
theorem dX12_look_98 : decode cX12_look 98 = .ok (.iaload, 1) := by decide +kernel
theorem dX12_look_99 : decode cX12_look 99 = .ok (.iadd, 1) := by decide +kernel
theorem dX12_look_100 : decode cX12_look 100 = .ok (.invokestatic 56, 3) := by decide +kernel
theorem dX12_look_103 : decode cX12_look 103 = .ok (.ifCond .eq 16, 3) := by decide +kernel
theorem dX12_look_106 : decode cX12_look 106 = .ok (.aload_n 0, 1) := by decide +kernel
theorem dX12_look_107 : decode cX12_look 107 = .ok (.getfield 7, 3) := by decide +kernel
theorem dX12_look_110 : decode cX12_look 110 = .ok (.bipush 30, 2) := by decide +kernel
theorem dX12_look_112 : decode cX12_look 112 = .ok (.iload_n 1, 1) := by decide +kernel
theorem dX12_look_113 : decode cX12_look 113 = .ok (.iadd, 1) := by decide +kernel
theorem dX12_look_114 : decode cX12_look 114 = .ok (.bipush 40, 2) := by decide +kernel
theorem dX12_look_116 : decode cX12_look 116 = .ok (.isub, 1) := by decide +kernel
theorem dX12_look_117 : decode cX12_look 117 = .ok (.iaload, 1) := by decide +kernel
theorem dX12_look_118 : decode cX12_look 118 = .ok (.ireturn, 1) := by decide +kernel
theorem dX12_look_119 : decode cX12_look 119 = .ok (.iload_n 1, 1) := by decide +kernel
theorem dX12_look_120 : decode cX12_look 120 = .ok (.bipush 60, 2) := by decide +kernel
theorem dX12_look_122 : decode cX12_look 122 = .ok (.bipush 59, 2) := by decide +kernel
theorem dX12_look_124 : decode cX12_look 124 = .ok (.iconst 2, 1) := by decide +kernel
theorem dX12_look_125 : decode cX12_look 125 = .ok (.aload_n 0, 1) := by decide +kernel
theorem dX12_look_126 : decode cX12_look 126 = .ok (.getfield 7, 3) := by decide +kernel
theorem dX12_look_129 : decode cX12_look 129 = .ok (.iconst 2, 1) := by decide +kernel
theorem dX12_look_130 : decode cX12_look 130 = .ok (.iaload, 1) := by decide +kernel
theorem dX12_look_131 : decode cX12_look 131 = .ok (.imul, 1) := by decide +kernel
theorem dX12_look_132 : decode cX12_look 132 = .ok (.iadd, 1) := by decide +kernel
theorem dX12_look_133 : decode cX12_look 133 = .ok (.invokestatic 56, 3) := by decide +kernel
theorem dX12_look_136 : decode cX12_look 136 = .ok (.ifCond .eq 18, 3) := by decide +kernel
theorem dX12_look_139 : decode cX12_look 139 = .ok (.aload_n 0, 1) := by decide +kernel
theorem dX12_look_140 : decode cX12_look 140 = .ok (.getfield 7, 3) := by decide +kernel
theorem dX12_look_143 : decode cX12_look 143 = .ok (.bipush 50, 2) := by decide +kernel
theorem dX12_look_145 : decode cX12_look 145 = .ok (.iload_n 1, 1) := by decide +kernel
theorem dX12_look_146 : decode cX12_look 146 = .ok (.iadd, 1) := by decide +kernel
theorem dX12_look_147 : decode cX12_look 147 = .ok (.bipush 60, 2) := by decide +kernel
theorem dX12_look_149 : decode cX12_look 149 = .ok (.isub, 1) := by decide +kernel
theorem dX12_look_150 : decode cX12_look 150 = .ok (.iaload, 1) := by decide +kernel
theorem dX12_look_151 : decode cX12_look 151 = .ok (.goto 4, 3) := by decide +kernel
theorem dX12_look_154 : decode cX12_look 154 = .ok (.iconst (-1), 1) := by decide +kernel
theorem dX12_look_155 : decode cX12_look 155 = .ok (.ireturn, 1) := by decide +kernel
def tX12_look_0 : Nat → Option am_Act := am_nd 20 (am_nd 11 (am_nd 4 (am_nd 1 (am_lf 0 (a_iload 1 1)) (am_nd 2 (am_lf 1 (a_const (nI 0) 2)) (am_lf 2 (a_const (nI 7) 4)))) (am_nd 7 (am_lf 4 (a_csI mX12_isIn 3 7)) (am_nd 10 (am_lf 7 (a_if (fun x => x = nI 0) 17 10)) (am_lf 10 (a_aload 0 11))))) (am_nd 16 (am_nd 14 (am_lf 11 (a_get tT 12 0 14)) (am_nd 15 (am_lf 14 (a_iload 1 15)) (am_lf 15 (a_iald tT 16)))) (am_nd 17 (am_lf 16 (a_iret)) (am_nd 18 (am_lf 17 (a_iload 1 18)) (am_lf 18 (a_const (nI 8) 20)))))) (am_nd 32 (am_nd 27 (am_nd 23 (am_lf 20 (a_cmp (fun x y => x = y) 23 32)) (am_nd 24 (am_lf 23 (a_aload 0 24)) (am_lf 24 (a_get tT 12 0 27)))) (am_nd 30 (am_lf 27 (a_const (nI 865) 30)) (am_nd 31 (am_lf 30 (a_iald tT 31)) (am_lf 31 (a_iret))))) (am_nd 38 (am_nd 33 (am_lf 32 (a_iload 1 33)) (am_nd 35 (am_lf 33 (a_const (nI 9) 35)) (am_lf 35 (a_cmp (fun x y => x = y) 38 46)))) (am_nd 39 (am_lf 38 (a_aload 0 39)) (am_nd 42 (am_lf 39 (a_get tT 12 0 42)) (am_lf 42 (a_const (nI 8) 44))))))
theorem gX12_look_0 : am_Good tT mX12_look tX12_look_0 := am_nd_ok (am_nd_ok (am_nd_ok (am_nd_ok (am_lf_ok (fun _ => ok_iload_n dX12_look_0 rfl rfl)) (am_nd_ok (am_lf_ok (fun _ => ok_iconst dX12_look_1 cv_iconst_0 rfl)) (am_lf_ok (fun _ => ok_bipush dX12_look_2 cv_bipush_7 rfl)))) (am_nd_ok (am_lf_ok (fun _ => ok_csI rfl mw_X12_isIn wd_449 wd_450 dX12_look_4 rfl)) (am_nd_ok (am_lf_ok (fun _ => ok_if_eq dX12_look_7 rfl rfl)) (am_lf_ok (fun _ => ok_aload_n dX12_look_10 rfl rfl))))) (am_nd_ok (am_nd_ok (am_lf_ok (fun _ => ok_get (C := RX12) (TT := TX12) (N := 31) rfl inw_X12 (Nat.le_of_ble_eq_true rfl) wd_448 dX12_look_11 rfl)) (am_nd_ok (am_lf_ok (fun _ => ok_iload_n dX12_look_14 rfl rfl)) (am_lf_ok (fun _ => ok_iald dX12_look_15 rfl)))) (am_nd_ok (am_lf_ok (fun _ => ok_iret rfl dX12_look_16)) (am_nd_ok (am_lf_ok (fun _ => ok_iload_n dX12_look_17 rfl rfl)) (am_lf_ok (fun _ => ok_bipush dX12_look_18 cv_bipush_8 rfl)))))) (am_nd_ok (am_nd_ok (am_nd_ok (am_lf_ok (fun _ => ok_cmp_ne dX12_look_20 rfl rfl)) (am_nd_ok (am_lf_ok (fun _ => ok_aload_n dX12_look_23 rfl rfl)) (am_lf_ok (fun _ => ok_get (C := RX12) (TT := TX12) (N := 31) rfl inw_X12 (Nat.le_of_ble_eq_true rfl) wd_448 dX12_look_24 rfl)))) (am_nd_ok (am_lf_ok (fun _ => ok_sipush dX12_look_27 cv_sipush_865 rfl)) (am_nd_ok (am_lf_ok (fun _ => ok_iald dX12_look_30 rfl)) (am_lf_ok (fun _ => ok_iret rfl dX12_look_31))))) (am_nd_ok (am_nd_ok (am_lf_ok (fun _ => ok_iload_n dX12_look_32 rfl rfl)) (am_nd_ok (am_lf_ok (fun _ => ok_bipush dX12_look_33 cv_bipush_9 rfl)) (am_lf_ok (fun _ => ok_cmp_ne dX12_look_35 rfl rfl)))) (am_nd_ok (am_lf_ok (fun _ => ok_aload_n dX12_look_38 rfl rfl)) (am_nd_ok (am_lf_ok (fun _ => ok_get (C := RX12) (TT := TX12) (N := 31) rfl inw_X12 (Nat.le_of_ble_eq_true rfl) wd_448 dX12_look_39 rfl)) (am_lf_ok (fun _ => ok_bipush dX12_look_42 cv_bipush_8 rfl))))))
def tX12_look_1 : Nat → Option am_Act := am_nd 63 (am_nd 53 (am_nd 47 (am_nd 45 (am_lf 44 (a_iald tT 45)) (am_nd 46 (am_lf 45 (a_iret)) (am_lf 46 (a_iload 1 47)))) (am_nd 49 (am_lf 47 (a_const (nI 10) 49)) (am_nd 52 (am_lf 49 (a_cmp (fun x y => x = y) 52 57)) (am_lf 52 (a_aload 0 53))))) (am_nd 58 (am_nd 56 (am_lf 53 (a_get tT 12 4 56)) (am_nd 57 (am_lf 56 (a_iret)) (am_lf 57 (a_iload 1 58)))) (am_nd 60 (am_lf 58 (a_const (nI 20) 60)) (am_nd 62 (am_lf 60 (a_const (nI 19) 62)) (am_lf 62 (a_aload 0 63)))))) (am_nd 75 (am_nd 68 (am_nd 66 (am_lf 63 (a_get tT 12 0 66)) (am_nd 67 (am_lf 66 (a_const (nI 0) 67)) (am_lf 67 (a_iald tT 68)))) (am_nd 69 (am_lf 68 (a_bin (fun x y => x + y) 69)) (am_nd 72 (am_lf 69 (a_csI mX12_isIn 3 72)) (am_lf 72 (a_if (fun x => x = nI 0) 88 75))))) (am_nd 81 (am_nd 76 (am_lf 75 (a_aload 0 76)) (am_nd 79 (am_lf 76 (a_get tT 12 0 79)) (am_lf 79 (a_const (nI 10) 81)))) (am_nd 82 (am_lf 81 (a_iload 1 82)) (am_nd 83 (am_lf 82 (a_bin (fun x y => x + y) 83)) (am_lf 83 (a_const (nI 20) 85))))))
theorem gX12_look_1 : am_Good tT mX12_look tX12_look_1 := am_nd_ok (am_nd_ok (am_nd_ok (am_nd_ok (am_lf_ok (fun _ => ok_iald dX12_look_44 rfl)) (am_nd_ok (am_lf_ok (fun _ => ok_iret rfl dX12_look_45)) (am_lf_ok (fun _ => ok_iload_n dX12_look_46 rfl rfl)))) (am_nd_ok (am_lf_ok (fun _ => ok_bipush dX12_look_47 cv_bipush_10 rfl)) (am_nd_ok (am_lf_ok (fun _ => ok_cmp_ne dX12_look_49 rfl rfl)) (am_lf_ok (fun _ => ok_aload_n dX12_look_52 rfl rfl))))) (am_nd_ok (am_nd_ok (am_lf_ok (fun _ => ok_get (C := RX12) (TT := TX12) (N := 31) rfl inw_X12 (Nat.le_of_ble_eq_true rfl) wd_453 dX12_look_53 rfl)) (am_nd_ok (am_lf_ok (fun _ => ok_iret rfl dX12_look_56)) (am_lf_ok (fun _ => ok_iload_n dX12_look_57 rfl rfl)))) (am_nd_ok (am_lf_ok (fun _ => ok_bipush dX12_look_58 cv_bipush_20 rfl)) (am_nd_ok (am_lf_ok (fun _ => ok_bipush dX12_look_60 cv_bipush_19 rfl)) (am_lf_ok (fun _ => ok_aload_n dX12_look_62 rfl rfl)))))) (am_nd_ok (am_nd_ok (am_nd_ok (am_lf_ok (fun _ => ok_get (C := RX12) (TT := TX12) (N := 31) rfl inw_X12 (Nat.le_of_ble_eq_true rfl) wd_448 dX12_look_63 rfl)) (am_nd_ok (am_lf_ok (fun _ => ok_iconst dX12_look_66 cv_iconst_0 rfl)) (am_lf_ok (fun _ => ok_iald dX12_look_67 rfl)))) (am_nd_ok (am_lf_ok (fun _ => ok_iadd dX12_look_68 rfl)) (am_nd_ok (am_lf_ok (fun _ => ok_csI rfl mw_X12_isIn wd_449 wd_450 dX12_look_69 rfl)) (am_lf_ok (fun _ => ok_if_eq dX12_look_72 rfl rfl))))) (am_nd_ok (am_nd_ok (am_lf_ok (fun _ => ok_aload_n dX12_look_75 rfl rfl)) (am_nd_ok (am_lf_ok (fun _ => ok_get (C := RX12) (TT := TX12) (N := 31) rfl inw_X12 (Nat.le_of_ble_eq_true rfl) wd_448 dX12_look_76 rfl)) (am_lf_ok (fun _ => ok_bipush dX12_look_79 cv_bipush_10 rfl)))) (am_nd_ok (am_lf_ok (fun _ => ok_iload_n dX12_look_81 rfl rfl)) (am_nd_ok (am_lf_ok (fun _ => ok_iadd dX12_look_82 rfl)) (am_lf_ok (fun _ => ok_bipush dX12_look_83 cv_bipush_20 rfl))))))
def tX12_look_2 : Nat → Option am_Act := am_nd 103 (am_nd 93 (am_nd 88 (am_nd 86 (am_lf 85 (a_bin (fun x y => x - y) 86)) (am_nd 87 (am_lf 86 (a_iald tT 87)) (am_lf 87 (a_iret)))) (am_nd 89 (am_lf 88 (a_iload 1 89)) (am_nd 91 (am_lf 89 (a_const (nI 40) 91)) (am_lf 91 (a_const (nI 39) 93))))) (am_nd 98 (am_nd 94 (am_lf 93 (a_aload 0 94)) (am_nd 97 (am_lf 94 (a_get tT 12 0 97)) (am_lf 97 (a_const (nI 0) 98)))) (am_nd 99 (am_lf 98 (a_iald tT 99)) (am_nd 100 (am_lf 99 (a_bin (fun x y => x + y) 100)) (am_lf 100 (a_csI mX12_isIn 3 103)))))) (am_nd 114 (am_nd 110 (am_nd 106 (am_lf 103 (a_if (fun x => x = nI 0) 119 106)) (am_nd 107 (am_lf 106 (a_aload 0 107)) (am_lf 107 (a_get tT 12 0 110)))) (am_nd 112 (am_lf 110 (a_const (nI 30) 112)) (am_nd 113 (am_lf 112 (a_iload 1 113)) (am_lf 113 (a_bin (fun x y => x + y) 114))))) (am_nd 118 (am_nd 116 (am_lf 114 (a_const (nI 40) 116)) (am_nd 117 (am_lf 116 (a_bin (fun x y => x - y) 117)) (am_lf 117 (a_iald tT 118)))) (am_nd 119 (am_lf 118 (a_iret)) (am_nd 120 (am_lf 119 (a_iload 1 120)) (am_lf 120 (a_const (nI 60) 122))))))
theorem gX12_look_2 : am_Good tT mX12_look tX12_look_2 := am_nd_ok (am_nd_ok (am_nd_ok (am_nd_ok (am_lf_ok (fun _ => ok_isub dX12_look_85 rfl)) (am_nd_ok (am_lf_ok (fun _ => ok_iald dX12_look_86 rfl)) (am_lf_ok (fun _ => ok_iret rfl dX12_look_87)))) (am_nd_ok (am_lf_ok (fun _ => ok_iload_n dX12_look_88 rfl rfl)) (am_nd_ok (am_lf_ok (fun _ => ok_bipush dX12_look_89 cv_bipush_40 rfl)) (am_lf_ok (fun _ => ok_bipush dX12_look_91 cv_bipush_39 rfl))))) (am_nd_ok (am_nd_ok (am_lf_ok (fun _ => ok_aload_n dX12_look_93 rfl rfl)) (am_nd_ok (am_lf_ok (fun _ => ok_get (C := RX12) (TT := TX12) (N := 31) rfl inw_X12 (Nat.le_of_ble_eq_true rfl) wd_448 dX12_look_94 rfl)) (am_lf_ok (fun _ => ok_iconst dX12_look_97 cv_iconst_0 rfl)))) (am_nd_ok (am_lf_ok (fun _ => ok_iald dX12_look_98 rfl)) (am_nd_ok (am_lf_ok (fun _ => ok_iadd dX12_look_99 rfl)) (am_lf_ok (fun _ => ok_csI rfl mw_X12_isIn wd_449 wd_450 dX12_look_100 rfl)))))) (am_nd_ok (am_nd_ok (am_nd_ok (am_lf_ok (fun _ => ok_if_eq dX12_look_103 rfl rfl)) (am_nd_ok (am_lf_ok (fun _ => ok_aload_n dX12_look_106 rfl rfl)) (am_lf_ok (fun _ => ok_get (C := RX12) (TT := TX12) (N := 31) rfl inw_X12 (Nat.le_of_ble_eq_true rfl) wd_448 dX12_look_107 rfl)))) (am_nd_ok (am_lf_ok (fun _ => ok_bipush dX12_look_110 cv_bipush_30 rfl)) (am_nd_ok (am_lf_ok (fun _ => ok_iload_n dX12_look_112 rfl rfl)) (am_lf_ok (fun _ => ok_iadd dX12_look_113 rfl))))) (am_nd_ok (am_nd_ok (am_lf_ok (fun _ => ok_bipush dX12_look_114 cv_bipush_40 rfl)) (am_nd_ok (am_lf_ok (fun _ => ok_isub dX12_look_116 rfl)) (am_lf_ok (fun _ => ok_iald dX12_look_117 rfl)))) (am_nd_ok (am_lf_ok (fun _ => ok_iret rfl dX12_look_118)) (am_nd_ok (am_lf_ok (fun _ => ok_iload_n dX12_look_119 rfl rfl)) (am_lf_ok (fun _ => ok_bipush dX12_look_120 cv_bipush_60 rfl))))))
def tX12_look_3 : Nat → Option am_Act := am_nd 139 (am_nd 130 (am_nd 125 (am_nd 124 (am_lf 122 (a_const (nI 59) 124)) (am_lf 124 (a_const (nI 2) 125))) (am_nd 126 (am_lf 125 (a_aload 0 126)) (am_nd 129 (am_lf 126 (a_get tT 12 0 129)) (am_lf 129 (a_const (nI 2) 130))))) (am_nd 132 (am_nd 131 (am_lf 130 (a_iald tT 131)) (am_lf 131 (a_bin (fun x y => x * y) 132))) (am_nd 133 (am_lf 132 (a_bin (fun x y => x + y) 133)) (am_nd 136 (am_lf 133 (a_csI mX12_isIn 3 136)) (am_lf 136 (a_if (fun x => x = nI 0) 154 139)))))) (am_nd 147 (am_nd 143 (am_nd 140 (am_lf 139 (a_aload 0 140)) (am_lf 140 (a_get tT 12 0 143))) (am_nd 145 (am_lf 143 (a_const (nI 50) 145)) (am_nd 146 (am_lf 145 (a_iload 1 146)) (am_lf 146 (a_bin (fun x y => x + y) 147))))) (am_nd 151 (am_nd 149 (am_lf 147 (a_const (nI 60) 149)) (am_nd 150 (am_lf 149 (a_bin (fun x y => x - y) 150)) (am_lf 150 (a_iald tT 151)))) (am_nd 154 (am_lf 151 (a_goto 155)) (am_nd 155 (am_lf 154 (a_const (-1) 155)) (am_lf 155 (a_iret))))))
theorem gX12_look_3 : am_Good tT mX12_look tX12_look_3 := am_nd_ok (am_nd_ok (am_nd_ok (am_nd_ok (am_lf_ok (fun _ => ok_bipush dX12_look_122 cv_bipush_59 rfl)) (am_lf_ok (fun _ => ok_iconst dX12_look_124 cv_iconst_2 rfl))) (am_nd_ok (am_lf_ok (fun _ => ok_aload_n dX12_look_125 rfl rfl)) (am_nd_ok (am_lf_ok (fun _ => ok_get (C := RX12) (TT := TX12) (N := 31) rfl inw_X12 (Nat.le_of_ble_eq_true rfl) wd_448 dX12_look_126 rfl)) (am_lf_ok (fun _ => ok_iconst dX12_look_129 cv_iconst_2 rfl))))) (am_nd_ok (am_nd_ok (am_lf_ok (fun _ => ok_iald dX12_look_130 rfl)) (am_lf_ok (fun _ => ok_imul dX12_look_131 rfl))) (am_nd_ok (am_lf_ok (fun _ => ok_iadd dX12_look_132 rfl)) (am_nd_ok (am_lf_ok (fun _ => ok_csI rfl mw_X12_isIn wd_449 wd_450 dX12_look_133 rfl)) (am_lf_ok (fun _ => ok_if_eq dX12_look_136 rfl rfl)))))) (am_nd_ok (am_nd_ok (am_nd_ok (am_lf_ok (fun _ => ok_aload_n dX12_look_139 rfl rfl)) (am_lf_ok (fun _ => ok_get (C := RX12) (TT := TX12) (N := 31) rfl inw_X12 (Nat.le_of_ble_eq_true rfl) wd_448 dX12_look_140 rfl))) (am_nd_ok (am_lf_ok (fun _ => ok_bipush dX12_look_143 cv_bipush_50 rfl)) (am_nd_ok (am_lf_ok (fun _ => ok_iload_n dX12_look_145 rfl rfl)) (am_lf_ok (fun _ => ok_iadd dX12_look_146 rfl))))) (am_nd_ok (am_nd_ok (am_lf_ok (fun _ => ok_bipush dX12_look_147 cv_bipush_60 rfl)) (am_nd_ok (am_lf_ok (fun _ => ok_isub dX12_look_149 rfl)) (am_lf_ok (fun _ => ok_iald dX12_look_150 rfl)))) (am_nd_ok (am_lf_ok (fun _ => ok_goto dX12_look_151 rfl)) (am_nd_ok (am_lf_ok (fun _ => ok_iconst dX12_look_154 cv_iconst_m1 rfl)) (am_lf_ok (fun _ => ok_iret rfl dX12_look_155))))))
def tX12_look : Nat → Option am_Act := am_nd 85 (am_nd 44 (tX12_look_0) (tX12_look_1)) (am_nd 122 (tX12_look_2) (tX12_look_3))
theorem gX12_look : am_Good tT mX12_look tX12_look := am_nd_ok (am_nd_ok (gX12_look_0) (gX12_look_1)) (am_nd_ok (gX12_look_2) (gX12_look_3))
