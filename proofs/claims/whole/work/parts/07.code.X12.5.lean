/-! ===== code of TollOfNamesModel ===== -/
theorem dX12_of_0 : decode cX12_of 0 = .ok (.aload_n 0, 1) := by decide +kernel
theorem dX12_of_1 : decode cX12_of 1 = .ok (.iload_n 1, 1) := by decide +kernel
theorem dX12_of_2 : decode cX12_of 2 = .ok (.invokevirtual 84, 3) := by decide +kernel
theorem dX12_of_5 : decode cX12_of 5 = .ok (.ifCond .ne 5, 3) := by decide +kernel
theorem dX12_of_8 : decode cX12_of 8 = .ok (.iconst (-1), 1) := by decide +kernel
theorem dX12_of_9 : decode cX12_of 9 = .ok (.ireturn, 1) := by decide +kernel
theorem dX12_of_10 : decode cX12_of 10 = .ok (.iload_n 2, 1) := by decide +kernel
theorem dX12_of_11 : decode cX12_of 11 = .ok (.tableswitch 88 0 6 #[41, 48, 55, 62, 68, 75, 82], 41) := by decide +kernel
theorem dX12_of_52 : decode cX12_of 52 = .ok (.aload_n 0, 1) := by decide +kernel
theorem dX12_of_53 : decode cX12_of 53 = .ok (.iload_n 1, 1) := by decide +kernel
theorem dX12_of_54 : decode cX12_of 54 = .ok (.iconst 0, 1) := by decide +kernel
theorem dX12_of_55 : decode cX12_of 55 = .ok (.invokevirtual 76, 3) := by decide +kernel
theorem dX12_of_58 : decode cX12_of 58 = .ok (.ireturn, 1) := by decide +kernel
theorem dX12_of_59 : decode cX12_of 59 = .ok (.aload_n 0, 1) := by decide +kernel
theorem dX12_of_60 : decode cX12_of 60 = .ok (.iload_n 1, 1) := by decide +kernel
theorem dX12_of_61 : decode cX12_of 61 = .ok (.iconst 1, 1) := by decide +kernel
theorem dX12_of_62 : decode cX12_of 62 = .ok (.invokevirtual 76, 3) := by decide +kernel
theorem dX12_of_65 : decode cX12_of 65 = .ok (.ireturn, 1) := by decide +kernel
theorem dX12_of_66 : decode cX12_of 66 = .ok (.aload_n 0, 1) := by decide +kernel
theorem dX12_of_67 : decode cX12_of 67 = .ok (.iload_n 1, 1) := by decide +kernel
theorem dX12_of_68 : decode cX12_of 68 = .ok (.iconst 2, 1) := by decide +kernel
theorem dX12_of_69 : decode cX12_of 69 = .ok (.invokevirtual 76, 3) := by decide +kernel
theorem dX12_of_72 : decode cX12_of 72 = .ok (.ireturn, 1) := by decide +kernel
theorem dX12_of_73 : decode cX12_of 73 = .ok (.aload_n 0, 1) := by decide +kernel
theorem dX12_of_74 : decode cX12_of 74 = .ok (.iload_n 1, 1) := by decide +kernel
theorem dX12_of_75 : decode cX12_of 75 = .ok (.invokevirtual 234, 3) := by decide +kernel
theorem dX12_of_78 : decode cX12_of 78 = .ok (.ireturn, 1) := by decide +kernel
theorem dX12_of_79 : decode cX12_of 79 = .ok (.aload_n 0, 1) := by decide +kernel
theorem dX12_of_80 : decode cX12_of 80 = .ok (.iload_n 1, 1) := by decide +kernel
theorem dX12_of_81 : decode cX12_of 81 = .ok (.iconst 3, 1) := by decide +kernel
theorem dX12_of_82 : decode cX12_of 82 = .ok (.invokevirtual 76, 3) := by decide +kernel
theorem dX12_of_85 : decode cX12_of 85 = .ok (.ireturn, 1) := by decide +kernel
theorem dX12_of_86 : decode cX12_of 86 = .ok (.aload_n 0, 1) := by decide +kernel
theorem dX12_of_87 : decode cX12_of 87 = .ok (.iload_n 1, 1) := by decide +kernel
theorem dX12_of_88 : decode cX12_of 88 = .ok (.iconst 4, 1) := by decide +kernel
theorem dX12_of_89 : decode cX12_of 89 = .ok (.invokevirtual 76, 3) := by decide +kernel
theorem dX12_of_92 : decode cX12_of 92 = .ok (.ireturn, 1) := by decide +kernel
theorem dX12_of_93 : decode cX12_of 93 = .ok (.aload_n 0, 1) := by decide +kernel
theorem dX12_of_94 : decode cX12_of 94 = .ok (.iload_n 1, 1) := by decide +kernel
theorem dX12_of_95 : decode cX12_of 95 = .ok (.invokevirtual 262, 3) := by decide +kernel
theorem dX12_of_98 : decode cX12_of 98 = .ok (.ireturn, 1) := by decide +kernel
theorem dX12_of_99 : decode cX12_of 99 = .ok (.iload_n 2, 1) := by decide +kernel
theorem dX12_of_100 : decode cX12_of 100 = .ok (.bipush 10, 2) := by decide +kernel
theorem dX12_of_102 : decode cX12_of 102 = .ok (.bipush 9, 2) := by decide +kernel
theorem dX12_of_104 : decode cX12_of 104 = .ok (.aload_n 0, 1) := by decide +kernel
theorem dX12_of_105 : decode cX12_of 105 = .ok (.iload_n 1, 1) := by decide +kernel
theorem dX12_of_106 : decode cX12_of 106 = .ok (.iconst 2, 1) := by decide +kernel
theorem dX12_of_107 : decode cX12_of 107 = .ok (.invokevirtual 76, 3) := by decide +kernel
theorem dX12_of_110 : decode cX12_of 110 = .ok (.iadd, 1) := by decide +kernel
theorem dX12_of_111 : decode cX12_of 111 = .ok (.invokestatic 56, 3) := by decide +kernel
theorem dX12_of_114 : decode cX12_of 114 = .ok (.ifCond .eq 17, 3) := by decide +kernel
theorem dX12_of_117 : decode cX12_of 117 = .ok (.aload_n 0, 1) := by decide +kernel
theorem dX12_of_118 : decode cX12_of 118 = .ok (.iload_n 1, 1) := by decide +kernel
theorem dX12_of_119 : decode cX12_of 119 = .ok (.iconst 5, 1) := by decide +kernel
theorem dX12_of_120 : decode cX12_of 120 = .ok (.iload_n 2, 1) := by decide +kernel
theorem dX12_of_121 : decode cX12_of 121 = .ok (.iadd, 1) := by decide +kernel
theorem dX12_of_122 : decode cX12_of 122 = .ok (.bipush 10, 2) := by decide +kernel
theorem dX12_of_124 : decode cX12_of 124 = .ok (.isub, 1) := by decide +kernel
theorem dX12_of_125 : decode cX12_of 125 = .ok (.invokevirtual 76, 3) := by decide +kernel
theorem dX12_of_128 : decode cX12_of 128 = .ok (.goto 4, 3) := by decide +kernel
theorem dX12_of_131 : decode cX12_of 131 = .ok (.iconst (-1), 1) := by decide +kernel
theorem dX12_of_132 : decode cX12_of 132 = .ok (.ireturn, 1) := by decide +kernel
def tX12_of_0 : Nat → Option am_Act := am_nd 58 (am_nd 10 (am_nd 5 (am_nd 1 (am_lf 0 (a_aload 0 1)) (am_nd 2 (am_lf 1 (a_iload 1 2)) (am_lf 2 (a_cvI tT mX12_isPerson 12 1 5)))) (am_nd 8 (am_lf 5 (a_if (fun x => x = nI 0) 8 10)) (am_nd 9 (am_lf 8 (a_const (-1) 9)) (am_lf 9 (a_iret))))) (am_nd 53 (am_nd 11 (am_lf 10 (a_iload 2 11)) (am_nd 52 (am_lf 11 (a_sw [(nI 0, 52), (nI 1, 59), (nI 2, 66), (nI 3, 73), (nI 4, 79), (nI 5, 86), (nI 6, 93)] 99)) (am_lf 52 (a_aload 0 53)))) (am_nd 54 (am_lf 53 (a_iload 1 54)) (am_nd 55 (am_lf 54 (a_const (nI 0) 55)) (am_lf 55 (a_cvI tT mX12_own 12 2 58)))))) (am_nd 66 (am_nd 61 (am_nd 59 (am_lf 58 (a_iret)) (am_nd 60 (am_lf 59 (a_aload 0 60)) (am_lf 60 (a_iload 1 61)))) (am_nd 62 (am_lf 61 (a_const (nI 1) 62)) (am_nd 65 (am_lf 62 (a_cvI tT mX12_own 12 2 65)) (am_lf 65 (a_iret))))) (am_nd 69 (am_nd 67 (am_lf 66 (a_aload 0 67)) (am_nd 68 (am_lf 67 (a_iload 1 68)) (am_lf 68 (a_const (nI 2) 69)))) (am_nd 72 (am_lf 69 (a_cvI tT mX12_own 12 2 72)) (am_nd 73 (am_lf 72 (a_iret)) (am_lf 73 (a_aload 0 74))))))
theorem gX12_of_0 : am_Good tT mX12_of tX12_of_0 := am_nd_ok (am_nd_ok (am_nd_ok (am_nd_ok (am_lf_ok (fun _ => ok_aload_n dX12_of_0 rfl rfl)) (am_nd_ok (am_lf_ok (fun _ => ok_iload_n dX12_of_1 rfl rfl)) (am_lf_ok (fun _ => ok_cvI rfl mw_X12_isPerson (ci := 12) rfl rfl wd_468 wd_469 wd_470 dX12_of_2 rfl)))) (am_nd_ok (am_lf_ok (fun _ => ok_if_ne dX12_of_5 rfl rfl)) (am_nd_ok (am_lf_ok (fun _ => ok_iconst dX12_of_8 cv_iconst_m1 rfl)) (am_lf_ok (fun _ => ok_iret rfl dX12_of_9))))) (am_nd_ok (am_nd_ok (am_lf_ok (fun _ => ok_iload_n dX12_of_10 rfl rfl)) (am_nd_ok (am_lf_ok (fun _ => ok_tsw dX12_of_11 rfl (by decide +kernel) (by decide +kernel))) (am_lf_ok (fun _ => ok_aload_n dX12_of_52 rfl rfl)))) (am_nd_ok (am_lf_ok (fun _ => ok_iload_n dX12_of_53 rfl rfl)) (am_nd_ok (am_lf_ok (fun _ => ok_iconst dX12_of_54 cv_iconst_0 rfl)) (am_lf_ok (fun _ => ok_cvI rfl mw_X12_own (ci := 12) rfl rfl wd_462 wd_463 wd_464 dX12_of_55 rfl)))))) (am_nd_ok (am_nd_ok (am_nd_ok (am_lf_ok (fun _ => ok_iret rfl dX12_of_58)) (am_nd_ok (am_lf_ok (fun _ => ok_aload_n dX12_of_59 rfl rfl)) (am_lf_ok (fun _ => ok_iload_n dX12_of_60 rfl rfl)))) (am_nd_ok (am_lf_ok (fun _ => ok_iconst dX12_of_61 cv_iconst_1 rfl)) (am_nd_ok (am_lf_ok (fun _ => ok_cvI rfl mw_X12_own (ci := 12) rfl rfl wd_462 wd_463 wd_464 dX12_of_62 rfl)) (am_lf_ok (fun _ => ok_iret rfl dX12_of_65))))) (am_nd_ok (am_nd_ok (am_lf_ok (fun _ => ok_aload_n dX12_of_66 rfl rfl)) (am_nd_ok (am_lf_ok (fun _ => ok_iload_n dX12_of_67 rfl rfl)) (am_lf_ok (fun _ => ok_iconst dX12_of_68 cv_iconst_2 rfl)))) (am_nd_ok (am_lf_ok (fun _ => ok_cvI rfl mw_X12_own (ci := 12) rfl rfl wd_462 wd_463 wd_464 dX12_of_69 rfl)) (am_nd_ok (am_lf_ok (fun _ => ok_iret rfl dX12_of_72)) (am_lf_ok (fun _ => ok_aload_n dX12_of_73 rfl rfl))))))
def tX12_of_1 : Nat → Option am_Act := am_nd 92 (am_nd 82 (am_nd 79 (am_nd 75 (am_lf 74 (a_iload 1 75)) (am_nd 78 (am_lf 75 (a_cvI tT mX12_lettersOf 12 1 78)) (am_lf 78 (a_iret)))) (am_nd 80 (am_lf 79 (a_aload 0 80)) (am_nd 81 (am_lf 80 (a_iload 1 81)) (am_lf 81 (a_const (nI 3) 82))))) (am_nd 87 (am_nd 85 (am_lf 82 (a_cvI tT mX12_own 12 2 85)) (am_nd 86 (am_lf 85 (a_iret)) (am_lf 86 (a_aload 0 87)))) (am_nd 88 (am_lf 87 (a_iload 1 88)) (am_nd 89 (am_lf 88 (a_const (nI 4) 89)) (am_lf 89 (a_cvI tT mX12_own 12 2 92)))))) (am_nd 100 (am_nd 95 (am_nd 93 (am_lf 92 (a_iret)) (am_nd 94 (am_lf 93 (a_aload 0 94)) (am_lf 94 (a_iload 1 95)))) (am_nd 98 (am_lf 95 (a_cvI tT mX12_had 12 1 98)) (am_nd 99 (am_lf 98 (a_iret)) (am_lf 99 (a_iload 2 100))))) (am_nd 105 (am_nd 102 (am_lf 100 (a_const (nI 10) 102)) (am_nd 104 (am_lf 102 (a_const (nI 9) 104)) (am_lf 104 (a_aload 0 105)))) (am_nd 106 (am_lf 105 (a_iload 1 106)) (am_nd 107 (am_lf 106 (a_const (nI 2) 107)) (am_lf 107 (a_cvI tT mX12_own 12 2 110))))))
theorem gX12_of_1 : am_Good tT mX12_of tX12_of_1 := am_nd_ok (am_nd_ok (am_nd_ok (am_nd_ok (am_lf_ok (fun _ => ok_iload_n dX12_of_74 rfl rfl)) (am_nd_ok (am_lf_ok (fun _ => ok_cvI rfl mw_X12_lettersOf (ci := 12) rfl rfl wd_559 wd_560 wd_561 dX12_of_75 rfl)) (am_lf_ok (fun _ => ok_iret rfl dX12_of_78)))) (am_nd_ok (am_lf_ok (fun _ => ok_aload_n dX12_of_79 rfl rfl)) (am_nd_ok (am_lf_ok (fun _ => ok_iload_n dX12_of_80 rfl rfl)) (am_lf_ok (fun _ => ok_iconst dX12_of_81 cv_iconst_3 rfl))))) (am_nd_ok (am_nd_ok (am_lf_ok (fun _ => ok_cvI rfl mw_X12_own (ci := 12) rfl rfl wd_462 wd_463 wd_464 dX12_of_82 rfl)) (am_nd_ok (am_lf_ok (fun _ => ok_iret rfl dX12_of_85)) (am_lf_ok (fun _ => ok_aload_n dX12_of_86 rfl rfl)))) (am_nd_ok (am_lf_ok (fun _ => ok_iload_n dX12_of_87 rfl rfl)) (am_nd_ok (am_lf_ok (fun _ => ok_iconst dX12_of_88 cv_iconst_4 rfl)) (am_lf_ok (fun _ => ok_cvI rfl mw_X12_own (ci := 12) rfl rfl wd_462 wd_463 wd_464 dX12_of_89 rfl)))))) (am_nd_ok (am_nd_ok (am_nd_ok (am_lf_ok (fun _ => ok_iret rfl dX12_of_92)) (am_nd_ok (am_lf_ok (fun _ => ok_aload_n dX12_of_93 rfl rfl)) (am_lf_ok (fun _ => ok_iload_n dX12_of_94 rfl rfl)))) (am_nd_ok (am_lf_ok (fun _ => ok_cvI rfl mw_X12_had (ci := 12) rfl rfl wd_587 wd_588 wd_589 dX12_of_95 rfl)) (am_nd_ok (am_lf_ok (fun _ => ok_iret rfl dX12_of_98)) (am_lf_ok (fun _ => ok_iload_n dX12_of_99 rfl rfl))))) (am_nd_ok (am_nd_ok (am_lf_ok (fun _ => ok_bipush dX12_of_100 cv_bipush_10 rfl)) (am_nd_ok (am_lf_ok (fun _ => ok_bipush dX12_of_102 cv_bipush_9 rfl)) (am_lf_ok (fun _ => ok_aload_n dX12_of_104 rfl rfl)))) (am_nd_ok (am_lf_ok (fun _ => ok_iload_n dX12_of_105 rfl rfl)) (am_nd_ok (am_lf_ok (fun _ => ok_iconst dX12_of_106 cv_iconst_2 rfl)) (am_lf_ok (fun _ => ok_cvI rfl mw_X12_own (ci := 12) rfl rfl wd_462 wd_463 wd_464 dX12_of_107 rfl))))))
def tX12_of_2 : Nat → Option am_Act := am_nd 121 (am_nd 117 (am_nd 111 (am_lf 110 (a_bin (fun x y => x + y) 111)) (am_nd 114 (am_lf 111 (a_csI mX12_isIn 3 114)) (am_lf 114 (a_if (fun x => x = nI 0) 131 117)))) (am_nd 119 (am_nd 118 (am_lf 117 (a_aload 0 118)) (am_lf 118 (a_iload 1 119))) (am_nd 120 (am_lf 119 (a_const (nI 5) 120)) (am_lf 120 (a_iload 2 121))))) (am_nd 125 (am_nd 122 (am_lf 121 (a_bin (fun x y => x + y) 122)) (am_nd 124 (am_lf 122 (a_const (nI 10) 124)) (am_lf 124 (a_bin (fun x y => x - y) 125)))) (am_nd 131 (am_nd 128 (am_lf 125 (a_cvI tT mX12_own 12 2 128)) (am_lf 128 (a_goto 132))) (am_nd 132 (am_lf 131 (a_const (-1) 132)) (am_lf 132 (a_iret)))))
theorem gX12_of_2 : am_Good tT mX12_of tX12_of_2 := am_nd_ok (am_nd_ok (am_nd_ok (am_lf_ok (fun _ => ok_iadd dX12_of_110 rfl)) (am_nd_ok (am_lf_ok (fun _ => ok_csI rfl mw_X12_isIn wd_449 wd_450 dX12_of_111 rfl)) (am_lf_ok (fun _ => ok_if_eq dX12_of_114 rfl rfl)))) (am_nd_ok (am_nd_ok (am_lf_ok (fun _ => ok_aload_n dX12_of_117 rfl rfl)) (am_lf_ok (fun _ => ok_iload_n dX12_of_118 rfl rfl))) (am_nd_ok (am_lf_ok (fun _ => ok_iconst dX12_of_119 cv_iconst_5 rfl)) (am_lf_ok (fun _ => ok_iload_n dX12_of_120 rfl rfl))))) (am_nd_ok (am_nd_ok (am_lf_ok (fun _ => ok_iadd dX12_of_121 rfl)) (am_nd_ok (am_lf_ok (fun _ => ok_bipush dX12_of_122 cv_bipush_10 rfl)) (am_lf_ok (fun _ => ok_isub dX12_of_124 rfl)))) (am_nd_ok (am_nd_ok (am_lf_ok (fun _ => ok_cvI rfl mw_X12_own (ci := 12) rfl rfl wd_462 wd_463 wd_464 dX12_of_125 rfl)) (am_lf_ok (fun _ => ok_goto dX12_of_128 rfl))) (am_nd_ok (am_lf_ok (fun _ => ok_iconst dX12_of_131 cv_iconst_m1 rfl)) (am_lf_ok (fun _ => ok_iret rfl dX12_of_132)))))
def tX12_of : Nat → Option am_Act := am_nd 74 (tX12_of_0) (am_nd 110 (tX12_of_1) (tX12_of_2))
theorem gX12_of : am_Good tT mX12_of tX12_of := am_nd_ok (gX12_of_0) (am_nd_ok (gX12_of_1) (gX12_of_2))
theorem dX12_kept_0 : decode cX12_kept 0 = .ok (.aload_n 0, 1) := by decide +kernel
theorem dX12_kept_1 : decode cX12_kept 1 = .ok (.iload_n 1, 1) := by decide +kernel
theorem dX12_kept_2 : decode cX12_kept 2 = .ok (.invokevirtual 243, 3) := by decide +kernel
theorem dX12_kept_5 : decode cX12_kept 5 = .ok (.ifCond .eq 29, 3) := by decide +kernel
theorem dX12_kept_8 : decode cX12_kept 8 = .ok (.aload_n 0, 1) := by decide +kernel
theorem dX12_kept_9 : decode cX12_kept 9 = .ok (.iload_n 2, 1) := by decide +kernel
theorem dX12_kept_10 : decode cX12_kept 10 = .ok (.invokevirtual 87, 3) := by decide +kernel
theorem dX12_kept_13 : decode cX12_kept 13 = .ok (.ifCond .eq 21, 3) := by decide +kernel
theorem dX12_kept_16 : decode cX12_kept 16 = .ok (.aload_n 0, 1) := by decide +kernel
theorem dX12_kept_17 : decode cX12_kept 17 = .ok (.getfield 7, 3) := by decide +kernel
theorem dX12_kept_20 : decode cX12_kept 20 = .ok (.sipush 220, 3) := by decide +kernel
theorem dX12_kept_23 : decode cX12_kept 23 = .ok (.bipush 20, 2) := by decide +kernel
theorem dX12_kept_25 : decode cX12_kept 25 = .ok (.iload_n 1, 1) := by decide +kernel
theorem dX12_kept_26 : decode cX12_kept 26 = .ok (.imul, 1) := by decide +kernel
theorem dX12_kept_27 : decode cX12_kept 27 = .ok (.iadd, 1) := by decide +kernel
theorem dX12_kept_28 : decode cX12_kept 28 = .ok (.iload_n 2, 1) := by decide +kernel
theorem dX12_kept_29 : decode cX12_kept 29 = .ok (.iadd, 1) := by decide +kernel
theorem dX12_kept_30 : decode cX12_kept 30 = .ok (.iaload, 1) := by decide +kernel
theorem dX12_kept_31 : decode cX12_kept 31 = .ok (.goto 4, 3) := by decide +kernel
theorem dX12_kept_34 : decode cX12_kept 34 = .ok (.iconst (-1), 1) := by decide +kernel
theorem dX12_kept_35 : decode cX12_kept 35 = .ok (.ireturn, 1) := by decide +kernel
def tX12_kept_0 : Nat → Option am_Act := am_nd 20 (am_nd 9 (am_nd 2 (am_nd 1 (am_lf 0 (a_aload 0 1)) (am_lf 1 (a_iload 1 2))) (am_nd 5 (am_lf 2 (a_cvI tT mX12_isBridge 12 1 5)) (am_nd 8 (am_lf 5 (a_if (fun x => x = nI 0) 34 8)) (am_lf 8 (a_aload 0 9))))) (am_nd 13 (am_nd 10 (am_lf 9 (a_iload 2 10)) (am_lf 10 (a_cvI tT mX12_isName 12 1 13))) (am_nd 16 (am_lf 13 (a_if (fun x => x = nI 0) 34 16)) (am_nd 17 (am_lf 16 (a_aload 0 17)) (am_lf 17 (a_get tT 12 0 20)))))) (am_nd 28 (am_nd 25 (am_nd 23 (am_lf 20 (a_const (nI 220) 23)) (am_lf 23 (a_const (nI 20) 25))) (am_nd 26 (am_lf 25 (a_iload 1 26)) (am_nd 27 (am_lf 26 (a_bin (fun x y => x * y) 27)) (am_lf 27 (a_bin (fun x y => x + y) 28))))) (am_nd 31 (am_nd 29 (am_lf 28 (a_iload 2 29)) (am_nd 30 (am_lf 29 (a_bin (fun x y => x + y) 30)) (am_lf 30 (a_iald tT 31)))) (am_nd 34 (am_lf 31 (a_goto 35)) (am_nd 35 (am_lf 34 (a_const (-1) 35)) (am_lf 35 (a_iret))))))
theorem gX12_kept_0 : am_Good tT mX12_kept tX12_kept_0 := am_nd_ok (am_nd_ok (am_nd_ok (am_nd_ok (am_lf_ok (fun _ => ok_aload_n dX12_kept_0 rfl rfl)) (am_lf_ok (fun _ => ok_iload_n dX12_kept_1 rfl rfl))) (am_nd_ok (am_lf_ok (fun _ => ok_cvI rfl mw_X12_isBridge (ci := 12) rfl rfl wd_569 wd_570 wd_571 dX12_kept_2 rfl)) (am_nd_ok (am_lf_ok (fun _ => ok_if_eq dX12_kept_5 rfl rfl)) (am_lf_ok (fun _ => ok_aload_n dX12_kept_8 rfl rfl))))) (am_nd_ok (am_nd_ok (am_lf_ok (fun _ => ok_iload_n dX12_kept_9 rfl rfl)) (am_lf_ok (fun _ => ok_cvI rfl mw_X12_isName (ci := 12) rfl rfl wd_471 wd_472 wd_473 dX12_kept_10 rfl))) (am_nd_ok (am_lf_ok (fun _ => ok_if_eq dX12_kept_13 rfl rfl)) (am_nd_ok (am_lf_ok (fun _ => ok_aload_n dX12_kept_16 rfl rfl)) (am_lf_ok (fun _ => ok_get (C := RX12) (TT := TX12) (N := 31) rfl inw_X12 (Nat.le_of_ble_eq_true rfl) wd_448 dX12_kept_17 rfl)))))) (am_nd_ok (am_nd_ok (am_nd_ok (am_lf_ok (fun _ => ok_sipush dX12_kept_20 cv_sipush_220 rfl)) (am_lf_ok (fun _ => ok_bipush dX12_kept_23 cv_bipush_20 rfl))) (am_nd_ok (am_lf_ok (fun _ => ok_iload_n dX12_kept_25 rfl rfl)) (am_nd_ok (am_lf_ok (fun _ => ok_imul dX12_kept_26 rfl)) (am_lf_ok (fun _ => ok_iadd dX12_kept_27 rfl))))) (am_nd_ok (am_nd_ok (am_lf_ok (fun _ => ok_iload_n dX12_kept_28 rfl rfl)) (am_nd_ok (am_lf_ok (fun _ => ok_iadd dX12_kept_29 rfl)) (am_lf_ok (fun _ => ok_iald dX12_kept_30 rfl)))) (am_nd_ok (am_lf_ok (fun _ => ok_goto dX12_kept_31 rfl)) (am_nd_ok (am_lf_ok (fun _ => ok_iconst dX12_kept_34 cv_iconst_m1 rfl)) (am_lf_ok (fun _ => ok_iret rfl dX12_kept_35))))))
def tX12_kept : Nat → Option am_Act := tX12_kept_0
theorem gX12_kept : am_Good tT mX12_kept tX12_kept := gX12_kept_0
theorem dX12_book_0 : decode cX12_book 0 = .ok (.iload_n 1, 1) := by decide +kernel
theorem dX12_book_1 : decode cX12_book 1 = .ok (.iconst 0, 1) := by decide +kernel
theorem dX12_book_2 : decode cX12_book 2 = .ok (.aload_n 0, 1) := by decide +kernel
theorem dX12_book_3 : decode cX12_book 3 = .ok (.getfield 7, 3) := by decide +kernel
theorem dX12_book_6 : decode cX12_book 6 = .ok (.iconst 4, 1) := by decide +kernel
theorem dX12_book_7 : decode cX12_book 7 = .ok (.iaload, 1) := by decide +kernel
theorem dX12_book_8 : decode cX12_book 8 = .ok (.iconst 1, 1) := by decide +kernel
theorem dX12_book_9 : decode cX12_book 9 = .ok (.isub, 1) := by decide +kernel
theorem dX12_book_10 : decode cX12_book 10 = .ok (.invokestatic 56, 3) := by decide +kernel
theorem dX12_book_13 : decode cX12_book 13 = .ok (.ifCond .eq 29, 3) := by decide +kernel
theorem dX12_book_16 : decode cX12_book 16 = .ok (.iload_n 2, 1) := by decide +kernel
theorem dX12_book_17 : decode cX12_book 17 = .ok (.iconst 0, 1) := by decide +kernel
theorem dX12_book_18 : decode cX12_book 18 = .ok (.iconst 3, 1) := by decide +kernel
theorem dX12_book_19 : decode cX12_book 19 = .ok (.invokestatic 56, 3) := by decide +kernel
theorem dX12_book_22 : decode cX12_book 22 = .ok (.ifCond .eq 20, 3) := by decide +kernel
theorem dX12_book_25 : decode cX12_book 25 = .ok (.aload_n 0, 1) := by decide +kernel
theorem dX12_book_26 : decode cX12_book 26 = .ok (.getfield 7, 3) := by decide +kernel
theorem dX12_book_29 : decode cX12_book 29 = .ok (.sipush 460, 3) := by decide +kernel
theorem dX12_book_32 : decode cX12_book 32 = .ok (.iconst 4, 1) := by decide +kernel
theorem dX12_book_33 : decode cX12_book 33 = .ok (.iload_n 1, 1) := by decide +kernel
theorem dX12_book_34 : decode cX12_book 34 = .ok (.imul, 1) := by decide +kernel
theorem dX12_book_35 : decode cX12_book 35 = .ok (.iadd, 1) := by decide +kernel
theorem dX12_book_36 : decode cX12_book 36 = .ok (.iload_n 2, 1) := by decide +kernel
theorem dX12_book_37 : decode cX12_book 37 = .ok (.iadd, 1) := by decide +kernel
theorem dX12_book_38 : decode cX12_book 38 = .ok (.iaload, 1) := by decide +kernel
theorem dX12_book_39 : decode cX12_book 39 = .ok (.goto 4, 3) := by decide +kernel
theorem dX12_book_42 : decode cX12_book 42 = .ok (.iconst (-1), 1) := by decide +kernel
theorem dX12_book_43 : decode cX12_book 43 = .ok (.ireturn, 1) := by decide +kernel
def tX12_book_0 : Nat → Option am_Act := am_nd 18 (am_nd 8 (am_nd 3 (am_nd 1 (am_lf 0 (a_iload 1 1)) (am_nd 2 (am_lf 1 (a_const (nI 0) 2)) (am_lf 2 (a_aload 0 3)))) (am_nd 6 (am_lf 3 (a_get tT 12 0 6)) (am_nd 7 (am_lf 6 (a_const (nI 4) 7)) (am_lf 7 (a_iald tT 8))))) (am_nd 13 (am_nd 9 (am_lf 8 (a_const (nI 1) 9)) (am_nd 10 (am_lf 9 (a_bin (fun x y => x - y) 10)) (am_lf 10 (a_csI mX12_isIn 3 13)))) (am_nd 16 (am_lf 13 (a_if (fun x => x = nI 0) 42 16)) (am_nd 17 (am_lf 16 (a_iload 2 17)) (am_lf 17 (a_const (nI 0) 18)))))) (am_nd 32 (am_nd 25 (am_nd 19 (am_lf 18 (a_const (nI 3) 19)) (am_nd 22 (am_lf 19 (a_csI mX12_isIn 3 22)) (am_lf 22 (a_if (fun x => x = nI 0) 42 25)))) (am_nd 26 (am_lf 25 (a_aload 0 26)) (am_nd 29 (am_lf 26 (a_get tT 12 0 29)) (am_lf 29 (a_const (nI 460) 32))))) (am_nd 35 (am_nd 33 (am_lf 32 (a_const (nI 4) 33)) (am_nd 34 (am_lf 33 (a_iload 1 34)) (am_lf 34 (a_bin (fun x y => x * y) 35)))) (am_nd 36 (am_lf 35 (a_bin (fun x y => x + y) 36)) (am_nd 37 (am_lf 36 (a_iload 2 37)) (am_lf 37 (a_bin (fun x y => x + y) 38))))))
theorem gX12_book_0 : am_Good tT mX12_book tX12_book_0 := am_nd_ok (am_nd_ok (am_nd_ok (am_nd_ok (am_lf_ok (fun _ => ok_iload_n dX12_book_0 rfl rfl)) (am_nd_ok (am_lf_ok (fun _ => ok_iconst dX12_book_1 cv_iconst_0 rfl)) (am_lf_ok (fun _ => ok_aload_n dX12_book_2 rfl rfl)))) (am_nd_ok (am_lf_ok (fun _ => ok_get (C := RX12) (TT := TX12) (N := 31) rfl inw_X12 (Nat.le_of_ble_eq_true rfl) wd_448 dX12_book_3 rfl)) (am_nd_ok (am_lf_ok (fun _ => ok_iconst dX12_book_6 cv_iconst_4 rfl)) (am_lf_ok (fun _ => ok_iald dX12_book_7 rfl))))) (am_nd_ok (am_nd_ok (am_lf_ok (fun _ => ok_iconst dX12_book_8 cv_iconst_1 rfl)) (am_nd_ok (am_lf_ok (fun _ => ok_isub dX12_book_9 rfl)) (am_lf_ok (fun _ => ok_csI rfl mw_X12_isIn wd_449 wd_450 dX12_book_10 rfl)))) (am_nd_ok (am_lf_ok (fun _ => ok_if_eq dX12_book_13 rfl rfl)) (am_nd_ok (am_lf_ok (fun _ => ok_iload_n dX12_book_16 rfl rfl)) (am_lf_ok (fun _ => ok_iconst dX12_book_17 cv_iconst_0 rfl)))))) (am_nd_ok (am_nd_ok (am_nd_ok (am_lf_ok (fun _ => ok_iconst dX12_book_18 cv_iconst_3 rfl)) (am_nd_ok (am_lf_ok (fun _ => ok_csI rfl mw_X12_isIn wd_449 wd_450 dX12_book_19 rfl)) (am_lf_ok (fun _ => ok_if_eq dX12_book_22 rfl rfl)))) (am_nd_ok (am_lf_ok (fun _ => ok_aload_n dX12_book_25 rfl rfl)) (am_nd_ok (am_lf_ok (fun _ => ok_get (C := RX12) (TT := TX12) (N := 31) rfl inw_X12 (Nat.le_of_ble_eq_true rfl) wd_448 dX12_book_26 rfl)) (am_lf_ok (fun _ => ok_sipush dX12_book_29 cv_sipush_460 rfl))))) (am_nd_ok (am_nd_ok (am_lf_ok (fun _ => ok_iconst dX12_book_32 cv_iconst_4 rfl)) (am_nd_ok (am_lf_ok (fun _ => ok_iload_n dX12_book_33 rfl rfl)) (am_lf_ok (fun _ => ok_imul dX12_book_34 rfl)))) (am_nd_ok (am_lf_ok (fun _ => ok_iadd dX12_book_35 rfl)) (am_nd_ok (am_lf_ok (fun _ => ok_iload_n dX12_book_36 rfl rfl)) (am_lf_ok (fun _ => ok_iadd dX12_book_37 rfl))))))
def tX12_book_1 : Nat → Option am_Act := am_nd 42 (am_nd 39 (am_lf 38 (a_iald tT 39)) (am_lf 39 (a_goto 43))) (am_nd 43 (am_lf 42 (a_const (-1) 43)) (am_lf 43 (a_iret)))
theorem gX12_book_1 : am_Good tT mX12_book tX12_book_1 := am_nd_ok (am_nd_ok (am_lf_ok (fun _ => ok_iald dX12_book_38 rfl)) (am_lf_ok (fun _ => ok_goto dX12_book_39 rfl))) (am_nd_ok (am_lf_ok (fun _ => ok_iconst dX12_book_42 cv_iconst_m1 rfl)) (am_lf_ok (fun _ => ok_iret rfl dX12_book_43)))
def tX12_book : Nat → Option am_Act := am_nd 38 (tX12_book_0) (tX12_book_1)
theorem gX12_book : am_Good tT mX12_book tX12_book := am_nd_ok (gX12_book_0) (gX12_book_1)
theorem dX12_called_0 : decode cX12_called 0 = .ok (.iload_n 1, 1) := by decide +kernel
theorem dX12_called_1 : decode cX12_called 1 = .ok (.invokestatic 68, 3) := by decide +kernel
theorem dX12_called_4 : decode cX12_called 4 = .ok (.ifCond .eq 11, 3) := by decide +kernel
theorem dX12_called_7 : decode cX12_called 7 = .ok (.aload_n 0, 1) := by decide +kernel
theorem dX12_called_8 : decode cX12_called 8 = .ok (.iload_n 2, 1) := by decide +kernel
theorem dX12_called_9 : decode cX12_called 9 = .ok (.invokevirtual 87, 3) := by decide +kernel
theorem dX12_called_12 : decode cX12_called 12 = .ok (.ifCond .ne 5, 3) := by decide +kernel
theorem dX12_called_15 : decode cX12_called 15 = .ok (.iconst (-1), 1) := by decide +kernel
theorem dX12_called_16 : decode cX12_called 16 = .ok (.ireturn, 1) := by decide +kernel
theorem dX12_called_17 : decode cX12_called 17 = .ok (.iconst 0, 1) := by decide +kernel
theorem dX12_called_18 : decode cX12_called 18 = .ok (.istore_n 3, 1) := by decide +kernel
theorem dX12_called_19 : decode cX12_called 19 = .ok (.iconst 0, 1) := by decide +kernel
theorem dX12_called_20 : decode cX12_called 20 = .ok (.istore 4, 2) := by decide +kernel
theorem dX12_called_22 : decode cX12_called 22 = .ok (.iload 4, 2) := by decide +kernel
theorem dX12_called_24 : decode cX12_called 24 = .ok (.aload_n 0, 1) := by decide +kernel
theorem dX12_called_25 : decode cX12_called 25 = .ok (.getfield 7, 3) := by decide +kernel
theorem dX12_called_28 : decode cX12_called 28 = .ok (.iconst 1, 1) := by decide +kernel
theorem dX12_called_29 : decode cX12_called 29 = .ok (.iaload, 1) := by decide +kernel
theorem dX12_called_30 : decode cX12_called 30 = .ok (.if_icmp .ge 41, 3) := by decide +kernel
theorem dX12_called_33 : decode cX12_called 33 = .ok (.iload_n 3, 1) := by decide +kernel
theorem dX12_called_34 : decode cX12_called 34 = .ok (.aload_n 0, 1) := by decide +kernel
theorem dX12_called_35 : decode cX12_called 35 = .ok (.iload 4, 2) := by decide +kernel
theorem dX12_called_37 : decode cX12_called 37 = .ok (.iconst 0, 1) := by decide +kernel
theorem dX12_called_38 : decode cX12_called 38 = .ok (.invokevirtual 76, 3) := by decide +kernel
theorem dX12_called_41 : decode cX12_called 41 = .ok (.iload_n 1, 1) := by decide +kernel
theorem dX12_called_42 : decode cX12_called 42 = .ok (.if_icmp .ne 20, 3) := by decide +kernel
theorem dX12_called_45 : decode cX12_called 45 = .ok (.aload_n 0, 1) := by decide +kernel
theorem dX12_called_46 : decode cX12_called 46 = .ok (.iload 4, 2) := by decide +kernel
theorem dX12_called_48 : decode cX12_called 48 = .ok (.iload_n 2, 1) := by decide +kernel
theorem dX12_called_49 : decode cX12_called 49 = .ok (.invokevirtual 80, 3) := by decide +kernel
theorem dX12_called_52 : decode cX12_called 52 = .ok (.ifCond .eq 10, 3) := by decide +kernel
theorem dX12_called_55 : decode cX12_called 55 = .ok (.iconst 1, 1) := by decide +kernel
theorem dX12_called_56 : decode cX12_called 56 = .ok (.iload 4, 2) := by decide +kernel
theorem dX12_called_58 : decode cX12_called 58 = .ok (.ishl, 1) := by decide +kernel
theorem dX12_called_59 : decode cX12_called 59 = .ok (.goto 4, 3) := by decide +kernel
theorem dX12_called_62 : decode cX12_called 62 = .ok (.iconst 0, 1) := by decide +kernel
theorem dX12_called_63 : decode cX12_called 63 = .ok (.ior, 1) := by decide +kernel
theorem dX12_called_64 : decode cX12_called 64 = .ok (.istore_n 3, 1) := by decide +kernel
theorem dX12_called_65 : decode cX12_called 65 = .ok (.iinc 4 1, 3) := by decide +kernel
theorem dX12_called_68 : decode cX12_called 68 = .ok (.goto (-46), 3) := by decide +kernel
theorem dX12_called_71 : decode cX12_called 71 = .ok (.iload_n 3, 1) := by decide +kernel
theorem dX12_called_72 : decode cX12_called 72 = .ok (.ireturn, 1) := by decide +kernel
def tX12_called_0 : Nat → Option am_Act := am_nd 20 (am_nd 12 (am_nd 7 (am_nd 1 (am_lf 0 (a_iload 1 1)) (am_nd 4 (am_lf 1 (a_csI mX12_isPlace 1 4)) (am_lf 4 (a_if (fun x => x = nI 0) 15 7)))) (am_nd 8 (am_lf 7 (a_aload 0 8)) (am_nd 9 (am_lf 8 (a_iload 2 9)) (am_lf 9 (a_cvI tT mX12_isName 12 1 12))))) (am_nd 17 (am_nd 15 (am_lf 12 (a_if (fun x => x = nI 0) 15 17)) (am_nd 16 (am_lf 15 (a_const (-1) 16)) (am_lf 16 (a_iret)))) (am_nd 18 (am_lf 17 (a_const (nI 0) 18)) (am_nd 19 (am_lf 18 (a_istore 3 19)) (am_lf 19 (a_const (nI 0) 20)))))) (am_nd 30 (am_nd 25 (am_nd 22 (am_lf 20 (a_istore 4 22)) (am_nd 24 (am_lf 22 (a_iload 4 24)) (am_lf 24 (a_aload 0 25)))) (am_nd 28 (am_lf 25 (a_get tT 12 0 28)) (am_nd 29 (am_lf 28 (a_const (nI 1) 29)) (am_lf 29 (a_iald tT 30))))) (am_nd 35 (am_nd 33 (am_lf 30 (a_cmp (fun x y => y ≤ x) 71 33)) (am_nd 34 (am_lf 33 (a_iload 3 34)) (am_lf 34 (a_aload 0 35)))) (am_nd 37 (am_lf 35 (a_iload 4 37)) (am_nd 38 (am_lf 37 (a_const (nI 0) 38)) (am_lf 38 (a_cvI tT mX12_own 12 2 41))))))
theorem gX12_called_0 : am_Good tT mX12_called tX12_called_0 := am_nd_ok (am_nd_ok (am_nd_ok (am_nd_ok (am_lf_ok (fun _ => ok_iload_n dX12_called_0 rfl rfl)) (am_nd_ok (am_lf_ok (fun _ => ok_csI rfl mw_X12_isPlace wd_457 wd_458 dX12_called_1 rfl)) (am_lf_ok (fun _ => ok_if_eq dX12_called_4 rfl rfl)))) (am_nd_ok (am_lf_ok (fun _ => ok_aload_n dX12_called_7 rfl rfl)) (am_nd_ok (am_lf_ok (fun _ => ok_iload_n dX12_called_8 rfl rfl)) (am_lf_ok (fun _ => ok_cvI rfl mw_X12_isName (ci := 12) rfl rfl wd_471 wd_472 wd_473 dX12_called_9 rfl))))) (am_nd_ok (am_nd_ok (am_lf_ok (fun _ => ok_if_ne dX12_called_12 rfl rfl)) (am_nd_ok (am_lf_ok (fun _ => ok_iconst dX12_called_15 cv_iconst_m1 rfl)) (am_lf_ok (fun _ => ok_iret rfl dX12_called_16)))) (am_nd_ok (am_lf_ok (fun _ => ok_iconst dX12_called_17 cv_iconst_0 rfl)) (am_nd_ok (am_lf_ok (fun _ => ok_istore_n dX12_called_18 rfl (Nat.le_of_ble_eq_true rfl) rfl)) (am_lf_ok (fun _ => ok_iconst dX12_called_19 cv_iconst_0 rfl)))))) (am_nd_ok (am_nd_ok (am_nd_ok (am_lf_ok (fun _ => ok_istore dX12_called_20 (Nat.le_of_ble_eq_true rfl) rfl)) (am_nd_ok (am_lf_ok (fun _ => ok_iload dX12_called_22 rfl)) (am_lf_ok (fun _ => ok_aload_n dX12_called_24 rfl rfl)))) (am_nd_ok (am_lf_ok (fun _ => ok_get (C := RX12) (TT := TX12) (N := 31) rfl inw_X12 (Nat.le_of_ble_eq_true rfl) wd_448 dX12_called_25 rfl)) (am_nd_ok (am_lf_ok (fun _ => ok_iconst dX12_called_28 cv_iconst_1 rfl)) (am_lf_ok (fun _ => ok_iald dX12_called_29 rfl))))) (am_nd_ok (am_nd_ok (am_lf_ok (fun _ => ok_cmp_ge dX12_called_30 rfl rfl)) (am_nd_ok (am_lf_ok (fun _ => ok_iload_n dX12_called_33 rfl rfl)) (am_lf_ok (fun _ => ok_aload_n dX12_called_34 rfl rfl)))) (am_nd_ok (am_lf_ok (fun _ => ok_iload dX12_called_35 rfl)) (am_nd_ok (am_lf_ok (fun _ => ok_iconst dX12_called_37 cv_iconst_0 rfl)) (am_lf_ok (fun _ => ok_cvI rfl mw_X12_own (ci := 12) rfl rfl wd_462 wd_463 wd_464 dX12_called_38 rfl))))))
def tX12_called_1 : Nat → Option am_Act := am_nd 58 (am_nd 48 (am_nd 45 (am_nd 42 (am_lf 41 (a_iload 1 42)) (am_lf 42 (a_cmp (fun x y => x = y) 45 62))) (am_nd 46 (am_lf 45 (a_aload 0 46)) (am_lf 46 (a_iload 4 48)))) (am_nd 52 (am_nd 49 (am_lf 48 (a_iload 2 49)) (am_lf 49 (a_cvI tT mX12_has 12 2 52))) (am_nd 55 (am_lf 52 (a_if (fun x => x = nI 0) 62 55)) (am_nd 56 (am_lf 55 (a_const (nI 1) 56)) (am_lf 56 (a_iload 4 58)))))) (am_nd 64 (am_nd 62 (am_nd 59 (am_lf 58 (a_bin (fun x y => x <<< (y &&& 31)) 59)) (am_lf 59 (a_goto 63))) (am_nd 63 (am_lf 62 (a_const (nI 0) 63)) (am_lf 63 (a_bin (fun x y => x ||| y) 64)))) (am_nd 68 (am_nd 65 (am_lf 64 (a_istore 3 65)) (am_lf 65 (a_iinc 4 (nI 1) 68))) (am_nd 71 (am_lf 68 (a_goto 22)) (am_nd 72 (am_lf 71 (a_iload 3 72)) (am_lf 72 (a_iret))))))
theorem gX12_called_1 : am_Good tT mX12_called tX12_called_1 := am_nd_ok (am_nd_ok (am_nd_ok (am_nd_ok (am_lf_ok (fun _ => ok_iload_n dX12_called_41 rfl rfl)) (am_lf_ok (fun _ => ok_cmp_ne dX12_called_42 rfl rfl))) (am_nd_ok (am_lf_ok (fun _ => ok_aload_n dX12_called_45 rfl rfl)) (am_lf_ok (fun _ => ok_iload dX12_called_46 rfl)))) (am_nd_ok (am_nd_ok (am_lf_ok (fun _ => ok_iload_n dX12_called_48 rfl rfl)) (am_lf_ok (fun _ => ok_cvI rfl mw_X12_has (ci := 12) rfl rfl wd_465 wd_466 wd_467 dX12_called_49 rfl))) (am_nd_ok (am_lf_ok (fun _ => ok_if_eq dX12_called_52 rfl rfl)) (am_nd_ok (am_lf_ok (fun _ => ok_iconst dX12_called_55 cv_iconst_1 rfl)) (am_lf_ok (fun _ => ok_iload dX12_called_56 rfl)))))) (am_nd_ok (am_nd_ok (am_nd_ok (am_lf_ok (fun _ => ok_ishl dX12_called_58 rfl)) (am_lf_ok (fun _ => ok_goto dX12_called_59 rfl))) (am_nd_ok (am_lf_ok (fun _ => ok_iconst dX12_called_62 cv_iconst_0 rfl)) (am_lf_ok (fun _ => ok_ior dX12_called_63 rfl)))) (am_nd_ok (am_nd_ok (am_lf_ok (fun _ => ok_istore_n dX12_called_64 rfl (Nat.le_of_ble_eq_true rfl) rfl)) (am_lf_ok (fun _ => ok_iinc dX12_called_65 cv_iconst_1 (Nat.le_of_ble_eq_true rfl) rfl))) (am_nd_ok (am_lf_ok (fun _ => ok_goto dX12_called_68 rfl)) (am_nd_ok (am_lf_ok (fun _ => ok_iload_n dX12_called_71 rfl rfl)) (am_lf_ok (fun _ => ok_iret rfl dX12_called_72))))))
def tX12_called : Nat → Option am_Act := am_nd 41 (tX12_called_0) (tX12_called_1)
theorem gX12_called : am_Good tT mX12_called tX12_called := am_nd_ok (gX12_called_0) (gX12_called_1)
theorem dX12_aloneOf_0 : decode cX12_aloneOf 0 = .ok (.iconst 0, 1) := by decide +kernel
theorem dX12_aloneOf_1 : decode cX12_aloneOf 1 = .ok (.istore_n 2, 1) := by decide +kernel
theorem dX12_aloneOf_2 : decode cX12_aloneOf 2 = .ok (.iconst 0, 1) := by decide +kernel
theorem dX12_aloneOf_3 : decode cX12_aloneOf 3 = .ok (.istore_n 3, 1) := by decide +kernel
theorem dX12_aloneOf_4 : decode cX12_aloneOf 4 = .ok (.iload_n 3, 1) := by decide +kernel
theorem dX12_aloneOf_5 : decode cX12_aloneOf 5 = .ok (.aload_n 0, 1) := by decide +kernel
theorem dX12_aloneOf_6 : decode cX12_aloneOf 6 = .ok (.getfield 7, 3) := by decide +kernel
theorem dX12_aloneOf_9 : decode cX12_aloneOf 9 = .ok (.iconst 1, 1) := by decide +kernel
theorem dX12_aloneOf_10 : decode cX12_aloneOf 10 = .ok (.iaload, 1) := by decide +kernel
theorem dX12_aloneOf_11 : decode cX12_aloneOf 11 = .ok (.if_icmp .ge 97, 3) := by decide +kernel
theorem dX12_aloneOf_14 : decode cX12_aloneOf 14 = .ok (.iload_n 1, 1) := by decide +kernel
theorem dX12_aloneOf_15 : decode cX12_aloneOf 15 = .ok (.iload_n 3, 1) := by decide +kernel
theorem dX12_aloneOf_16 : decode cX12_aloneOf 16 = .ok (.ishr, 1) := by decide +kernel
theorem dX12_aloneOf_17 : decode cX12_aloneOf 17 = .ok (.iconst 1, 1) := by decide +kernel
theorem dX12_aloneOf_18 : decode cX12_aloneOf 18 = .ok (.iand, 1) := by decide +kernel
theorem dX12_aloneOf_19 : decode cX12_aloneOf 19 = .ok (.ifCond .ne 6, 3) := by decide +kernel
theorem dX12_aloneOf_22 : decode cX12_aloneOf 22 = .ok (.goto 80, 3) := by decide +kernel
theorem dX12_aloneOf_25 : decode cX12_aloneOf 25 = .ok (.iconst 0, 1) := by decide +kernel
theorem dX12_aloneOf_26 : decode cX12_aloneOf 26 = .ok (.istore 4, 2) := by decide +kernel
theorem dX12_aloneOf_28 : decode cX12_aloneOf 28 = .ok (.iconst 0, 1) := by decide +kernel
theorem dX12_aloneOf_29 : decode cX12_aloneOf 29 = .ok (.istore 5, 2) := by decide +kernel
theorem dX12_aloneOf_31 : decode cX12_aloneOf 31 = .ok (.iload 5, 2) := by decide +kernel
theorem dX12_aloneOf_33 : decode cX12_aloneOf 33 = .ok (.aload_n 0, 1) := by decide +kernel
theorem dX12_aloneOf_34 : decode cX12_aloneOf 34 = .ok (.getfield 7, 3) := by decide +kernel
theorem dX12_aloneOf_37 : decode cX12_aloneOf 37 = .ok (.iconst 1, 1) := by decide +kernel
theorem dX12_aloneOf_38 : decode cX12_aloneOf 38 = .ok (.iaload, 1) := by decide +kernel
theorem dX12_aloneOf_39 : decode cX12_aloneOf 39 = .ok (.if_icmp .ge 40, 3) := by decide +kernel
theorem dX12_aloneOf_42 : decode cX12_aloneOf 42 = .ok (.iload 4, 2) := by decide +kernel
theorem dX12_aloneOf_44 : decode cX12_aloneOf 44 = .ok (.iload 5, 2) := by decide +kernel
theorem dX12_aloneOf_46 : decode cX12_aloneOf 46 = .ok (.iload_n 3, 1) := by decide +kernel
theorem dX12_aloneOf_47 : decode cX12_aloneOf 47 = .ok (.if_icmp .eq 22, 3) := by decide +kernel
theorem dX12_aloneOf_50 : decode cX12_aloneOf 50 = .ok (.iload_n 1, 1) := by decide +kernel
theorem dX12_aloneOf_51 : decode cX12_aloneOf 51 = .ok (.iload 5, 2) := by decide +kernel
theorem dX12_aloneOf_53 : decode cX12_aloneOf 53 = .ok (.ishr, 1) := by decide +kernel
theorem dX12_aloneOf_54 : decode cX12_aloneOf 54 = .ok (.iconst 1, 1) := by decide +kernel
theorem dX12_aloneOf_55 : decode cX12_aloneOf 55 = .ok (.iand, 1) := by decide +kernel
theorem dX12_aloneOf_56 : decode cX12_aloneOf 56 = .ok (.iconst 1, 1) := by decide +kernel
theorem dX12_aloneOf_57 : decode cX12_aloneOf 57 = .ok (.if_icmp .ne 12, 3) := by decide +kernel
theorem dX12_aloneOf_60 : decode cX12_aloneOf 60 = .ok (.aload_n 0, 1) := by decide +kernel
theorem dX12_aloneOf_61 : decode cX12_aloneOf 61 = .ok (.iload 5, 2) := by decide +kernel
theorem dX12_aloneOf_63 : decode cX12_aloneOf 63 = .ok (.invokevirtual 262, 3) := by decide +kernel
theorem dX12_aloneOf_66 : decode cX12_aloneOf 66 = .ok (.goto 4, 3) := by decide +kernel
theorem dX12_aloneOf_69 : decode cX12_aloneOf 69 = .ok (.iconst 0, 1) := by decide +kernel
theorem dX12_aloneOf_70 : decode cX12_aloneOf 70 = .ok (.ior, 1) := by decide +kernel
theorem dX12_aloneOf_71 : decode cX12_aloneOf 71 = .ok (.istore 4, 2) := by decide +kernel
theorem dX12_aloneOf_73 : decode cX12_aloneOf 73 = .ok (.iinc 5 1, 3) := by decide +kernel
theorem dX12_aloneOf_76 : decode cX12_aloneOf 76 = .ok (.goto (-45), 3) := by decide +kernel
theorem dX12_aloneOf_79 : decode cX12_aloneOf 79 = .ok (.iload_n 2, 1) := by decide +kernel
theorem dX12_aloneOf_80 : decode cX12_aloneOf 80 = .ok (.aload_n 0, 1) := by decide +kernel
theorem dX12_aloneOf_81 : decode cX12_aloneOf 81 = .ok (.iload_n 3, 1) := by decide +kernel
theorem dX12_aloneOf_82 : decode cX12_aloneOf 82 = .ok (.invokevirtual 262, 3) := by decide +kernel
theorem dX12_aloneOf_85 : decode cX12_aloneOf 85 = .ok (.iload 4, 2) := by decide +kernel
theorem dX12_aloneOf_87 : decode cX12_aloneOf 87 = .ok (.iconst (-1), 1) := by decide +kernel
theorem dX12_aloneOf_88 : decode cX12_aloneOf 88 = .ok (.ixor, 1) := by decide +kernel
theorem dX12_aloneOf_89 : decode cX12_aloneOf 89 = .ok (.iand, 1) := by decide +kernel
theorem dX12_aloneOf_90 : decode cX12_aloneOf 90 = .ok (.ifCond .eq 9, 3) := by decide +kernel
theorem dX12_aloneOf_93 : decode cX12_aloneOf 93 = .ok (.iconst 1, 1) := by decide +kernel
theorem dX12_aloneOf_94 : decode cX12_aloneOf 94 = .ok (.iload_n 3, 1) := by decide +kernel
theorem dX12_aloneOf_95 : decode cX12_aloneOf 95 = .ok (.ishl, 1) := by decide +kernel
theorem dX12_aloneOf_96 : decode cX12_aloneOf 96 = .ok (.goto 4, 3) := by decide +kernel
theorem dX12_aloneOf_99 : decode cX12_aloneOf 99 = .ok (.iconst 0, 1) := by decide +kernel
theorem dX12_aloneOf_100 : decode cX12_aloneOf 100 = .ok (.ior, 1) := by decide +kernel
theorem dX12_aloneOf_101 : decode cX12_aloneOf 101 = .ok (.istore_n 2, 1) := by decide +kernel
theorem dX12_aloneOf_102 : decode cX12_aloneOf 102 = .ok (.iinc 3 1, 3) := by decide +kernel
theorem dX12_aloneOf_105 : decode cX12_aloneOf 105 = .ok (.goto (-101), 3) := by decide +kernel
theorem dX12_aloneOf_108 : decode cX12_aloneOf 108 = .ok (.iload_n 2, 1) := by decide +kernel
theorem dX12_aloneOf_109 : decode cX12_aloneOf 109 = .ok (.ireturn, 1) := by decide +kernel
def tX12_aloneOf_0 : Nat → Option am_Act := am_nd 16 (am_nd 6 (am_nd 3 (am_nd 1 (am_lf 0 (a_const (nI 0) 1)) (am_nd 2 (am_lf 1 (a_istore 2 2)) (am_lf 2 (a_const (nI 0) 3)))) (am_nd 4 (am_lf 3 (a_istore 3 4)) (am_nd 5 (am_lf 4 (a_iload 3 5)) (am_lf 5 (a_aload 0 6))))) (am_nd 11 (am_nd 9 (am_lf 6 (a_get tT 12 0 9)) (am_nd 10 (am_lf 9 (a_const (nI 1) 10)) (am_lf 10 (a_iald tT 11)))) (am_nd 14 (am_lf 11 (a_cmp (fun x y => y ≤ x) 108 14)) (am_nd 15 (am_lf 14 (a_iload 1 15)) (am_lf 15 (a_iload 3 16)))))) (am_nd 26 (am_nd 19 (am_nd 17 (am_lf 16 (a_bin (fun x y => x >>> (y &&& 31)) 17)) (am_nd 18 (am_lf 17 (a_const (nI 1) 18)) (am_lf 18 (a_bin (fun x y => x &&& y) 19)))) (am_nd 22 (am_lf 19 (a_if (fun x => x = nI 0) 22 25)) (am_nd 25 (am_lf 22 (a_goto 102)) (am_lf 25 (a_const (nI 0) 26))))) (am_nd 31 (am_nd 28 (am_lf 26 (a_istore 4 28)) (am_nd 29 (am_lf 28 (a_const (nI 0) 29)) (am_lf 29 (a_istore 5 31)))) (am_nd 33 (am_lf 31 (a_iload 5 33)) (am_nd 34 (am_lf 33 (a_aload 0 34)) (am_lf 34 (a_get tT 12 0 37))))))
theorem gX12_aloneOf_0 : am_Good tT mX12_aloneOf tX12_aloneOf_0 := am_nd_ok (am_nd_ok (am_nd_ok (am_nd_ok (am_lf_ok (fun _ => ok_iconst dX12_aloneOf_0 cv_iconst_0 rfl)) (am_nd_ok (am_lf_ok (fun _ => ok_istore_n dX12_aloneOf_1 rfl (Nat.le_of_ble_eq_true rfl) rfl)) (am_lf_ok (fun _ => ok_iconst dX12_aloneOf_2 cv_iconst_0 rfl)))) (am_nd_ok (am_lf_ok (fun _ => ok_istore_n dX12_aloneOf_3 rfl (Nat.le_of_ble_eq_true rfl) rfl)) (am_nd_ok (am_lf_ok (fun _ => ok_iload_n dX12_aloneOf_4 rfl rfl)) (am_lf_ok (fun _ => ok_aload_n dX12_aloneOf_5 rfl rfl))))) (am_nd_ok (am_nd_ok (am_lf_ok (fun _ => ok_get (C := RX12) (TT := TX12) (N := 31) rfl inw_X12 (Nat.le_of_ble_eq_true rfl) wd_448 dX12_aloneOf_6 rfl)) (am_nd_ok (am_lf_ok (fun _ => ok_iconst dX12_aloneOf_9 cv_iconst_1 rfl)) (am_lf_ok (fun _ => ok_iald dX12_aloneOf_10 rfl)))) (am_nd_ok (am_lf_ok (fun _ => ok_cmp_ge dX12_aloneOf_11 rfl rfl)) (am_nd_ok (am_lf_ok (fun _ => ok_iload_n dX12_aloneOf_14 rfl rfl)) (am_lf_ok (fun _ => ok_iload_n dX12_aloneOf_15 rfl rfl)))))) (am_nd_ok (am_nd_ok (am_nd_ok (am_lf_ok (fun _ => ok_ishr dX12_aloneOf_16 rfl)) (am_nd_ok (am_lf_ok (fun _ => ok_iconst dX12_aloneOf_17 cv_iconst_1 rfl)) (am_lf_ok (fun _ => ok_iand dX12_aloneOf_18 rfl)))) (am_nd_ok (am_lf_ok (fun _ => ok_if_ne dX12_aloneOf_19 rfl rfl)) (am_nd_ok (am_lf_ok (fun _ => ok_goto dX12_aloneOf_22 rfl)) (am_lf_ok (fun _ => ok_iconst dX12_aloneOf_25 cv_iconst_0 rfl))))) (am_nd_ok (am_nd_ok (am_lf_ok (fun _ => ok_istore dX12_aloneOf_26 (Nat.le_of_ble_eq_true rfl) rfl)) (am_nd_ok (am_lf_ok (fun _ => ok_iconst dX12_aloneOf_28 cv_iconst_0 rfl)) (am_lf_ok (fun _ => ok_istore dX12_aloneOf_29 (Nat.le_of_ble_eq_true rfl) rfl)))) (am_nd_ok (am_lf_ok (fun _ => ok_iload dX12_aloneOf_31 rfl)) (am_nd_ok (am_lf_ok (fun _ => ok_aload_n dX12_aloneOf_33 rfl rfl)) (am_lf_ok (fun _ => ok_get (C := RX12) (TT := TX12) (N := 31) rfl inw_X12 (Nat.le_of_ble_eq_true rfl) wd_448 dX12_aloneOf_34 rfl))))))
def tX12_aloneOf_1 : Nat → Option am_Act := am_nd 56 (am_nd 47 (am_nd 42 (am_nd 38 (am_lf 37 (a_const (nI 1) 38)) (am_nd 39 (am_lf 38 (a_iald tT 39)) (am_lf 39 (a_cmp (fun x y => y ≤ x) 79 42)))) (am_nd 44 (am_lf 42 (a_iload 4 44)) (am_nd 46 (am_lf 44 (a_iload 5 46)) (am_lf 46 (a_iload 3 47))))) (am_nd 53 (am_nd 50 (am_lf 47 (a_cmp (fun x y => x = y) 69 50)) (am_nd 51 (am_lf 50 (a_iload 1 51)) (am_lf 51 (a_iload 5 53)))) (am_nd 54 (am_lf 53 (a_bin (fun x y => x >>> (y &&& 31)) 54)) (am_nd 55 (am_lf 54 (a_const (nI 1) 55)) (am_lf 55 (a_bin (fun x y => x &&& y) 56)))))) (am_nd 69 (am_nd 61 (am_nd 57 (am_lf 56 (a_const (nI 1) 57)) (am_nd 60 (am_lf 57 (a_cmp (fun x y => x = y) 60 69)) (am_lf 60 (a_aload 0 61)))) (am_nd 63 (am_lf 61 (a_iload 5 63)) (am_nd 66 (am_lf 63 (a_cvI tT mX12_had 12 1 66)) (am_lf 66 (a_goto 70))))) (am_nd 73 (am_nd 70 (am_lf 69 (a_const (nI 0) 70)) (am_nd 71 (am_lf 70 (a_bin (fun x y => x ||| y) 71)) (am_lf 71 (a_istore 4 73)))) (am_nd 76 (am_lf 73 (a_iinc 5 (nI 1) 76)) (am_nd 79 (am_lf 76 (a_goto 31)) (am_lf 79 (a_iload 2 80))))))
theorem gX12_aloneOf_1 : am_Good tT mX12_aloneOf tX12_aloneOf_1 := am_nd_ok (am_nd_ok (am_nd_ok (am_nd_ok (am_lf_ok (fun _ => ok_iconst dX12_aloneOf_37 cv_iconst_1 rfl)) (am_nd_ok (am_lf_ok (fun _ => ok_iald dX12_aloneOf_38 rfl)) (am_lf_ok (fun _ => ok_cmp_ge dX12_aloneOf_39 rfl rfl)))) (am_nd_ok (am_lf_ok (fun _ => ok_iload dX12_aloneOf_42 rfl)) (am_nd_ok (am_lf_ok (fun _ => ok_iload dX12_aloneOf_44 rfl)) (am_lf_ok (fun _ => ok_iload_n dX12_aloneOf_46 rfl rfl))))) (am_nd_ok (am_nd_ok (am_lf_ok (fun _ => ok_cmp_eq dX12_aloneOf_47 rfl rfl)) (am_nd_ok (am_lf_ok (fun _ => ok_iload_n dX12_aloneOf_50 rfl rfl)) (am_lf_ok (fun _ => ok_iload dX12_aloneOf_51 rfl)))) (am_nd_ok (am_lf_ok (fun _ => ok_ishr dX12_aloneOf_53 rfl)) (am_nd_ok (am_lf_ok (fun _ => ok_iconst dX12_aloneOf_54 cv_iconst_1 rfl)) (am_lf_ok (fun _ => ok_iand dX12_aloneOf_55 rfl)))))) (am_nd_ok (am_nd_ok (am_nd_ok (am_lf_ok (fun _ => ok_iconst dX12_aloneOf_56 cv_iconst_1 rfl)) (am_nd_ok (am_lf_ok (fun _ => ok_cmp_ne dX12_aloneOf_57 rfl rfl)) (am_lf_ok (fun _ => ok_aload_n dX12_aloneOf_60 rfl rfl)))) (am_nd_ok (am_lf_ok (fun _ => ok_iload dX12_aloneOf_61 rfl)) (am_nd_ok (am_lf_ok (fun _ => ok_cvI rfl mw_X12_had (ci := 12) rfl rfl wd_587 wd_588 wd_589 dX12_aloneOf_63 rfl)) (am_lf_ok (fun _ => ok_goto dX12_aloneOf_66 rfl))))) (am_nd_ok (am_nd_ok (am_lf_ok (fun _ => ok_iconst dX12_aloneOf_69 cv_iconst_0 rfl)) (am_nd_ok (am_lf_ok (fun _ => ok_ior dX12_aloneOf_70 rfl)) (am_lf_ok (fun _ => ok_istore dX12_aloneOf_71 (Nat.le_of_ble_eq_true rfl) rfl)))) (am_nd_ok (am_lf_ok (fun _ => ok_iinc dX12_aloneOf_73 cv_iconst_1 (Nat.le_of_ble_eq_true rfl) rfl)) (am_nd_ok (am_lf_ok (fun _ => ok_goto dX12_aloneOf_76 rfl)) (am_lf_ok (fun _ => ok_iload_n dX12_aloneOf_79 rfl rfl))))))
def tX12_aloneOf_2 : Nat → Option am_Act := am_nd 94 (am_nd 87 (am_nd 82 (am_nd 81 (am_lf 80 (a_aload 0 81)) (am_lf 81 (a_iload 3 82))) (am_nd 85 (am_lf 82 (a_cvI tT mX12_had 12 1 85)) (am_lf 85 (a_iload 4 87)))) (am_nd 89 (am_nd 88 (am_lf 87 (a_const (-1) 88)) (am_lf 88 (a_bin (fun x y => x ^^^ y) 89))) (am_nd 90 (am_lf 89 (a_bin (fun x y => x &&& y) 90)) (am_nd 93 (am_lf 90 (a_if (fun x => x = nI 0) 99 93)) (am_lf 93 (a_const (nI 1) 94)))))) (am_nd 101 (am_nd 96 (am_nd 95 (am_lf 94 (a_iload 3 95)) (am_lf 95 (a_bin (fun x y => x <<< (y &&& 31)) 96))) (am_nd 99 (am_lf 96 (a_goto 100)) (am_nd 100 (am_lf 99 (a_const (nI 0) 100)) (am_lf 100 (a_bin (fun x y => x ||| y) 101))))) (am_nd 105 (am_nd 102 (am_lf 101 (a_istore 2 102)) (am_lf 102 (a_iinc 3 (nI 1) 105))) (am_nd 108 (am_lf 105 (a_goto 4)) (am_nd 109 (am_lf 108 (a_iload 2 109)) (am_lf 109 (a_iret))))))
theorem gX12_aloneOf_2 : am_Good tT mX12_aloneOf tX12_aloneOf_2 := am_nd_ok (am_nd_ok (am_nd_ok (am_nd_ok (am_lf_ok (fun _ => ok_aload_n dX12_aloneOf_80 rfl rfl)) (am_lf_ok (fun _ => ok_iload_n dX12_aloneOf_81 rfl rfl))) (am_nd_ok (am_lf_ok (fun _ => ok_cvI rfl mw_X12_had (ci := 12) rfl rfl wd_587 wd_588 wd_589 dX12_aloneOf_82 rfl)) (am_lf_ok (fun _ => ok_iload dX12_aloneOf_85 rfl)))) (am_nd_ok (am_nd_ok (am_lf_ok (fun _ => ok_iconst dX12_aloneOf_87 cv_iconst_m1 rfl)) (am_lf_ok (fun _ => ok_ixor dX12_aloneOf_88 rfl))) (am_nd_ok (am_lf_ok (fun _ => ok_iand dX12_aloneOf_89 rfl)) (am_nd_ok (am_lf_ok (fun _ => ok_if_eq dX12_aloneOf_90 rfl rfl)) (am_lf_ok (fun _ => ok_iconst dX12_aloneOf_93 cv_iconst_1 rfl)))))) (am_nd_ok (am_nd_ok (am_nd_ok (am_lf_ok (fun _ => ok_iload_n dX12_aloneOf_94 rfl rfl)) (am_lf_ok (fun _ => ok_ishl dX12_aloneOf_95 rfl))) (am_nd_ok (am_lf_ok (fun _ => ok_goto dX12_aloneOf_96 rfl)) (am_nd_ok (am_lf_ok (fun _ => ok_iconst dX12_aloneOf_99 cv_iconst_0 rfl)) (am_lf_ok (fun _ => ok_ior dX12_aloneOf_100 rfl))))) (am_nd_ok (am_nd_ok (am_lf_ok (fun _ => ok_istore_n dX12_aloneOf_101 rfl (Nat.le_of_ble_eq_true rfl) rfl)) (am_lf_ok (fun _ => ok_iinc dX12_aloneOf_102 cv_iconst_1 (Nat.le_of_ble_eq_true rfl) rfl))) (am_nd_ok (am_lf_ok (fun _ => ok_goto dX12_aloneOf_105 rfl)) (am_nd_ok (am_lf_ok (fun _ => ok_iload_n dX12_aloneOf_108 rfl rfl)) (am_lf_ok (fun _ => ok_iret rfl dX12_aloneOf_109))))))
def tX12_aloneOf : Nat → Option am_Act := am_nd 37 (tX12_aloneOf_0) (am_nd 80 (tX12_aloneOf_1) (tX12_aloneOf_2))
theorem gX12_aloneOf : am_Good tT mX12_aloneOf tX12_aloneOf := am_nd_ok (gX12_aloneOf_0) (am_nd_ok (gX12_aloneOf_1) (gX12_aloneOf_2))
theorem dX12_alone_0 : decode cX12_alone 0 = .ok (.iload_n 1, 1) := by decide +kernel
theorem dX12_alone_1 : decode cX12_alone 1 = .ok (.invokestatic 68, 3) := by decide +kernel
theorem dX12_alone_4 : decode cX12_alone 4 = .ok (.ifCond .ne 5, 3) := by decide +kernel
theorem dX12_alone_7 : decode cX12_alone 7 = .ok (.iconst (-1), 1) := by decide +kernel
theorem dX12_alone_8 : decode cX12_alone 8 = .ok (.ireturn, 1) := by decide +kernel
theorem dX12_alone_9 : decode cX12_alone 9 = .ok (.iconst 0, 1) := by decide +kernel
theorem dX12_alone_10 : decode cX12_alone 10 = .ok (.istore_n 2, 1) := by decide +kernel
theorem dX12_alone_11 : decode cX12_alone 11 = .ok (.iconst 0, 1) := by decide +kernel
theorem dX12_alone_12 : decode cX12_alone 12 = .ok (.istore_n 3, 1) := by decide +kernel
theorem dX12_alone_13 : decode cX12_alone 13 = .ok (.iload_n 3, 1) := by decide +kernel
theorem dX12_alone_14 : decode cX12_alone 14 = .ok (.aload_n 0, 1) := by decide +kernel
theorem dX12_alone_15 : decode cX12_alone 15 = .ok (.getfield 7, 3) := by decide +kernel
theorem dX12_alone_18 : decode cX12_alone 18 = .ok (.iconst 1, 1) := by decide +kernel
theorem dX12_alone_19 : decode cX12_alone 19 = .ok (.iaload, 1) := by decide +kernel
theorem dX12_alone_20 : decode cX12_alone 20 = .ok (.if_icmp .ge 29, 3) := by decide +kernel
theorem dX12_alone_23 : decode cX12_alone 23 = .ok (.iload_n 2, 1) := by decide +kernel
theorem dX12_alone_24 : decode cX12_alone 24 = .ok (.aload_n 0, 1) := by decide +kernel
theorem dX12_alone_25 : decode cX12_alone 25 = .ok (.iload_n 3, 1) := by decide +kernel
theorem dX12_alone_26 : decode cX12_alone 26 = .ok (.iconst 0, 1) := by decide +kernel
theorem dX12_alone_27 : decode cX12_alone 27 = .ok (.invokevirtual 76, 3) := by decide +kernel
theorem dX12_alone_30 : decode cX12_alone 30 = .ok (.iload_n 1, 1) := by decide +kernel
theorem dX12_alone_31 : decode cX12_alone 31 = .ok (.if_icmp .ne 9, 3) := by decide +kernel
theorem dX12_alone_34 : decode cX12_alone 34 = .ok (.iconst 1, 1) := by decide +kernel
theorem dX12_alone_35 : decode cX12_alone 35 = .ok (.iload_n 3, 1) := by decide +kernel
theorem dX12_alone_36 : decode cX12_alone 36 = .ok (.ishl, 1) := by decide +kernel
theorem dX12_alone_37 : decode cX12_alone 37 = .ok (.goto 4, 3) := by decide +kernel
theorem dX12_alone_40 : decode cX12_alone 40 = .ok (.iconst 0, 1) := by decide +kernel
theorem dX12_alone_41 : decode cX12_alone 41 = .ok (.ior, 1) := by decide +kernel
theorem dX12_alone_42 : decode cX12_alone 42 = .ok (.istore_n 2, 1) := by decide +kernel
theorem dX12_alone_43 : decode cX12_alone 43 = .ok (.iinc 3 1, 3) := by decide +kernel
theorem dX12_alone_46 : decode cX12_alone 46 = .ok (.goto (-33), 3) := by decide +kernel
theorem dX12_alone_49 : decode cX12_alone 49 = .ok (.aload_n 0, 1) := by decide +kernel
theorem dX12_alone_50 : decode cX12_alone 50 = .ok (.iload_n 2, 1) := by decide +kernel
theorem dX12_alone_51 : decode cX12_alone 51 = .ok (.invokevirtual 274, 3) := by decide +kernel
theorem dX12_alone_54 : decode cX12_alone 54 = .ok (.ireturn, 1) := by decide +kernel
def tX12_alone_0 : Nat → Option am_Act := am_nd 18 (am_nd 10 (am_nd 7 (am_nd 1 (am_lf 0 (a_iload 1 1)) (am_nd 4 (am_lf 1 (a_csI mX12_isPlace 1 4)) (am_lf 4 (a_if (fun x => x = nI 0) 7 9)))) (am_nd 8 (am_lf 7 (a_const (-1) 8)) (am_nd 9 (am_lf 8 (a_iret)) (am_lf 9 (a_const (nI 0) 10))))) (am_nd 13 (am_nd 11 (am_lf 10 (a_istore 2 11)) (am_nd 12 (am_lf 11 (a_const (nI 0) 12)) (am_lf 12 (a_istore 3 13)))) (am_nd 14 (am_lf 13 (a_iload 3 14)) (am_nd 15 (am_lf 14 (a_aload 0 15)) (am_lf 15 (a_get tT 12 0 18)))))) (am_nd 26 (am_nd 23 (am_nd 19 (am_lf 18 (a_const (nI 1) 19)) (am_nd 20 (am_lf 19 (a_iald tT 20)) (am_lf 20 (a_cmp (fun x y => y ≤ x) 49 23)))) (am_nd 24 (am_lf 23 (a_iload 2 24)) (am_nd 25 (am_lf 24 (a_aload 0 25)) (am_lf 25 (a_iload 3 26))))) (am_nd 31 (am_nd 27 (am_lf 26 (a_const (nI 0) 27)) (am_nd 30 (am_lf 27 (a_cvI tT mX12_own 12 2 30)) (am_lf 30 (a_iload 1 31)))) (am_nd 34 (am_lf 31 (a_cmp (fun x y => x = y) 34 40)) (am_nd 35 (am_lf 34 (a_const (nI 1) 35)) (am_lf 35 (a_iload 3 36))))))
theorem gX12_alone_0 : am_Good tT mX12_alone tX12_alone_0 := am_nd_ok (am_nd_ok (am_nd_ok (am_nd_ok (am_lf_ok (fun _ => ok_iload_n dX12_alone_0 rfl rfl)) (am_nd_ok (am_lf_ok (fun _ => ok_csI rfl mw_X12_isPlace wd_457 wd_458 dX12_alone_1 rfl)) (am_lf_ok (fun _ => ok_if_ne dX12_alone_4 rfl rfl)))) (am_nd_ok (am_lf_ok (fun _ => ok_iconst dX12_alone_7 cv_iconst_m1 rfl)) (am_nd_ok (am_lf_ok (fun _ => ok_iret rfl dX12_alone_8)) (am_lf_ok (fun _ => ok_iconst dX12_alone_9 cv_iconst_0 rfl))))) (am_nd_ok (am_nd_ok (am_lf_ok (fun _ => ok_istore_n dX12_alone_10 rfl (Nat.le_of_ble_eq_true rfl) rfl)) (am_nd_ok (am_lf_ok (fun _ => ok_iconst dX12_alone_11 cv_iconst_0 rfl)) (am_lf_ok (fun _ => ok_istore_n dX12_alone_12 rfl (Nat.le_of_ble_eq_true rfl) rfl)))) (am_nd_ok (am_lf_ok (fun _ => ok_iload_n dX12_alone_13 rfl rfl)) (am_nd_ok (am_lf_ok (fun _ => ok_aload_n dX12_alone_14 rfl rfl)) (am_lf_ok (fun _ => ok_get (C := RX12) (TT := TX12) (N := 31) rfl inw_X12 (Nat.le_of_ble_eq_true rfl) wd_448 dX12_alone_15 rfl)))))) (am_nd_ok (am_nd_ok (am_nd_ok (am_lf_ok (fun _ => ok_iconst dX12_alone_18 cv_iconst_1 rfl)) (am_nd_ok (am_lf_ok (fun _ => ok_iald dX12_alone_19 rfl)) (am_lf_ok (fun _ => ok_cmp_ge dX12_alone_20 rfl rfl)))) (am_nd_ok (am_lf_ok (fun _ => ok_iload_n dX12_alone_23 rfl rfl)) (am_nd_ok (am_lf_ok (fun _ => ok_aload_n dX12_alone_24 rfl rfl)) (am_lf_ok (fun _ => ok_iload_n dX12_alone_25 rfl rfl))))) (am_nd_ok (am_nd_ok (am_lf_ok (fun _ => ok_iconst dX12_alone_26 cv_iconst_0 rfl)) (am_nd_ok (am_lf_ok (fun _ => ok_cvI rfl mw_X12_own (ci := 12) rfl rfl wd_462 wd_463 wd_464 dX12_alone_27 rfl)) (am_lf_ok (fun _ => ok_iload_n dX12_alone_30 rfl rfl)))) (am_nd_ok (am_lf_ok (fun _ => ok_cmp_ne dX12_alone_31 rfl rfl)) (am_nd_ok (am_lf_ok (fun _ => ok_iconst dX12_alone_34 cv_iconst_1 rfl)) (am_lf_ok (fun _ => ok_iload_n dX12_alone_35 rfl rfl))))))
def tX12_alone_1 : Nat → Option am_Act := am_nd 43 (am_nd 40 (am_nd 37 (am_lf 36 (a_bin (fun x y => x <<< (y &&& 31)) 37)) (am_lf 37 (a_goto 41))) (am_nd 41 (am_lf 40 (a_const (nI 0) 41)) (am_nd 42 (am_lf 41 (a_bin (fun x y => x ||| y) 42)) (am_lf 42 (a_istore 2 43))))) (am_nd 50 (am_nd 46 (am_lf 43 (a_iinc 3 (nI 1) 46)) (am_nd 49 (am_lf 46 (a_goto 13)) (am_lf 49 (a_aload 0 50)))) (am_nd 51 (am_lf 50 (a_iload 2 51)) (am_nd 54 (am_lf 51 (a_cvI tT mX12_aloneOf 12 1 54)) (am_lf 54 (a_iret)))))
theorem gX12_alone_1 : am_Good tT mX12_alone tX12_alone_1 := am_nd_ok (am_nd_ok (am_nd_ok (am_lf_ok (fun _ => ok_ishl dX12_alone_36 rfl)) (am_lf_ok (fun _ => ok_goto dX12_alone_37 rfl))) (am_nd_ok (am_lf_ok (fun _ => ok_iconst dX12_alone_40 cv_iconst_0 rfl)) (am_nd_ok (am_lf_ok (fun _ => ok_ior dX12_alone_41 rfl)) (am_lf_ok (fun _ => ok_istore_n dX12_alone_42 rfl (Nat.le_of_ble_eq_true rfl) rfl))))) (am_nd_ok (am_nd_ok (am_lf_ok (fun _ => ok_iinc dX12_alone_43 cv_iconst_1 (Nat.le_of_ble_eq_true rfl) rfl)) (am_nd_ok (am_lf_ok (fun _ => ok_goto dX12_alone_46 rfl)) (am_lf_ok (fun _ => ok_aload_n dX12_alone_49 rfl rfl)))) (am_nd_ok (am_lf_ok (fun _ => ok_iload_n dX12_alone_50 rfl rfl)) (am_nd_ok (am_lf_ok (fun _ => ok_cvI rfl mw_X12_aloneOf (ci := 12) rfl rfl wd_597 wd_598 wd_599 dX12_alone_51 rfl)) (am_lf_ok (fun _ => ok_iret rfl dX12_alone_54)))))
def tX12_alone : Nat → Option am_Act := am_nd 36 (tX12_alone_0) (tX12_alone_1)
theorem gX12_alone : am_Good tT mX12_alone tX12_alone := am_nd_ok (gX12_alone_0) (gX12_alone_1)
theorem dX12_cousins_0 : decode cX12_cousins 0 = .ok (.aload_n 0, 1) := by decide +kernel
theorem dX12_cousins_1 : decode cX12_cousins 1 = .ok (.iload_n 1, 1) := by decide +kernel
theorem dX12_cousins_2 : decode cX12_cousins 2 = .ok (.invokevirtual 84, 3) := by decide +kernel
theorem dX12_cousins_5 : decode cX12_cousins 5 = .ok (.ifCond .ne 5, 3) := by decide +kernel
theorem dX12_cousins_8 : decode cX12_cousins 8 = .ok (.iconst (-1), 1) := by decide +kernel
theorem dX12_cousins_9 : decode cX12_cousins 9 = .ok (.ireturn, 1) := by decide +kernel
theorem dX12_cousins_10 : decode cX12_cousins 10 = .ok (.iconst 1, 1) := by decide +kernel
theorem dX12_cousins_11 : decode cX12_cousins 11 = .ok (.iload_n 1, 1) := by decide +kernel
theorem dX12_cousins_12 : decode cX12_cousins 12 = .ok (.ishl, 1) := by decide +kernel
theorem dX12_cousins_13 : decode cX12_cousins 13 = .ok (.istore_n 2, 1) := by decide +kernel
theorem dX12_cousins_14 : decode cX12_cousins 14 = .ok (.aload_n 0, 1) := by decide +kernel
theorem dX12_cousins_15 : decode cX12_cousins 15 = .ok (.iload_n 1, 1) := by decide +kernel
theorem dX12_cousins_16 : decode cX12_cousins 16 = .ok (.iconst 4, 1) := by decide +kernel
theorem dX12_cousins_17 : decode cX12_cousins 17 = .ok (.invokevirtual 76, 3) := by decide +kernel
theorem dX12_cousins_20 : decode cX12_cousins 20 = .ok (.istore_n 3, 1) := by decide +kernel
theorem dX12_cousins_21 : decode cX12_cousins 21 = .ok (.iconst 0, 1) := by decide +kernel
theorem dX12_cousins_22 : decode cX12_cousins 22 = .ok (.istore 4, 2) := by decide +kernel
theorem dX12_cousins_24 : decode cX12_cousins 24 = .ok (.iload 4, 2) := by decide +kernel
theorem dX12_cousins_26 : decode cX12_cousins 26 = .ok (.aload_n 0, 1) := by decide +kernel
theorem dX12_cousins_27 : decode cX12_cousins 27 = .ok (.getfield 7, 3) := by decide +kernel
theorem dX12_cousins_30 : decode cX12_cousins 30 = .ok (.iconst 1, 1) := by decide +kernel
theorem dX12_cousins_31 : decode cX12_cousins 31 = .ok (.iaload, 1) := by decide +kernel
theorem dX12_cousins_32 : decode cX12_cousins 32 = .ok (.if_icmp .ge 61, 3) := by decide +kernel
theorem dX12_cousins_35 : decode cX12_cousins 35 = .ok (.iconst 0, 1) := by decide +kernel
theorem dX12_cousins_36 : decode cX12_cousins 36 = .ok (.istore 5, 2) := by decide +kernel
theorem dX12_cousins_38 : decode cX12_cousins 38 = .ok (.iload 5, 2) := by decide +kernel
theorem dX12_cousins_40 : decode cX12_cousins 40 = .ok (.aload_n 0, 1) := by decide +kernel
theorem dX12_cousins_41 : decode cX12_cousins 41 = .ok (.getfield 7, 3) := by decide +kernel
theorem dX12_cousins_44 : decode cX12_cousins 44 = .ok (.iconst 1, 1) := by decide +kernel
theorem dX12_cousins_45 : decode cX12_cousins 45 = .ok (.iaload, 1) := by decide +kernel
theorem dX12_cousins_46 : decode cX12_cousins 46 = .ok (.if_icmp .ge 41, 3) := by decide +kernel
theorem dX12_cousins_49 : decode cX12_cousins 49 = .ok (.aload_n 0, 1) := by decide +kernel
theorem dX12_cousins_50 : decode cX12_cousins 50 = .ok (.iload 5, 2) := by decide +kernel
theorem dX12_cousins_52 : decode cX12_cousins 52 = .ok (.iconst 4, 1) := by decide +kernel
theorem dX12_cousins_53 : decode cX12_cousins 53 = .ok (.invokevirtual 76, 3) := by decide +kernel
theorem dX12_cousins_56 : decode cX12_cousins 56 = .ok (.iload_n 3, 1) := by decide +kernel
theorem dX12_cousins_57 : decode cX12_cousins 57 = .ok (.iand, 1) := by decide +kernel
theorem dX12_cousins_58 : decode cX12_cousins 58 = .ok (.ifCond .ne 6, 3) := by decide +kernel
theorem dX12_cousins_61 : decode cX12_cousins 61 = .ok (.goto 20, 3) := by decide +kernel
theorem dX12_cousins_64 : decode cX12_cousins 64 = .ok (.iload_n 2, 1) := by decide +kernel
theorem dX12_cousins_65 : decode cX12_cousins 65 = .ok (.iconst 1, 1) := by decide +kernel
theorem dX12_cousins_66 : decode cX12_cousins 66 = .ok (.iload 5, 2) := by decide +kernel
theorem dX12_cousins_68 : decode cX12_cousins 68 = .ok (.ishl, 1) := by decide +kernel
theorem dX12_cousins_69 : decode cX12_cousins 69 = .ok (.ior, 1) := by decide +kernel
theorem dX12_cousins_70 : decode cX12_cousins 70 = .ok (.istore_n 2, 1) := by decide +kernel
theorem dX12_cousins_71 : decode cX12_cousins 71 = .ok (.iload_n 3, 1) := by decide +kernel
theorem dX12_cousins_72 : decode cX12_cousins 72 = .ok (.aload_n 0, 1) := by decide +kernel
theorem dX12_cousins_73 : decode cX12_cousins 73 = .ok (.iload 5, 2) := by decide +kernel
theorem dX12_cousins_75 : decode cX12_cousins 75 = .ok (.iconst 4, 1) := by decide +kernel
theorem dX12_cousins_76 : decode cX12_cousins 76 = .ok (.invokevirtual 76, 3) := by decide +kernel
theorem dX12_cousins_79 : decode cX12_cousins 79 = .ok (.ior, 1) := by decide +kernel
theorem dX12_cousins_80 : decode cX12_cousins 80 = .ok (.istore_n 3, 1) := by decide +kernel
theorem dX12_cousins_81 : decode cX12_cousins 81 = .ok (.iinc 5 1, 3) := by decide +kernel
theorem dX12_cousins_84 : decode cX12_cousins 84 = .ok (.goto (-46), 3) := by decide +kernel
theorem dX12_cousins_87 : decode cX12_cousins 87 = .ok (.iinc 4 1, 3) := by decide +kernel
theorem dX12_cousins_90 : decode cX12_cousins 90 = .ok (.goto (-66), 3) := by decide +kernel
theorem dX12_cousins_93 : decode cX12_cousins 93 = .ok (.iload_n 2, 1) := by decide +kernel
theorem dX12_cousins_94 : decode cX12_cousins 94 = .ok (.iconst 1, 1) := by decide +kernel
theorem dX12_cousins_95 : decode cX12_cousins 95 = .ok (.iload_n 1, 1) := by decide +kernel
theorem dX12_cousins_96 : decode cX12_cousins 96 = .ok (.ishl, 1) := by decide +kernel
theorem dX12_cousins_97 : decode cX12_cousins 97 = .ok (.iconst (-1), 1) := by decide +kernel
theorem dX12_cousins_98 : decode cX12_cousins 98 = .ok (.ixor, 1) := by decide +kernel
theorem dX12_cousins_99 : decode cX12_cousins 99 = .ok (.iand, 1) := by decide +kernel
theorem dX12_cousins_100 : decode cX12_cousins 100 = .ok (.ireturn, 1) := by decide +kernel
def tX12_cousins_0 : Nat → Option am_Act := am_nd 16 (am_nd 10 (am_nd 5 (am_nd 1 (am_lf 0 (a_aload 0 1)) (am_nd 2 (am_lf 1 (a_iload 1 2)) (am_lf 2 (a_cvI tT mX12_isPerson 12 1 5)))) (am_nd 8 (am_lf 5 (a_if (fun x => x = nI 0) 8 10)) (am_nd 9 (am_lf 8 (a_const (-1) 9)) (am_lf 9 (a_iret))))) (am_nd 13 (am_nd 11 (am_lf 10 (a_const (nI 1) 11)) (am_nd 12 (am_lf 11 (a_iload 1 12)) (am_lf 12 (a_bin (fun x y => x <<< (y &&& 31)) 13)))) (am_nd 14 (am_lf 13 (a_istore 2 14)) (am_nd 15 (am_lf 14 (a_aload 0 15)) (am_lf 15 (a_iload 1 16)))))) (am_nd 26 (am_nd 21 (am_nd 17 (am_lf 16 (a_const (nI 4) 17)) (am_nd 20 (am_lf 17 (a_cvI tT mX12_own 12 2 20)) (am_lf 20 (a_istore 3 21)))) (am_nd 22 (am_lf 21 (a_const (nI 0) 22)) (am_nd 24 (am_lf 22 (a_istore 4 24)) (am_lf 24 (a_iload 4 26))))) (am_nd 31 (am_nd 27 (am_lf 26 (a_aload 0 27)) (am_nd 30 (am_lf 27 (a_get tT 12 0 30)) (am_lf 30 (a_const (nI 1) 31)))) (am_nd 32 (am_lf 31 (a_iald tT 32)) (am_nd 35 (am_lf 32 (a_cmp (fun x y => y ≤ x) 93 35)) (am_lf 35 (a_const (nI 0) 36))))))
theorem gX12_cousins_0 : am_Good tT mX12_cousins tX12_cousins_0 := am_nd_ok (am_nd_ok (am_nd_ok (am_nd_ok (am_lf_ok (fun _ => ok_aload_n dX12_cousins_0 rfl rfl)) (am_nd_ok (am_lf_ok (fun _ => ok_iload_n dX12_cousins_1 rfl rfl)) (am_lf_ok (fun _ => ok_cvI rfl mw_X12_isPerson (ci := 12) rfl rfl wd_468 wd_469 wd_470 dX12_cousins_2 rfl)))) (am_nd_ok (am_lf_ok (fun _ => ok_if_ne dX12_cousins_5 rfl rfl)) (am_nd_ok (am_lf_ok (fun _ => ok_iconst dX12_cousins_8 cv_iconst_m1 rfl)) (am_lf_ok (fun _ => ok_iret rfl dX12_cousins_9))))) (am_nd_ok (am_nd_ok (am_lf_ok (fun _ => ok_iconst dX12_cousins_10 cv_iconst_1 rfl)) (am_nd_ok (am_lf_ok (fun _ => ok_iload_n dX12_cousins_11 rfl rfl)) (am_lf_ok (fun _ => ok_ishl dX12_cousins_12 rfl)))) (am_nd_ok (am_lf_ok (fun _ => ok_istore_n dX12_cousins_13 rfl (Nat.le_of_ble_eq_true rfl) rfl)) (am_nd_ok (am_lf_ok (fun _ => ok_aload_n dX12_cousins_14 rfl rfl)) (am_lf_ok (fun _ => ok_iload_n dX12_cousins_15 rfl rfl)))))) (am_nd_ok (am_nd_ok (am_nd_ok (am_lf_ok (fun _ => ok_iconst dX12_cousins_16 cv_iconst_4 rfl)) (am_nd_ok (am_lf_ok (fun _ => ok_cvI rfl mw_X12_own (ci := 12) rfl rfl wd_462 wd_463 wd_464 dX12_cousins_17 rfl)) (am_lf_ok (fun _ => ok_istore_n dX12_cousins_20 rfl (Nat.le_of_ble_eq_true rfl) rfl)))) (am_nd_ok (am_lf_ok (fun _ => ok_iconst dX12_cousins_21 cv_iconst_0 rfl)) (am_nd_ok (am_lf_ok (fun _ => ok_istore dX12_cousins_22 (Nat.le_of_ble_eq_true rfl) rfl)) (am_lf_ok (fun _ => ok_iload dX12_cousins_24 rfl))))) (am_nd_ok (am_nd_ok (am_lf_ok (fun _ => ok_aload_n dX12_cousins_26 rfl rfl)) (am_nd_ok (am_lf_ok (fun _ => ok_get (C := RX12) (TT := TX12) (N := 31) rfl inw_X12 (Nat.le_of_ble_eq_true rfl) wd_448 dX12_cousins_27 rfl)) (am_lf_ok (fun _ => ok_iconst dX12_cousins_30 cv_iconst_1 rfl)))) (am_nd_ok (am_lf_ok (fun _ => ok_iald dX12_cousins_31 rfl)) (am_nd_ok (am_lf_ok (fun _ => ok_cmp_ge dX12_cousins_32 rfl rfl)) (am_lf_ok (fun _ => ok_iconst dX12_cousins_35 cv_iconst_0 rfl))))))
def tX12_cousins_1 : Nat → Option am_Act := am_nd 57 (am_nd 46 (am_nd 41 (am_nd 38 (am_lf 36 (a_istore 5 38)) (am_nd 40 (am_lf 38 (a_iload 5 40)) (am_lf 40 (a_aload 0 41)))) (am_nd 44 (am_lf 41 (a_get tT 12 0 44)) (am_nd 45 (am_lf 44 (a_const (nI 1) 45)) (am_lf 45 (a_iald tT 46))))) (am_nd 52 (am_nd 49 (am_lf 46 (a_cmp (fun x y => y ≤ x) 87 49)) (am_nd 50 (am_lf 49 (a_aload 0 50)) (am_lf 50 (a_iload 5 52)))) (am_nd 53 (am_lf 52 (a_const (nI 4) 53)) (am_nd 56 (am_lf 53 (a_cvI tT mX12_own 12 2 56)) (am_lf 56 (a_iload 3 57)))))) (am_nd 68 (am_nd 64 (am_nd 58 (am_lf 57 (a_bin (fun x y => x &&& y) 58)) (am_nd 61 (am_lf 58 (a_if (fun x => x = nI 0) 61 64)) (am_lf 61 (a_goto 81)))) (am_nd 65 (am_lf 64 (a_iload 2 65)) (am_nd 66 (am_lf 65 (a_const (nI 1) 66)) (am_lf 66 (a_iload 5 68))))) (am_nd 71 (am_nd 69 (am_lf 68 (a_bin (fun x y => x <<< (y &&& 31)) 69)) (am_nd 70 (am_lf 69 (a_bin (fun x y => x ||| y) 70)) (am_lf 70 (a_istore 2 71)))) (am_nd 72 (am_lf 71 (a_iload 3 72)) (am_nd 73 (am_lf 72 (a_aload 0 73)) (am_lf 73 (a_iload 5 75))))))
theorem gX12_cousins_1 : am_Good tT mX12_cousins tX12_cousins_1 := am_nd_ok (am_nd_ok (am_nd_ok (am_nd_ok (am_lf_ok (fun _ => ok_istore dX12_cousins_36 (Nat.le_of_ble_eq_true rfl) rfl)) (am_nd_ok (am_lf_ok (fun _ => ok_iload dX12_cousins_38 rfl)) (am_lf_ok (fun _ => ok_aload_n dX12_cousins_40 rfl rfl)))) (am_nd_ok (am_lf_ok (fun _ => ok_get (C := RX12) (TT := TX12) (N := 31) rfl inw_X12 (Nat.le_of_ble_eq_true rfl) wd_448 dX12_cousins_41 rfl)) (am_nd_ok (am_lf_ok (fun _ => ok_iconst dX12_cousins_44 cv_iconst_1 rfl)) (am_lf_ok (fun _ => ok_iald dX12_cousins_45 rfl))))) (am_nd_ok (am_nd_ok (am_lf_ok (fun _ => ok_cmp_ge dX12_cousins_46 rfl rfl)) (am_nd_ok (am_lf_ok (fun _ => ok_aload_n dX12_cousins_49 rfl rfl)) (am_lf_ok (fun _ => ok_iload dX12_cousins_50 rfl)))) (am_nd_ok (am_lf_ok (fun _ => ok_iconst dX12_cousins_52 cv_iconst_4 rfl)) (am_nd_ok (am_lf_ok (fun _ => ok_cvI rfl mw_X12_own (ci := 12) rfl rfl wd_462 wd_463 wd_464 dX12_cousins_53 rfl)) (am_lf_ok (fun _ => ok_iload_n dX12_cousins_56 rfl rfl)))))) (am_nd_ok (am_nd_ok (am_nd_ok (am_lf_ok (fun _ => ok_iand dX12_cousins_57 rfl)) (am_nd_ok (am_lf_ok (fun _ => ok_if_ne dX12_cousins_58 rfl rfl)) (am_lf_ok (fun _ => ok_goto dX12_cousins_61 rfl)))) (am_nd_ok (am_lf_ok (fun _ => ok_iload_n dX12_cousins_64 rfl rfl)) (am_nd_ok (am_lf_ok (fun _ => ok_iconst dX12_cousins_65 cv_iconst_1 rfl)) (am_lf_ok (fun _ => ok_iload dX12_cousins_66 rfl))))) (am_nd_ok (am_nd_ok (am_lf_ok (fun _ => ok_ishl dX12_cousins_68 rfl)) (am_nd_ok (am_lf_ok (fun _ => ok_ior dX12_cousins_69 rfl)) (am_lf_ok (fun _ => ok_istore_n dX12_cousins_70 rfl (Nat.le_of_ble_eq_true rfl) rfl)))) (am_nd_ok (am_lf_ok (fun _ => ok_iload_n dX12_cousins_71 rfl rfl)) (am_nd_ok (am_lf_ok (fun _ => ok_aload_n dX12_cousins_72 rfl rfl)) (am_lf_ok (fun _ => ok_iload dX12_cousins_73 rfl))))))
def tX12_cousins_2 : Nat → Option am_Act := am_nd 93 (am_nd 81 (am_nd 79 (am_nd 76 (am_lf 75 (a_const (nI 4) 76)) (am_lf 76 (a_cvI tT mX12_own 12 2 79))) (am_nd 80 (am_lf 79 (a_bin (fun x y => x ||| y) 80)) (am_lf 80 (a_istore 3 81)))) (am_nd 87 (am_nd 84 (am_lf 81 (a_iinc 5 (nI 1) 84)) (am_lf 84 (a_goto 38))) (am_nd 90 (am_lf 87 (a_iinc 4 (nI 1) 90)) (am_lf 90 (a_goto 24))))) (am_nd 97 (am_nd 95 (am_nd 94 (am_lf 93 (a_iload 2 94)) (am_lf 94 (a_const (nI 1) 95))) (am_nd 96 (am_lf 95 (a_iload 1 96)) (am_lf 96 (a_bin (fun x y => x <<< (y &&& 31)) 97)))) (am_nd 99 (am_nd 98 (am_lf 97 (a_const (-1) 98)) (am_lf 98 (a_bin (fun x y => x ^^^ y) 99))) (am_nd 100 (am_lf 99 (a_bin (fun x y => x &&& y) 100)) (am_lf 100 (a_iret)))))
theorem gX12_cousins_2 : am_Good tT mX12_cousins tX12_cousins_2 := am_nd_ok (am_nd_ok (am_nd_ok (am_nd_ok (am_lf_ok (fun _ => ok_iconst dX12_cousins_75 cv_iconst_4 rfl)) (am_lf_ok (fun _ => ok_cvI rfl mw_X12_own (ci := 12) rfl rfl wd_462 wd_463 wd_464 dX12_cousins_76 rfl))) (am_nd_ok (am_lf_ok (fun _ => ok_ior dX12_cousins_79 rfl)) (am_lf_ok (fun _ => ok_istore_n dX12_cousins_80 rfl (Nat.le_of_ble_eq_true rfl) rfl)))) (am_nd_ok (am_nd_ok (am_lf_ok (fun _ => ok_iinc dX12_cousins_81 cv_iconst_1 (Nat.le_of_ble_eq_true rfl) rfl)) (am_lf_ok (fun _ => ok_goto dX12_cousins_84 rfl))) (am_nd_ok (am_lf_ok (fun _ => ok_iinc dX12_cousins_87 cv_iconst_1 (Nat.le_of_ble_eq_true rfl) rfl)) (am_lf_ok (fun _ => ok_goto dX12_cousins_90 rfl))))) (am_nd_ok (am_nd_ok (am_nd_ok (am_lf_ok (fun _ => ok_iload_n dX12_cousins_93 rfl rfl)) (am_lf_ok (fun _ => ok_iconst dX12_cousins_94 cv_iconst_1 rfl))) (am_nd_ok (am_lf_ok (fun _ => ok_iload_n dX12_cousins_95 rfl rfl)) (am_lf_ok (fun _ => ok_ishl dX12_cousins_96 rfl)))) (am_nd_ok (am_nd_ok (am_lf_ok (fun _ => ok_iconst dX12_cousins_97 cv_iconst_m1 rfl)) (am_lf_ok (fun _ => ok_ixor dX12_cousins_98 rfl))) (am_nd_ok (am_lf_ok (fun _ => ok_iand dX12_cousins_99 rfl)) (am_lf_ok (fun _ => ok_iret rfl dX12_cousins_100)))))
def tX12_cousins : Nat → Option am_Act := am_nd 36 (tX12_cousins_0) (am_nd 75 (tX12_cousins_1) (tX12_cousins_2))
theorem gX12_cousins : am_Good tT mX12_cousins tX12_cousins := am_nd_ok (gX12_cousins_0) (am_nd_ok (gX12_cousins_1) (gX12_cousins_2))
theorem dX12_estate_0 : decode cX12_estate 0 = .ok (.aload_n 0, 1) := by decide +kernel
theorem dX12_estate_1 : decode cX12_estate 1 = .ok (.iload_n 1, 1) := by decide +kernel
theorem dX12_estate_2 : decode cX12_estate 2 = .ok (.invokevirtual 84, 3) := by decide +kernel
theorem dX12_estate_5 : decode cX12_estate 5 = .ok (.ifCond .ne 5, 3) := by decide +kernel
theorem dX12_estate_8 : decode cX12_estate 8 = .ok (.iconst (-1), 1) := by decide +kernel
theorem dX12_estate_9 : decode cX12_estate 9 = .ok (.ireturn, 1) := by decide +kernel
theorem dX12_estate_10 : decode cX12_estate 10 = .ok (.aload_n 0, 1) := by decide +kernel
theorem dX12_estate_11 : decode cX12_estate 11 = .ok (.iload_n 1, 1) := by decide +kernel
theorem dX12_estate_12 : decode cX12_estate 12 = .ok (.invokevirtual 277, 3) := by decide +kernel
theorem dX12_estate_15 : decode cX12_estate 15 = .ok (.invokestatic 268, 3) := by decide +kernel
theorem dX12_estate_18 : decode cX12_estate 18 = .ok (.istore_n 2, 1) := by decide +kernel
theorem dX12_estate_19 : decode cX12_estate 19 = .ok (.iload_n 2, 1) := by decide +kernel
theorem dX12_estate_20 : decode cX12_estate 20 = .ok (.ifCond .ne 7, 3) := by decide +kernel
theorem dX12_estate_23 : decode cX12_estate 23 = .ok (.iconst (-1), 1) := by decide +kernel
theorem dX12_estate_24 : decode cX12_estate 24 = .ok (.goto 11, 3) := by decide +kernel
theorem dX12_estate_27 : decode cX12_estate 27 = .ok (.aload_n 0, 1) := by decide +kernel
theorem dX12_estate_28 : decode cX12_estate 28 = .ok (.iload_n 1, 1) := by decide +kernel
theorem dX12_estate_29 : decode cX12_estate 29 = .ok (.iconst 1, 1) := by decide +kernel
theorem dX12_estate_30 : decode cX12_estate 30 = .ok (.invokevirtual 76, 3) := by decide +kernel
theorem dX12_estate_33 : decode cX12_estate 33 = .ok (.iload_n 2, 1) := by decide +kernel
theorem dX12_estate_34 : decode cX12_estate 34 = .ok (.idiv, 1) := by decide +kernel
theorem dX12_estate_35 : decode cX12_estate 35 = .ok (.ireturn, 1) := by decide +kernel
def tX12_estate_0 : Nat → Option am_Act := am_nd 19 (am_nd 9 (am_nd 2 (am_nd 1 (am_lf 0 (a_aload 0 1)) (am_lf 1 (a_iload 1 2))) (am_nd 5 (am_lf 2 (a_cvI tT mX12_isPerson 12 1 5)) (am_nd 8 (am_lf 5 (a_if (fun x => x = nI 0) 8 10)) (am_lf 8 (a_const (-1) 9))))) (am_nd 12 (am_nd 10 (am_lf 9 (a_iret)) (am_nd 11 (am_lf 10 (a_aload 0 11)) (am_lf 11 (a_iload 1 12)))) (am_nd 15 (am_lf 12 (a_cvI tT mX12_cousins 12 1 15)) (am_nd 18 (am_lf 15 (a_csI mX12_count 1 18)) (am_lf 18 (a_istore 2 19)))))) (am_nd 28 (am_nd 23 (am_nd 20 (am_lf 19 (a_iload 2 20)) (am_lf 20 (a_if (fun x => x = nI 0) 23 27))) (am_nd 24 (am_lf 23 (a_const (-1) 24)) (am_nd 27 (am_lf 24 (a_goto 35)) (am_lf 27 (a_aload 0 28))))) (am_nd 33 (am_nd 29 (am_lf 28 (a_iload 1 29)) (am_nd 30 (am_lf 29 (a_const (nI 1) 30)) (am_lf 30 (a_cvI tT mX12_own 12 2 33)))) (am_nd 34 (am_lf 33 (a_iload 2 34)) (am_nd 35 (am_lf 34 (a_divr (fun x y => x / y) 35)) (am_lf 35 (a_iret))))))
theorem gX12_estate_0 : am_Good tT mX12_estate tX12_estate_0 := am_nd_ok (am_nd_ok (am_nd_ok (am_nd_ok (am_lf_ok (fun _ => ok_aload_n dX12_estate_0 rfl rfl)) (am_lf_ok (fun _ => ok_iload_n dX12_estate_1 rfl rfl))) (am_nd_ok (am_lf_ok (fun _ => ok_cvI rfl mw_X12_isPerson (ci := 12) rfl rfl wd_468 wd_469 wd_470 dX12_estate_2 rfl)) (am_nd_ok (am_lf_ok (fun _ => ok_if_ne dX12_estate_5 rfl rfl)) (am_lf_ok (fun _ => ok_iconst dX12_estate_8 cv_iconst_m1 rfl))))) (am_nd_ok (am_nd_ok (am_lf_ok (fun _ => ok_iret rfl dX12_estate_9)) (am_nd_ok (am_lf_ok (fun _ => ok_aload_n dX12_estate_10 rfl rfl)) (am_lf_ok (fun _ => ok_iload_n dX12_estate_11 rfl rfl)))) (am_nd_ok (am_lf_ok (fun _ => ok_cvI rfl mw_X12_cousins (ci := 12) rfl rfl wd_600 wd_601 wd_602 dX12_estate_12 rfl)) (am_nd_ok (am_lf_ok (fun _ => ok_csI rfl mw_X12_count wd_593 wd_594 dX12_estate_15 rfl)) (am_lf_ok (fun _ => ok_istore_n dX12_estate_18 rfl (Nat.le_of_ble_eq_true rfl) rfl)))))) (am_nd_ok (am_nd_ok (am_nd_ok (am_lf_ok (fun _ => ok_iload_n dX12_estate_19 rfl rfl)) (am_lf_ok (fun _ => ok_if_ne dX12_estate_20 rfl rfl))) (am_nd_ok (am_lf_ok (fun _ => ok_iconst dX12_estate_23 cv_iconst_m1 rfl)) (am_nd_ok (am_lf_ok (fun _ => ok_goto dX12_estate_24 rfl)) (am_lf_ok (fun _ => ok_aload_n dX12_estate_27 rfl rfl))))) (am_nd_ok (am_nd_ok (am_lf_ok (fun _ => ok_iload_n dX12_estate_28 rfl rfl)) (am_nd_ok (am_lf_ok (fun _ => ok_iconst dX12_estate_29 cv_iconst_1 rfl)) (am_lf_ok (fun _ => ok_cvI rfl mw_X12_own (ci := 12) rfl rfl wd_462 wd_463 wd_464 dX12_estate_30 rfl)))) (am_nd_ok (am_lf_ok (fun _ => ok_iload_n dX12_estate_33 rfl rfl)) (am_nd_ok (am_lf_ok (fun _ => ok_idiv dX12_estate_34 rfl)) (am_lf_ok (fun _ => ok_iret rfl dX12_estate_35))))))
def tX12_estate : Nat → Option am_Act := tX12_estate_0
theorem gX12_estate : am_Good tT mX12_estate tX12_estate := gX12_estate_0
theorem dX12_laysAside_0 : decode cX12_laysAside 0 = .ok (.iconst 0, 1) := by decide +kernel
theorem dX12_laysAside_1 : decode cX12_laysAside 1 = .ok (.istore_n 2, 1) := by decide +kernel
theorem dX12_laysAside_2 : decode cX12_laysAside 2 = .ok (.iload_n 2, 1) := by decide +kernel
theorem dX12_laysAside_3 : decode cX12_laysAside 3 = .ok (.sipush 370, 3) := by decide +kernel
theorem dX12_laysAside_6 : decode cX12_laysAside 6 = .ok (.if_icmp .ge 30, 3) := by decide +kernel
theorem dX12_laysAside_9 : decode cX12_laysAside 9 = .ok (.aload_n 0, 1) := by decide +kernel
theorem dX12_laysAside_10 : decode cX12_laysAside 10 = .ok (.getfield 19, 3) := by decide +kernel
theorem dX12_laysAside_13 : decode cX12_laysAside 13 = .ok (.sipush 370, 3) := by decide +kernel
theorem dX12_laysAside_16 : decode cX12_laysAside 16 = .ok (.iload_n 1, 1) := by decide +kernel
theorem dX12_laysAside_17 : decode cX12_laysAside 17 = .ok (.imul, 1) := by decide +kernel
theorem dX12_laysAside_18 : decode cX12_laysAside 18 = .ok (.iload_n 2, 1) := by decide +kernel
theorem dX12_laysAside_19 : decode cX12_laysAside 19 = .ok (.iadd, 1) := by decide +kernel
theorem dX12_laysAside_20 : decode cX12_laysAside 20 = .ok (.aload_n 0, 1) := by decide +kernel
theorem dX12_laysAside_21 : decode cX12_laysAside 21 = .ok (.getfield 7, 3) := by decide +kernel
theorem dX12_laysAside_24 : decode cX12_laysAside 24 = .ok (.bipush 90, 2) := by decide +kernel
theorem dX12_laysAside_26 : decode cX12_laysAside 26 = .ok (.iload_n 2, 1) := by decide +kernel
theorem dX12_laysAside_27 : decode cX12_laysAside 27 = .ok (.iadd, 1) := by decide +kernel
theorem dX12_laysAside_28 : decode cX12_laysAside 28 = .ok (.iaload, 1) := by decide +kernel
theorem dX12_laysAside_29 : decode cX12_laysAside 29 = .ok (.iastore, 1) := by decide +kernel
theorem dX12_laysAside_30 : decode cX12_laysAside 30 = .ok (.iinc 2 1, 3) := by decide +kernel
theorem dX12_laysAside_33 : decode cX12_laysAside 33 = .ok (.goto (-31), 3) := by decide +kernel
theorem dX12_laysAside_36 : decode cX12_laysAside 36 = .ok (.return_, 1) := by decide +kernel
def tX12_laysAside_0 : Nat → Option am_Act := am_nd 19 (am_nd 9 (am_nd 2 (am_nd 1 (am_lf 0 (a_const (nI 0) 1)) (am_lf 1 (a_istore 2 2))) (am_nd 3 (am_lf 2 (a_iload 2 3)) (am_nd 6 (am_lf 3 (a_const (nI 370) 6)) (am_lf 6 (a_cmp (fun x y => y ≤ x) 36 9))))) (am_nd 16 (am_nd 10 (am_lf 9 (a_aload 0 10)) (am_nd 13 (am_lf 10 (a_get tT 12 3 13)) (am_lf 13 (a_const (nI 370) 16)))) (am_nd 17 (am_lf 16 (a_iload 1 17)) (am_nd 18 (am_lf 17 (a_bin (fun x y => x * y) 18)) (am_lf 18 (a_iload 2 19)))))) (am_nd 27 (am_nd 21 (am_nd 20 (am_lf 19 (a_bin (fun x y => x + y) 20)) (am_lf 20 (a_aload 0 21))) (am_nd 24 (am_lf 21 (a_get tT 12 0 24)) (am_nd 26 (am_lf 24 (a_const (nI 90) 26)) (am_lf 26 (a_iload 2 27))))) (am_nd 30 (am_nd 28 (am_lf 27 (a_bin (fun x y => x + y) 28)) (am_nd 29 (am_lf 28 (a_iald tT 29)) (am_lf 29 (a_iast tT 30)))) (am_nd 33 (am_lf 30 (a_iinc 2 (nI 1) 33)) (am_nd 36 (am_lf 33 (a_goto 2)) (am_lf 36 (a_ret))))))
theorem gX12_laysAside_0 : am_Good tT mX12_laysAside tX12_laysAside_0 := am_nd_ok (am_nd_ok (am_nd_ok (am_nd_ok (am_lf_ok (fun _ => ok_iconst dX12_laysAside_0 cv_iconst_0 rfl)) (am_lf_ok (fun _ => ok_istore_n dX12_laysAside_1 rfl (Nat.le_of_ble_eq_true rfl) rfl))) (am_nd_ok (am_lf_ok (fun _ => ok_iload_n dX12_laysAside_2 rfl rfl)) (am_nd_ok (am_lf_ok (fun _ => ok_sipush dX12_laysAside_3 cv_sipush_370 rfl)) (am_lf_ok (fun _ => ok_cmp_ge dX12_laysAside_6 rfl rfl))))) (am_nd_ok (am_nd_ok (am_lf_ok (fun _ => ok_aload_n dX12_laysAside_9 rfl rfl)) (am_nd_ok (am_lf_ok (fun _ => ok_get (C := RX12) (TT := TX12) (N := 31) rfl inw_X12 (Nat.le_of_ble_eq_true rfl) wd_603 dX12_laysAside_10 rfl)) (am_lf_ok (fun _ => ok_sipush dX12_laysAside_13 cv_sipush_370 rfl)))) (am_nd_ok (am_lf_ok (fun _ => ok_iload_n dX12_laysAside_16 rfl rfl)) (am_nd_ok (am_lf_ok (fun _ => ok_imul dX12_laysAside_17 rfl)) (am_lf_ok (fun _ => ok_iload_n dX12_laysAside_18 rfl rfl)))))) (am_nd_ok (am_nd_ok (am_nd_ok (am_lf_ok (fun _ => ok_iadd dX12_laysAside_19 rfl)) (am_lf_ok (fun _ => ok_aload_n dX12_laysAside_20 rfl rfl))) (am_nd_ok (am_lf_ok (fun _ => ok_get (C := RX12) (TT := TX12) (N := 31) rfl inw_X12 (Nat.le_of_ble_eq_true rfl) wd_448 dX12_laysAside_21 rfl)) (am_nd_ok (am_lf_ok (fun _ => ok_bipush dX12_laysAside_24 cv_bipush_90 rfl)) (am_lf_ok (fun _ => ok_iload_n dX12_laysAside_26 rfl rfl))))) (am_nd_ok (am_nd_ok (am_lf_ok (fun _ => ok_iadd dX12_laysAside_27 rfl)) (am_nd_ok (am_lf_ok (fun _ => ok_iald dX12_laysAside_28 rfl)) (am_lf_ok (fun _ => ok_iast dX12_laysAside_29 rfl)))) (am_nd_ok (am_lf_ok (fun _ => ok_iinc dX12_laysAside_30 cv_iconst_1 (Nat.le_of_ble_eq_true rfl) rfl)) (am_nd_ok (am_lf_ok (fun _ => ok_goto dX12_laysAside_33 rfl)) (am_lf_ok (fun _ => ok_ret rfl dX12_laysAside_36))))))
def tX12_laysAside : Nat → Option am_Act := tX12_laysAside_0
theorem gX12_laysAside : am_Good tT mX12_laysAside tX12_laysAside := gX12_laysAside_0
theorem dX12_putsBack_0 : decode cX12_putsBack 0 = .ok (.iconst 0, 1) := by decide +kernel
theorem dX12_putsBack_1 : decode cX12_putsBack 1 = .ok (.istore_n 2, 1) := by decide +kernel
theorem dX12_putsBack_2 : decode cX12_putsBack 2 = .ok (.iload_n 2, 1) := by decide +kernel
theorem dX12_putsBack_3 : decode cX12_putsBack 3 = .ok (.sipush 370, 3) := by decide +kernel
theorem dX12_putsBack_6 : decode cX12_putsBack 6 = .ok (.if_icmp .ge 30, 3) := by decide +kernel
theorem dX12_putsBack_9 : decode cX12_putsBack 9 = .ok (.aload_n 0, 1) := by decide +kernel
theorem dX12_putsBack_10 : decode cX12_putsBack 10 = .ok (.getfield 7, 3) := by decide +kernel
theorem dX12_putsBack_13 : decode cX12_putsBack 13 = .ok (.bipush 90, 2) := by decide +kernel
theorem dX12_putsBack_15 : decode cX12_putsBack 15 = .ok (.iload_n 2, 1) := by decide +kernel
theorem dX12_putsBack_16 : decode cX12_putsBack 16 = .ok (.iadd, 1) := by decide +kernel
theorem dX12_putsBack_17 : decode cX12_putsBack 17 = .ok (.aload_n 0, 1) := by decide +kernel
theorem dX12_putsBack_18 : decode cX12_putsBack 18 = .ok (.getfield 19, 3) := by decide +kernel
theorem dX12_putsBack_21 : decode cX12_putsBack 21 = .ok (.sipush 370, 3) := by decide +kernel
theorem dX12_putsBack_24 : decode cX12_putsBack 24 = .ok (.iload_n 1, 1) := by decide +kernel
theorem dX12_putsBack_25 : decode cX12_putsBack 25 = .ok (.imul, 1) := by decide +kernel
theorem dX12_putsBack_26 : decode cX12_putsBack 26 = .ok (.iload_n 2, 1) := by decide +kernel
theorem dX12_putsBack_27 : decode cX12_putsBack 27 = .ok (.iadd, 1) := by decide +kernel
theorem dX12_putsBack_28 : decode cX12_putsBack 28 = .ok (.iaload, 1) := by decide +kernel
theorem dX12_putsBack_29 : decode cX12_putsBack 29 = .ok (.iastore, 1) := by decide +kernel
theorem dX12_putsBack_30 : decode cX12_putsBack 30 = .ok (.iinc 2 1, 3) := by decide +kernel
theorem dX12_putsBack_33 : decode cX12_putsBack 33 = .ok (.goto (-31), 3) := by decide +kernel
theorem dX12_putsBack_36 : decode cX12_putsBack 36 = .ok (.return_, 1) := by decide +kernel
def tX12_putsBack_0 : Nat → Option am_Act := am_nd 18 (am_nd 9 (am_nd 2 (am_nd 1 (am_lf 0 (a_const (nI 0) 1)) (am_lf 1 (a_istore 2 2))) (am_nd 3 (am_lf 2 (a_iload 2 3)) (am_nd 6 (am_lf 3 (a_const (nI 370) 6)) (am_lf 6 (a_cmp (fun x y => y ≤ x) 36 9))))) (am_nd 15 (am_nd 10 (am_lf 9 (a_aload 0 10)) (am_nd 13 (am_lf 10 (a_get tT 12 0 13)) (am_lf 13 (a_const (nI 90) 15)))) (am_nd 16 (am_lf 15 (a_iload 2 16)) (am_nd 17 (am_lf 16 (a_bin (fun x y => x + y) 17)) (am_lf 17 (a_aload 0 18)))))) (am_nd 27 (am_nd 24 (am_nd 21 (am_lf 18 (a_get tT 12 3 21)) (am_lf 21 (a_const (nI 370) 24))) (am_nd 25 (am_lf 24 (a_iload 1 25)) (am_nd 26 (am_lf 25 (a_bin (fun x y => x * y) 26)) (am_lf 26 (a_iload 2 27))))) (am_nd 30 (am_nd 28 (am_lf 27 (a_bin (fun x y => x + y) 28)) (am_nd 29 (am_lf 28 (a_iald tT 29)) (am_lf 29 (a_iast tT 30)))) (am_nd 33 (am_lf 30 (a_iinc 2 (nI 1) 33)) (am_nd 36 (am_lf 33 (a_goto 2)) (am_lf 36 (a_ret))))))
theorem gX12_putsBack_0 : am_Good tT mX12_putsBack tX12_putsBack_0 := am_nd_ok (am_nd_ok (am_nd_ok (am_nd_ok (am_lf_ok (fun _ => ok_iconst dX12_putsBack_0 cv_iconst_0 rfl)) (am_lf_ok (fun _ => ok_istore_n dX12_putsBack_1 rfl (Nat.le_of_ble_eq_true rfl) rfl))) (am_nd_ok (am_lf_ok (fun _ => ok_iload_n dX12_putsBack_2 rfl rfl)) (am_nd_ok (am_lf_ok (fun _ => ok_sipush dX12_putsBack_3 cv_sipush_370 rfl)) (am_lf_ok (fun _ => ok_cmp_ge dX12_putsBack_6 rfl rfl))))) (am_nd_ok (am_nd_ok (am_lf_ok (fun _ => ok_aload_n dX12_putsBack_9 rfl rfl)) (am_nd_ok (am_lf_ok (fun _ => ok_get (C := RX12) (TT := TX12) (N := 31) rfl inw_X12 (Nat.le_of_ble_eq_true rfl) wd_448 dX12_putsBack_10 rfl)) (am_lf_ok (fun _ => ok_bipush dX12_putsBack_13 cv_bipush_90 rfl)))) (am_nd_ok (am_lf_ok (fun _ => ok_iload_n dX12_putsBack_15 rfl rfl)) (am_nd_ok (am_lf_ok (fun _ => ok_iadd dX12_putsBack_16 rfl)) (am_lf_ok (fun _ => ok_aload_n dX12_putsBack_17 rfl rfl)))))) (am_nd_ok (am_nd_ok (am_nd_ok (am_lf_ok (fun _ => ok_get (C := RX12) (TT := TX12) (N := 31) rfl inw_X12 (Nat.le_of_ble_eq_true rfl) wd_603 dX12_putsBack_18 rfl)) (am_lf_ok (fun _ => ok_sipush dX12_putsBack_21 cv_sipush_370 rfl))) (am_nd_ok (am_lf_ok (fun _ => ok_iload_n dX12_putsBack_24 rfl rfl)) (am_nd_ok (am_lf_ok (fun _ => ok_imul dX12_putsBack_25 rfl)) (am_lf_ok (fun _ => ok_iload_n dX12_putsBack_26 rfl rfl))))) (am_nd_ok (am_nd_ok (am_lf_ok (fun _ => ok_iadd dX12_putsBack_27 rfl)) (am_nd_ok (am_lf_ok (fun _ => ok_iald dX12_putsBack_28 rfl)) (am_lf_ok (fun _ => ok_iast dX12_putsBack_29 rfl)))) (am_nd_ok (am_lf_ok (fun _ => ok_iinc dX12_putsBack_30 cv_iconst_1 (Nat.le_of_ble_eq_true rfl) rfl)) (am_nd_ok (am_lf_ok (fun _ => ok_goto dX12_putsBack_33 rfl)) (am_lf_ok (fun _ => ok_ret rfl dX12_putsBack_36))))))
def tX12_putsBack : Nat → Option am_Act := tX12_putsBack_0
theorem gX12_putsBack : am_Good tT mX12_putsBack tX12_putsBack := gX12_putsBack_0
theorem dX12_behind_0 : decode cX12_behind 0 = .ok (.aload_n 0, 1) := by decide +kernel
theorem dX12_behind_1 : decode cX12_behind 1 = .ok (.iload_n 1, 1) := by decide +kernel
theorem dX12_behind_2 : decode cX12_behind 2 = .ok (.invokevirtual 84, 3) := by decide +kernel
theorem dX12_behind_5 : decode cX12_behind 5 = .ok (.ifCond .ne 5, 3) := by decide +kernel
theorem dX12_behind_8 : decode cX12_behind 8 = .ok (.iconst (-1), 1) := by decide +kernel
theorem dX12_behind_9 : decode cX12_behind 9 = .ok (.ireturn, 1) := by decide +kernel
theorem dX12_behind_10 : decode cX12_behind 10 = .ok (.aload_n 0, 1) := by decide +kernel
theorem dX12_behind_11 : decode cX12_behind 11 = .ok (.iload_n 1, 1) := by decide +kernel
theorem dX12_behind_12 : decode cX12_behind 12 = .ok (.iconst 0, 1) := by decide +kernel
theorem dX12_behind_13 : decode cX12_behind 13 = .ok (.invokevirtual 76, 3) := by decide +kernel
theorem dX12_behind_16 : decode cX12_behind 16 = .ok (.istore 7, 2) := by decide +kernel
theorem dX12_behind_18 : decode cX12_behind 18 = .ok (.iconst 0, 1) := by decide +kernel
theorem dX12_behind_19 : decode cX12_behind 19 = .ok (.istore 8, 2) := by decide +kernel
theorem dX12_behind_21 : decode cX12_behind 21 = .ok (.iconst 1, 1) := by decide +kernel
theorem dX12_behind_22 : decode cX12_behind 22 = .ok (.istore 9, 2) := by decide +kernel
theorem dX12_behind_24 : decode cX12_behind 24 = .ok (.iconst 0, 1) := by decide +kernel
theorem dX12_behind_25 : decode cX12_behind 25 = .ok (.istore 10, 2) := by decide +kernel
theorem dX12_behind_27 : decode cX12_behind 27 = .ok (.iload 10, 2) := by decide +kernel
theorem dX12_behind_29 : decode cX12_behind 29 = .ok (.iconst 5, 1) := by decide +kernel
theorem dX12_behind_30 : decode cX12_behind 30 = .ok (.if_icmp .ge 112, 3) := by decide +kernel
theorem dX12_behind_33 : decode cX12_behind 33 = .ok (.iload 9, 2) := by decide +kernel
theorem dX12_behind_35 : decode cX12_behind 35 = .ok (.ifCond .eq 107, 3) := by decide +kernel
theorem dX12_behind_38 : decode cX12_behind 38 = .ok (.iload 10, 2) := by decide +kernel
theorem dX12_behind_40 : decode cX12_behind 40 = .ok (.ifCond .ne 7, 3) := by decide +kernel
theorem dX12_behind_43 : decode cX12_behind 43 = .ok (.iload_n 2, 1) := by decide +kernel
theorem dX12_behind_44 : decode cX12_behind 44 = .ok (.goto 37, 3) := by decide +kernel
theorem dX12_behind_47 : decode cX12_behind 47 = .ok (.iload 10, 2) := by decide +kernel
theorem dX12_behind_49 : decode cX12_behind 49 = .ok (.iconst 1, 1) := by decide +kernel
theorem dX12_behind_50 : decode cX12_behind 50 = .ok (.if_icmp .ne 7, 3) := by decide +kernel
theorem dX12_behind_53 : decode cX12_behind 53 = .ok (.iload_n 3, 1) := by decide +kernel
theorem dX12_behind_54 : decode cX12_behind 54 = .ok (.goto 27, 3) := by decide +kernel
theorem dX12_behind_57 : decode cX12_behind 57 = .ok (.iload 10, 2) := by decide +kernel
theorem dX12_behind_59 : decode cX12_behind 59 = .ok (.iconst 2, 1) := by decide +kernel
theorem dX12_behind_60 : decode cX12_behind 60 = .ok (.if_icmp .ne 8, 3) := by decide +kernel
theorem dX12_behind_63 : decode cX12_behind 63 = .ok (.iload 4, 2) := by decide +kernel
theorem dX12_behind_65 : decode cX12_behind 65 = .ok (.goto 16, 3) := by decide +kernel
theorem dX12_behind_68 : decode cX12_behind 68 = .ok (.iload 10, 2) := by decide +kernel
theorem dX12_behind_70 : decode cX12_behind 70 = .ok (.iconst 3, 1) := by decide +kernel
theorem dX12_behind_71 : decode cX12_behind 71 = .ok (.if_icmp .ne 8, 3) := by decide +kernel
theorem dX12_behind_74 : decode cX12_behind 74 = .ok (.iload 5, 2) := by decide +kernel
theorem dX12_behind_76 : decode cX12_behind 76 = .ok (.goto 5, 3) := by decide +kernel
theorem dX12_behind_79 : decode cX12_behind 79 = .ok (.iload 6, 2) := by decide +kernel
theorem dX12_behind_81 : decode cX12_behind 81 = .ok (.istore 11, 2) := by decide +kernel
theorem dX12_behind_83 : decode cX12_behind 83 = .ok (.iload 11, 2) := by decide +kernel
theorem dX12_behind_85 : decode cX12_behind 85 = .ok (.iconst (-1), 1) := by decide +kernel
theorem dX12_behind_86 : decode cX12_behind 86 = .ok (.if_icmp .eq 7, 3) := by decide +kernel
theorem dX12_behind_89 : decode cX12_behind 89 = .ok (.iconst 1, 1) := by decide +kernel
theorem dX12_behind_90 : decode cX12_behind 90 = .ok (.goto 4, 3) := by decide +kernel
theorem dX12_behind_93 : decode cX12_behind 93 = .ok (.iconst 0, 1) := by decide +kernel
theorem dX12_behind_94 : decode cX12_behind 94 = .ok (.istore 9, 2) := by decide +kernel
theorem dX12_behind_96 : decode cX12_behind 96 = .ok (.iload 9, 2) := by decide +kernel
theorem dX12_behind_98 : decode cX12_behind 98 = .ok (.ifCond .ne 6, 3) := by decide +kernel
theorem dX12_behind_101 : decode cX12_behind 101 = .ok (.goto 35, 3) := by decide +kernel
theorem dX12_behind_104 : decode cX12_behind 104 = .ok (.aload_n 0, 1) := by decide +kernel
theorem dX12_behind_105 : decode cX12_behind 105 = .ok (.iload 11, 2) := by decide +kernel
theorem dX12_behind_107 : decode cX12_behind 107 = .ok (.invokevirtual 243, 3) := by decide +kernel
theorem dX12_behind_110 : decode cX12_behind 110 = .ok (.ifCond .ne 5, 3) := by decide +kernel
theorem dX12_behind_113 : decode cX12_behind 113 = .ok (.iconst (-1), 1) := by decide +kernel
theorem dX12_behind_114 : decode cX12_behind 114 = .ok (.ireturn, 1) := by decide +kernel
theorem dX12_behind_115 : decode cX12_behind 115 = .ok (.aload_n 0, 1) := by decide +kernel
theorem dX12_behind_116 : decode cX12_behind 116 = .ok (.iload 11, 2) := by decide +kernel
theorem dX12_behind_118 : decode cX12_behind 118 = .ok (.iload 7, 2) := by decide +kernel
theorem dX12_behind_120 : decode cX12_behind 120 = .ok (.invokevirtual 231, 3) := by decide +kernel
theorem dX12_behind_123 : decode cX12_behind 123 = .ok (.istore 7, 2) := by decide +kernel
theorem dX12_behind_125 : decode cX12_behind 125 = .ok (.iload 7, 2) := by decide +kernel
theorem dX12_behind_127 : decode cX12_behind 127 = .ok (.iconst (-1), 1) := by decide +kernel
theorem dX12_behind_128 : decode cX12_behind 128 = .ok (.if_icmp .ne 5, 3) := by decide +kernel
theorem dX12_behind_131 : decode cX12_behind 131 = .ok (.iconst (-1), 1) := by decide +kernel
theorem dX12_behind_132 : decode cX12_behind 132 = .ok (.ireturn, 1) := by decide +kernel
theorem dX12_behind_133 : decode cX12_behind 133 = .ok (.iinc 8 1, 3) := by decide +kernel
theorem dX12_behind_136 : decode cX12_behind 136 = .ok (.iinc 10 1, 3) := by decide +kernel
theorem dX12_behind_139 : decode cX12_behind 139 = .ok (.goto (-112), 3) := by decide +kernel
theorem dX12_behind_142 : decode cX12_behind 142 = .ok (.iload 8, 2) := by decide +kernel
theorem dX12_behind_144 : decode cX12_behind 144 = .ok (.ifCond .ne 5, 3) := by decide +kernel
theorem dX12_behind_147 : decode cX12_behind 147 = .ok (.iconst (-1), 1) := by decide +kernel
theorem dX12_behind_148 : decode cX12_behind 148 = .ok (.ireturn, 1) := by decide +kernel
theorem dX12_behind_149 : decode cX12_behind 149 = .ok (.aload_n 0, 1) := by decide +kernel
theorem dX12_behind_150 : decode cX12_behind 150 = .ok (.iconst 0, 1) := by decide +kernel
theorem dX12_behind_151 : decode cX12_behind 151 = .ok (.invokevirtual 246, 3) := by decide +kernel
theorem dX12_behind_154 : decode cX12_behind 154 = .ok (.iconst 1, 1) := by decide +kernel
theorem dX12_behind_155 : decode cX12_behind 155 = .ok (.istore 10, 2) := by decide +kernel
theorem dX12_behind_157 : decode cX12_behind 157 = .ok (.iconst 0, 1) := by decide +kernel
theorem dX12_behind_158 : decode cX12_behind 158 = .ok (.istore 11, 2) := by decide +kernel
theorem dX12_behind_160 : decode cX12_behind 160 = .ok (.iload 11, 2) := by decide +kernel
theorem dX12_behind_162 : decode cX12_behind 162 = .ok (.iload 8, 2) := by decide +kernel
theorem dX12_behind_164 : decode cX12_behind 164 = .ok (.if_icmp .ge 74, 3) := by decide +kernel
theorem dX12_behind_167 : decode cX12_behind 167 = .ok (.iload 10, 2) := by decide +kernel
theorem dX12_behind_169 : decode cX12_behind 169 = .ok (.ifCond .eq 69, 3) := by decide +kernel
theorem dX12_behind_172 : decode cX12_behind 172 = .ok (.aload_n 0, 1) := by decide +kernel
theorem dX12_behind_173 : decode cX12_behind 173 = .ok (.iload_n 1, 1) := by decide +kernel
theorem dX12_behind_174 : decode cX12_behind 174 = .ok (.iload 11, 2) := by decide +kernel
theorem dX12_behind_176 : decode cX12_behind 176 = .ok (.ifCond .ne 7, 3) := by decide +kernel
theorem dX12_behind_179 : decode cX12_behind 179 = .ok (.iload_n 2, 1) := by decide +kernel
theorem dX12_behind_180 : decode cX12_behind 180 = .ok (.goto 37, 3) := by decide +kernel
theorem dX12_behind_183 : decode cX12_behind 183 = .ok (.iload 11, 2) := by decide +kernel
theorem dX12_behind_185 : decode cX12_behind 185 = .ok (.iconst 1, 1) := by decide +kernel
theorem dX12_behind_186 : decode cX12_behind 186 = .ok (.if_icmp .ne 7, 3) := by decide +kernel
theorem dX12_behind_189 : decode cX12_behind 189 = .ok (.iload_n 3, 1) := by decide +kernel
theorem dX12_behind_190 : decode cX12_behind 190 = .ok (.goto 27, 3) := by decide +kernel
theorem dX12_behind_193 : decode cX12_behind 193 = .ok (.iload 11, 2) := by decide +kernel
theorem dX12_behind_195 : decode cX12_behind 195 = .ok (.iconst 2, 1) := by decide +kernel
theorem dX12_behind_196 : decode cX12_behind 196 = .ok (.if_icmp .ne 8, 3) := by decide +kernel
theorem dX12_behind_199 : decode cX12_behind 199 = .ok (.iload 4, 2) := by decide +kernel
theorem dX12_behind_201 : decode cX12_behind 201 = .ok (.goto 16, 3) := by decide +kernel
theorem dX12_behind_204 : decode cX12_behind 204 = .ok (.iload 11, 2) := by decide +kernel
theorem dX12_behind_206 : decode cX12_behind 206 = .ok (.iconst 3, 1) := by decide +kernel
theorem dX12_behind_207 : decode cX12_behind 207 = .ok (.if_icmp .ne 8, 3) := by decide +kernel
theorem dX12_behind_210 : decode cX12_behind 210 = .ok (.iload 5, 2) := by decide +kernel
theorem dX12_behind_212 : decode cX12_behind 212 = .ok (.goto 5, 3) := by decide +kernel
theorem dX12_behind_215 : decode cX12_behind 215 = .ok (.iload 6, 2) := by decide +kernel
theorem dX12_behind_217 : decode cX12_behind 217 = .ok (.invokevirtual 250, 3) := by decide +kernel
theorem dX12_behind_220 : decode cX12_behind 220 = .ok (.bipush (-2), 2) := by decide +kernel
theorem dX12_behind_222 : decode cX12_behind 222 = .ok (.if_icmp .eq 7, 3) := by decide +kernel
theorem dX12_behind_225 : decode cX12_behind 225 = .ok (.iconst 1, 1) := by decide +kernel
theorem dX12_behind_226 : decode cX12_behind 226 = .ok (.goto 4, 3) := by decide +kernel
theorem dX12_behind_229 : decode cX12_behind 229 = .ok (.iconst 0, 1) := by decide +kernel
theorem dX12_behind_230 : decode cX12_behind 230 = .ok (.istore 10, 2) := by decide +kernel
theorem dX12_behind_232 : decode cX12_behind 232 = .ok (.iinc 11 1, 3) := by decide +kernel
theorem dX12_behind_235 : decode cX12_behind 235 = .ok (.goto (-75), 3) := by decide +kernel
theorem dX12_behind_238 : decode cX12_behind 238 = .ok (.iload 10, 2) := by decide +kernel
theorem dX12_behind_240 : decode cX12_behind 240 = .ok (.ifCond .eq 11, 3) := by decide +kernel
theorem dX12_behind_243 : decode cX12_behind 243 = .ok (.aload_n 0, 1) := by decide +kernel
theorem dX12_behind_244 : decode cX12_behind 244 = .ok (.iload_n 1, 1) := by decide +kernel
theorem dX12_behind_245 : decode cX12_behind 245 = .ok (.invokevirtual 262, 3) := by decide +kernel
theorem dX12_behind_248 : decode cX12_behind 248 = .ok (.goto 5, 3) := by decide +kernel
theorem dX12_behind_251 : decode cX12_behind 251 = .ok (.bipush (-2), 2) := by decide +kernel
theorem dX12_behind_253 : decode cX12_behind 253 = .ok (.istore 11, 2) := by decide +kernel
theorem dX12_behind_255 : decode cX12_behind 255 = .ok (.aload_n 0, 1) := by decide +kernel
theorem dX12_behind_256 : decode cX12_behind 256 = .ok (.iconst 0, 1) := by decide +kernel
theorem dX12_behind_257 : decode cX12_behind 257 = .ok (.invokevirtual 253, 3) := by decide +kernel
theorem dX12_behind_260 : decode cX12_behind 260 = .ok (.iload 11, 2) := by decide +kernel
theorem dX12_behind_262 : decode cX12_behind 262 = .ok (.ireturn, 1) := by decide +kernel
def tX12_behind_0 : Nat → Option am_Act := am_nd 19 (am_nd 10 (am_nd 5 (am_nd 1 (am_lf 0 (a_aload 0 1)) (am_nd 2 (am_lf 1 (a_iload 1 2)) (am_lf 2 (a_cvI tT mX12_isPerson 12 1 5)))) (am_nd 8 (am_lf 5 (a_if (fun x => x = nI 0) 8 10)) (am_nd 9 (am_lf 8 (a_const (-1) 9)) (am_lf 9 (a_iret))))) (am_nd 13 (am_nd 11 (am_lf 10 (a_aload 0 11)) (am_nd 12 (am_lf 11 (a_iload 1 12)) (am_lf 12 (a_const (nI 0) 13)))) (am_nd 16 (am_lf 13 (a_cvI tT mX12_own 12 2 16)) (am_nd 18 (am_lf 16 (a_istore 7 18)) (am_lf 18 (a_const (nI 0) 19)))))) (am_nd 29 (am_nd 24 (am_nd 21 (am_lf 19 (a_istore 8 21)) (am_nd 22 (am_lf 21 (a_const (nI 1) 22)) (am_lf 22 (a_istore 9 24)))) (am_nd 25 (am_lf 24 (a_const (nI 0) 25)) (am_nd 27 (am_lf 25 (a_istore 10 27)) (am_lf 27 (a_iload 10 29))))) (am_nd 35 (am_nd 30 (am_lf 29 (a_const (nI 5) 30)) (am_nd 33 (am_lf 30 (a_cmp (fun x y => y ≤ x) 142 33)) (am_lf 33 (a_iload 9 35)))) (am_nd 38 (am_lf 35 (a_if (fun x => x = nI 0) 142 38)) (am_nd 40 (am_lf 38 (a_iload 10 40)) (am_lf 40 (a_if (fun x => x = nI 0) 43 47))))))
theorem gX12_behind_0 : am_Good tT mX12_behind tX12_behind_0 := am_nd_ok (am_nd_ok (am_nd_ok (am_nd_ok (am_lf_ok (fun _ => ok_aload_n dX12_behind_0 rfl rfl)) (am_nd_ok (am_lf_ok (fun _ => ok_iload_n dX12_behind_1 rfl rfl)) (am_lf_ok (fun _ => ok_cvI rfl mw_X12_isPerson (ci := 12) rfl rfl wd_468 wd_469 wd_470 dX12_behind_2 rfl)))) (am_nd_ok (am_lf_ok (fun _ => ok_if_ne dX12_behind_5 rfl rfl)) (am_nd_ok (am_lf_ok (fun _ => ok_iconst dX12_behind_8 cv_iconst_m1 rfl)) (am_lf_ok (fun _ => ok_iret rfl dX12_behind_9))))) (am_nd_ok (am_nd_ok (am_lf_ok (fun _ => ok_aload_n dX12_behind_10 rfl rfl)) (am_nd_ok (am_lf_ok (fun _ => ok_iload_n dX12_behind_11 rfl rfl)) (am_lf_ok (fun _ => ok_iconst dX12_behind_12 cv_iconst_0 rfl)))) (am_nd_ok (am_lf_ok (fun _ => ok_cvI rfl mw_X12_own (ci := 12) rfl rfl wd_462 wd_463 wd_464 dX12_behind_13 rfl)) (am_nd_ok (am_lf_ok (fun _ => ok_istore dX12_behind_16 (Nat.le_of_ble_eq_true rfl) rfl)) (am_lf_ok (fun _ => ok_iconst dX12_behind_18 cv_iconst_0 rfl)))))) (am_nd_ok (am_nd_ok (am_nd_ok (am_lf_ok (fun _ => ok_istore dX12_behind_19 (Nat.le_of_ble_eq_true rfl) rfl)) (am_nd_ok (am_lf_ok (fun _ => ok_iconst dX12_behind_21 cv_iconst_1 rfl)) (am_lf_ok (fun _ => ok_istore dX12_behind_22 (Nat.le_of_ble_eq_true rfl) rfl)))) (am_nd_ok (am_lf_ok (fun _ => ok_iconst dX12_behind_24 cv_iconst_0 rfl)) (am_nd_ok (am_lf_ok (fun _ => ok_istore dX12_behind_25 (Nat.le_of_ble_eq_true rfl) rfl)) (am_lf_ok (fun _ => ok_iload dX12_behind_27 rfl))))) (am_nd_ok (am_nd_ok (am_lf_ok (fun _ => ok_iconst dX12_behind_29 cv_iconst_5 rfl)) (am_nd_ok (am_lf_ok (fun _ => ok_cmp_ge dX12_behind_30 rfl rfl)) (am_lf_ok (fun _ => ok_iload dX12_behind_33 rfl)))) (am_nd_ok (am_lf_ok (fun _ => ok_if_eq dX12_behind_35 rfl rfl)) (am_nd_ok (am_lf_ok (fun _ => ok_iload dX12_behind_38 rfl)) (am_lf_ok (fun _ => ok_if_ne dX12_behind_40 rfl rfl))))))
def tX12_behind_1 : Nat → Option am_Act := am_nd 68 (am_nd 54 (am_nd 49 (am_nd 44 (am_lf 43 (a_iload 2 44)) (am_nd 47 (am_lf 44 (a_goto 81)) (am_lf 47 (a_iload 10 49)))) (am_nd 50 (am_lf 49 (a_const (nI 1) 50)) (am_nd 53 (am_lf 50 (a_cmp (fun x y => x = y) 53 57)) (am_lf 53 (a_iload 3 54))))) (am_nd 60 (am_nd 57 (am_lf 54 (a_goto 81)) (am_nd 59 (am_lf 57 (a_iload 10 59)) (am_lf 59 (a_const (nI 2) 60)))) (am_nd 63 (am_lf 60 (a_cmp (fun x y => x = y) 63 68)) (am_nd 65 (am_lf 63 (a_iload 4 65)) (am_lf 65 (a_goto 81)))))) (am_nd 81 (am_nd 74 (am_nd 70 (am_lf 68 (a_iload 10 70)) (am_nd 71 (am_lf 70 (a_const (nI 3) 71)) (am_lf 71 (a_cmp (fun x y => x = y) 74 79)))) (am_nd 76 (am_lf 74 (a_iload 5 76)) (am_nd 79 (am_lf 76 (a_goto 81)) (am_lf 79 (a_iload 6 81))))) (am_nd 86 (am_nd 83 (am_lf 81 (a_istore 11 83)) (am_nd 85 (am_lf 83 (a_iload 11 85)) (am_lf 85 (a_const (-1) 86)))) (am_nd 89 (am_lf 86 (a_cmp (fun x y => x = y) 93 89)) (am_nd 90 (am_lf 89 (a_const (nI 1) 90)) (am_lf 90 (a_goto 94))))))
theorem gX12_behind_1 : am_Good tT mX12_behind tX12_behind_1 := am_nd_ok (am_nd_ok (am_nd_ok (am_nd_ok (am_lf_ok (fun _ => ok_iload_n dX12_behind_43 rfl rfl)) (am_nd_ok (am_lf_ok (fun _ => ok_goto dX12_behind_44 rfl)) (am_lf_ok (fun _ => ok_iload dX12_behind_47 rfl)))) (am_nd_ok (am_lf_ok (fun _ => ok_iconst dX12_behind_49 cv_iconst_1 rfl)) (am_nd_ok (am_lf_ok (fun _ => ok_cmp_ne dX12_behind_50 rfl rfl)) (am_lf_ok (fun _ => ok_iload_n dX12_behind_53 rfl rfl))))) (am_nd_ok (am_nd_ok (am_lf_ok (fun _ => ok_goto dX12_behind_54 rfl)) (am_nd_ok (am_lf_ok (fun _ => ok_iload dX12_behind_57 rfl)) (am_lf_ok (fun _ => ok_iconst dX12_behind_59 cv_iconst_2 rfl)))) (am_nd_ok (am_lf_ok (fun _ => ok_cmp_ne dX12_behind_60 rfl rfl)) (am_nd_ok (am_lf_ok (fun _ => ok_iload dX12_behind_63 rfl)) (am_lf_ok (fun _ => ok_goto dX12_behind_65 rfl)))))) (am_nd_ok (am_nd_ok (am_nd_ok (am_lf_ok (fun _ => ok_iload dX12_behind_68 rfl)) (am_nd_ok (am_lf_ok (fun _ => ok_iconst dX12_behind_70 cv_iconst_3 rfl)) (am_lf_ok (fun _ => ok_cmp_ne dX12_behind_71 rfl rfl)))) (am_nd_ok (am_lf_ok (fun _ => ok_iload dX12_behind_74 rfl)) (am_nd_ok (am_lf_ok (fun _ => ok_goto dX12_behind_76 rfl)) (am_lf_ok (fun _ => ok_iload dX12_behind_79 rfl))))) (am_nd_ok (am_nd_ok (am_lf_ok (fun _ => ok_istore dX12_behind_81 (Nat.le_of_ble_eq_true rfl) rfl)) (am_nd_ok (am_lf_ok (fun _ => ok_iload dX12_behind_83 rfl)) (am_lf_ok (fun _ => ok_iconst dX12_behind_85 cv_iconst_m1 rfl)))) (am_nd_ok (am_lf_ok (fun _ => ok_cmp_eq dX12_behind_86 rfl rfl)) (am_nd_ok (am_lf_ok (fun _ => ok_iconst dX12_behind_89 cv_iconst_1 rfl)) (am_lf_ok (fun _ => ok_goto dX12_behind_90 rfl))))))
def tX12_behind_2 : Nat → Option am_Act := am_nd 116 (am_nd 105 (am_nd 98 (am_nd 94 (am_lf 93 (a_const (nI 0) 94)) (am_nd 96 (am_lf 94 (a_istore 9 96)) (am_lf 96 (a_iload 9 98)))) (am_nd 101 (am_lf 98 (a_if (fun x => x = nI 0) 101 104)) (am_nd 104 (am_lf 101 (a_goto 136)) (am_lf 104 (a_aload 0 105))))) (am_nd 113 (am_nd 107 (am_lf 105 (a_iload 11 107)) (am_nd 110 (am_lf 107 (a_cvI tT mX12_isBridge 12 1 110)) (am_lf 110 (a_if (fun x => x = nI 0) 113 115)))) (am_nd 114 (am_lf 113 (a_const (-1) 114)) (am_nd 115 (am_lf 114 (a_iret)) (am_lf 115 (a_aload 0 116)))))) (am_nd 128 (am_nd 123 (am_nd 118 (am_lf 116 (a_iload 11 118)) (am_nd 120 (am_lf 118 (a_iload 7 120)) (am_lf 120 (a_cvI tT mX12_otherEnd 12 2 123)))) (am_nd 125 (am_lf 123 (a_istore 7 125)) (am_nd 127 (am_lf 125 (a_iload 7 127)) (am_lf 127 (a_const (-1) 128))))) (am_nd 133 (am_nd 131 (am_lf 128 (a_cmp (fun x y => x = y) 131 133)) (am_nd 132 (am_lf 131 (a_const (-1) 132)) (am_lf 132 (a_iret)))) (am_nd 136 (am_lf 133 (a_iinc 8 (nI 1) 136)) (am_nd 139 (am_lf 136 (a_iinc 10 (nI 1) 139)) (am_lf 139 (a_goto 27))))))
theorem gX12_behind_2 : am_Good tT mX12_behind tX12_behind_2 := am_nd_ok (am_nd_ok (am_nd_ok (am_nd_ok (am_lf_ok (fun _ => ok_iconst dX12_behind_93 cv_iconst_0 rfl)) (am_nd_ok (am_lf_ok (fun _ => ok_istore dX12_behind_94 (Nat.le_of_ble_eq_true rfl) rfl)) (am_lf_ok (fun _ => ok_iload dX12_behind_96 rfl)))) (am_nd_ok (am_lf_ok (fun _ => ok_if_ne dX12_behind_98 rfl rfl)) (am_nd_ok (am_lf_ok (fun _ => ok_goto dX12_behind_101 rfl)) (am_lf_ok (fun _ => ok_aload_n dX12_behind_104 rfl rfl))))) (am_nd_ok (am_nd_ok (am_lf_ok (fun _ => ok_iload dX12_behind_105 rfl)) (am_nd_ok (am_lf_ok (fun _ => ok_cvI rfl mw_X12_isBridge (ci := 12) rfl rfl wd_569 wd_570 wd_571 dX12_behind_107 rfl)) (am_lf_ok (fun _ => ok_if_ne dX12_behind_110 rfl rfl)))) (am_nd_ok (am_lf_ok (fun _ => ok_iconst dX12_behind_113 cv_iconst_m1 rfl)) (am_nd_ok (am_lf_ok (fun _ => ok_iret rfl dX12_behind_114)) (am_lf_ok (fun _ => ok_aload_n dX12_behind_115 rfl rfl)))))) (am_nd_ok (am_nd_ok (am_nd_ok (am_lf_ok (fun _ => ok_iload dX12_behind_116 rfl)) (am_nd_ok (am_lf_ok (fun _ => ok_iload dX12_behind_118 rfl)) (am_lf_ok (fun _ => ok_cvI rfl mw_X12_otherEnd (ci := 12) rfl rfl wd_556 wd_557 wd_558 dX12_behind_120 rfl)))) (am_nd_ok (am_lf_ok (fun _ => ok_istore dX12_behind_123 (Nat.le_of_ble_eq_true rfl) rfl)) (am_nd_ok (am_lf_ok (fun _ => ok_iload dX12_behind_125 rfl)) (am_lf_ok (fun _ => ok_iconst dX12_behind_127 cv_iconst_m1 rfl))))) (am_nd_ok (am_nd_ok (am_lf_ok (fun _ => ok_cmp_ne dX12_behind_128 rfl rfl)) (am_nd_ok (am_lf_ok (fun _ => ok_iconst dX12_behind_131 cv_iconst_m1 rfl)) (am_lf_ok (fun _ => ok_iret rfl dX12_behind_132)))) (am_nd_ok (am_lf_ok (fun _ => ok_iinc dX12_behind_133 cv_iconst_1 (Nat.le_of_ble_eq_true rfl) rfl)) (am_nd_ok (am_lf_ok (fun _ => ok_iinc dX12_behind_136 cv_iconst_1 (Nat.le_of_ble_eq_true rfl) rfl)) (am_lf_ok (fun _ => ok_goto dX12_behind_139 rfl))))))
def tX12_behind_3 : Nat → Option am_Act := am_nd 162 (am_nd 151 (am_nd 148 (am_nd 144 (am_lf 142 (a_iload 8 144)) (am_nd 147 (am_lf 144 (a_if (fun x => x = nI 0) 147 149)) (am_lf 147 (a_const (-1) 148)))) (am_nd 149 (am_lf 148 (a_iret)) (am_nd 150 (am_lf 149 (a_aload 0 150)) (am_lf 150 (a_const (nI 0) 151))))) (am_nd 157 (am_nd 154 (am_lf 151 (a_cvV tT mX12_laysAside 12 1 154)) (am_nd 155 (am_lf 154 (a_const (nI 1) 155)) (am_lf 155 (a_istore 10 157)))) (am_nd 158 (am_lf 157 (a_const (nI 0) 158)) (am_nd 160 (am_lf 158 (a_istore 11 160)) (am_lf 160 (a_iload 11 162)))))) (am_nd 174 (am_nd 169 (am_nd 164 (am_lf 162 (a_iload 8 164)) (am_nd 167 (am_lf 164 (a_cmp (fun x y => y ≤ x) 238 167)) (am_lf 167 (a_iload 10 169)))) (am_nd 172 (am_lf 169 (a_if (fun x => x = nI 0) 238 172)) (am_nd 173 (am_lf 172 (a_aload 0 173)) (am_lf 173 (a_iload 1 174))))) (am_nd 180 (am_nd 176 (am_lf 174 (a_iload 11 176)) (am_nd 179 (am_lf 176 (a_if (fun x => x = nI 0) 179 183)) (am_lf 179 (a_iload 2 180)))) (am_nd 183 (am_lf 180 (a_goto 217)) (am_nd 185 (am_lf 183 (a_iload 11 185)) (am_lf 185 (a_const (nI 1) 186))))))
theorem gX12_behind_3 : am_Good tT mX12_behind tX12_behind_3 := am_nd_ok (am_nd_ok (am_nd_ok (am_nd_ok (am_lf_ok (fun _ => ok_iload dX12_behind_142 rfl)) (am_nd_ok (am_lf_ok (fun _ => ok_if_ne dX12_behind_144 rfl rfl)) (am_lf_ok (fun _ => ok_iconst dX12_behind_147 cv_iconst_m1 rfl)))) (am_nd_ok (am_lf_ok (fun _ => ok_iret rfl dX12_behind_148)) (am_nd_ok (am_lf_ok (fun _ => ok_aload_n dX12_behind_149 rfl rfl)) (am_lf_ok (fun _ => ok_iconst dX12_behind_150 cv_iconst_0 rfl))))) (am_nd_ok (am_nd_ok (am_lf_ok (fun _ => ok_cvV rfl mw_X12_laysAside (ci := 12) rfl rfl wd_572 wd_573 wd_574 dX12_behind_151 rfl)) (am_nd_ok (am_lf_ok (fun _ => ok_iconst dX12_behind_154 cv_iconst_1 rfl)) (am_lf_ok (fun _ => ok_istore dX12_behind_155 (Nat.le_of_ble_eq_true rfl) rfl)))) (am_nd_ok (am_lf_ok (fun _ => ok_iconst dX12_behind_157 cv_iconst_0 rfl)) (am_nd_ok (am_lf_ok (fun _ => ok_istore dX12_behind_158 (Nat.le_of_ble_eq_true rfl) rfl)) (am_lf_ok (fun _ => ok_iload dX12_behind_160 rfl)))))) (am_nd_ok (am_nd_ok (am_nd_ok (am_lf_ok (fun _ => ok_iload dX12_behind_162 rfl)) (am_nd_ok (am_lf_ok (fun _ => ok_cmp_ge dX12_behind_164 rfl rfl)) (am_lf_ok (fun _ => ok_iload dX12_behind_167 rfl)))) (am_nd_ok (am_lf_ok (fun _ => ok_if_eq dX12_behind_169 rfl rfl)) (am_nd_ok (am_lf_ok (fun _ => ok_aload_n dX12_behind_172 rfl rfl)) (am_lf_ok (fun _ => ok_iload_n dX12_behind_173 rfl rfl))))) (am_nd_ok (am_nd_ok (am_lf_ok (fun _ => ok_iload dX12_behind_174 rfl)) (am_nd_ok (am_lf_ok (fun _ => ok_if_ne dX12_behind_176 rfl rfl)) (am_lf_ok (fun _ => ok_iload_n dX12_behind_179 rfl rfl)))) (am_nd_ok (am_lf_ok (fun _ => ok_goto dX12_behind_180 rfl)) (am_nd_ok (am_lf_ok (fun _ => ok_iload dX12_behind_183 rfl)) (am_lf_ok (fun _ => ok_iconst dX12_behind_185 cv_iconst_1 rfl))))))
def tX12_behind_4 : Nat → Option am_Act := am_nd 212 (am_nd 199 (am_nd 193 (am_nd 189 (am_lf 186 (a_cmp (fun x y => x = y) 189 193)) (am_nd 190 (am_lf 189 (a_iload 3 190)) (am_lf 190 (a_goto 217)))) (am_nd 195 (am_lf 193 (a_iload 11 195)) (am_nd 196 (am_lf 195 (a_const (nI 2) 196)) (am_lf 196 (a_cmp (fun x y => x = y) 199 204))))) (am_nd 206 (am_nd 201 (am_lf 199 (a_iload 4 201)) (am_nd 204 (am_lf 201 (a_goto 217)) (am_lf 204 (a_iload 11 206)))) (am_nd 207 (am_lf 206 (a_const (nI 3) 207)) (am_nd 210 (am_lf 207 (a_cmp (fun x y => x = y) 210 215)) (am_lf 210 (a_iload 5 212)))))) (am_nd 226 (am_nd 220 (am_nd 215 (am_lf 212 (a_goto 217)) (am_nd 217 (am_lf 215 (a_iload 6 217)) (am_lf 217 (a_cvI tT mX12_crosses 12 2 220)))) (am_nd 222 (am_lf 220 (a_const (-2) 222)) (am_nd 225 (am_lf 222 (a_cmp (fun x y => x = y) 229 225)) (am_lf 225 (a_const (nI 1) 226))))) (am_nd 232 (am_nd 229 (am_lf 226 (a_goto 230)) (am_nd 230 (am_lf 229 (a_const (nI 0) 230)) (am_lf 230 (a_istore 10 232)))) (am_nd 235 (am_lf 232 (a_iinc 11 (nI 1) 235)) (am_nd 238 (am_lf 235 (a_goto 160)) (am_lf 238 (a_iload 10 240))))))
theorem gX12_behind_4 : am_Good tT mX12_behind tX12_behind_4 := am_nd_ok (am_nd_ok (am_nd_ok (am_nd_ok (am_lf_ok (fun _ => ok_cmp_ne dX12_behind_186 rfl rfl)) (am_nd_ok (am_lf_ok (fun _ => ok_iload_n dX12_behind_189 rfl rfl)) (am_lf_ok (fun _ => ok_goto dX12_behind_190 rfl)))) (am_nd_ok (am_lf_ok (fun _ => ok_iload dX12_behind_193 rfl)) (am_nd_ok (am_lf_ok (fun _ => ok_iconst dX12_behind_195 cv_iconst_2 rfl)) (am_lf_ok (fun _ => ok_cmp_ne dX12_behind_196 rfl rfl))))) (am_nd_ok (am_nd_ok (am_lf_ok (fun _ => ok_iload dX12_behind_199 rfl)) (am_nd_ok (am_lf_ok (fun _ => ok_goto dX12_behind_201 rfl)) (am_lf_ok (fun _ => ok_iload dX12_behind_204 rfl)))) (am_nd_ok (am_lf_ok (fun _ => ok_iconst dX12_behind_206 cv_iconst_3 rfl)) (am_nd_ok (am_lf_ok (fun _ => ok_cmp_ne dX12_behind_207 rfl rfl)) (am_lf_ok (fun _ => ok_iload dX12_behind_210 rfl)))))) (am_nd_ok (am_nd_ok (am_nd_ok (am_lf_ok (fun _ => ok_goto dX12_behind_212 rfl)) (am_nd_ok (am_lf_ok (fun _ => ok_iload dX12_behind_215 rfl)) (am_lf_ok (fun _ => ok_cvI rfl mw_X12_crosses (ci := 12) rfl rfl wd_575 wd_576 wd_577 dX12_behind_217 rfl)))) (am_nd_ok (am_lf_ok (fun _ => ok_bipush dX12_behind_220 cv_bipush_m2 rfl)) (am_nd_ok (am_lf_ok (fun _ => ok_cmp_eq dX12_behind_222 rfl rfl)) (am_lf_ok (fun _ => ok_iconst dX12_behind_225 cv_iconst_1 rfl))))) (am_nd_ok (am_nd_ok (am_lf_ok (fun _ => ok_goto dX12_behind_226 rfl)) (am_nd_ok (am_lf_ok (fun _ => ok_iconst dX12_behind_229 cv_iconst_0 rfl)) (am_lf_ok (fun _ => ok_istore dX12_behind_230 (Nat.le_of_ble_eq_true rfl) rfl)))) (am_nd_ok (am_lf_ok (fun _ => ok_iinc dX12_behind_232 cv_iconst_1 (Nat.le_of_ble_eq_true rfl) rfl)) (am_nd_ok (am_lf_ok (fun _ => ok_goto dX12_behind_235 rfl)) (am_lf_ok (fun _ => ok_iload dX12_behind_238 rfl))))))
def tX12_behind_5 : Nat → Option am_Act := am_nd 253 (am_nd 245 (am_nd 243 (am_lf 240 (a_if (fun x => x = nI 0) 251 243)) (am_nd 244 (am_lf 243 (a_aload 0 244)) (am_lf 244 (a_iload 1 245)))) (am_nd 248 (am_lf 245 (a_cvI tT mX12_had 12 1 248)) (am_nd 251 (am_lf 248 (a_goto 253)) (am_lf 251 (a_const (-2) 253))))) (am_nd 257 (am_nd 255 (am_lf 253 (a_istore 11 255)) (am_nd 256 (am_lf 255 (a_aload 0 256)) (am_lf 256 (a_const (nI 0) 257)))) (am_nd 260 (am_lf 257 (a_cvV tT mX12_putsBack 12 1 260)) (am_nd 262 (am_lf 260 (a_iload 11 262)) (am_lf 262 (a_iret)))))
theorem gX12_behind_5 : am_Good tT mX12_behind tX12_behind_5 := am_nd_ok (am_nd_ok (am_nd_ok (am_lf_ok (fun _ => ok_if_eq dX12_behind_240 rfl rfl)) (am_nd_ok (am_lf_ok (fun _ => ok_aload_n dX12_behind_243 rfl rfl)) (am_lf_ok (fun _ => ok_iload_n dX12_behind_244 rfl rfl)))) (am_nd_ok (am_lf_ok (fun _ => ok_cvI rfl mw_X12_had (ci := 12) rfl rfl wd_587 wd_588 wd_589 dX12_behind_245 rfl)) (am_nd_ok (am_lf_ok (fun _ => ok_goto dX12_behind_248 rfl)) (am_lf_ok (fun _ => ok_bipush dX12_behind_251 cv_bipush_m2 rfl))))) (am_nd_ok (am_nd_ok (am_lf_ok (fun _ => ok_istore dX12_behind_253 (Nat.le_of_ble_eq_true rfl) rfl)) (am_nd_ok (am_lf_ok (fun _ => ok_aload_n dX12_behind_255 rfl rfl)) (am_lf_ok (fun _ => ok_iconst dX12_behind_256 cv_iconst_0 rfl)))) (am_nd_ok (am_lf_ok (fun _ => ok_cvV rfl mw_X12_putsBack (ci := 12) rfl rfl wd_578 wd_579 wd_580 dX12_behind_257 rfl)) (am_nd_ok (am_lf_ok (fun _ => ok_iload dX12_behind_260 rfl)) (am_lf_ok (fun _ => ok_iret rfl dX12_behind_262)))))
def tX12_behind : Nat → Option am_Act := am_nd 142 (am_nd 43 (tX12_behind_0) (am_nd 93 (tX12_behind_1) (tX12_behind_2))) (am_nd 186 (tX12_behind_3) (am_nd 240 (tX12_behind_4) (tX12_behind_5)))
theorem gX12_behind : am_Good tT mX12_behind tX12_behind := am_nd_ok (am_nd_ok (gX12_behind_0) (am_nd_ok (gX12_behind_1) (gX12_behind_2))) (am_nd_ok (gX12_behind_3) (am_nd_ok (gX12_behind_4) (gX12_behind_5)))
