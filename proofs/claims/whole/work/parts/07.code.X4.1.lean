/-! ===== code of TollOfNames$LawReader ===== -/
theorem dX4_scan_0 : decode cX4_scan 0 = .ok (.iconst 0, 1) := by decide +kernel
theorem dX4_scan_1 : decode cX4_scan 1 = .ok (.istore_n 1, 1) := by decide +kernel
theorem dX4_scan_2 : decode cX4_scan 2 = .ok (.iconst 0, 1) := by decide +kernel
theorem dX4_scan_3 : decode cX4_scan 3 = .ok (.istore_n 2, 1) := by decide +kernel
theorem dX4_scan_4 : decode cX4_scan 4 = .ok (.iconst 0, 1) := by decide +kernel
theorem dX4_scan_5 : decode cX4_scan 5 = .ok (.istore_n 3, 1) := by decide +kernel
theorem dX4_scan_6 : decode cX4_scan 6 = .ok (.iload_n 3, 1) := by decide +kernel
theorem dX4_scan_7 : decode cX4_scan 7 = .ok (.sipush 400, 3) := by decide +kernel
theorem dX4_scan_10 : decode cX4_scan 10 = .ok (.if_icmp .ge 153, 3) := by decide +kernel
theorem dX4_scan_13 : decode cX4_scan 13 = .ok (.iload_n 2, 1) := by decide +kernel
theorem dX4_scan_14 : decode cX4_scan 14 = .ok (.aload_n 0, 1) := by decide +kernel
theorem dX4_scan_15 : decode cX4_scan 15 = .ok (.getfield 35, 3) := by decide +kernel
theorem dX4_scan_18 : decode cX4_scan 18 = .ok (.if_icmp .ge 145, 3) := by decide +kernel
theorem dX4_scan_21 : decode cX4_scan 21 = .ok (.aload_n 0, 1) := by decide +kernel
theorem dX4_scan_22 : decode cX4_scan 22 = .ok (.getfield 25, 3) := by decide +kernel
theorem dX4_scan_25 : decode cX4_scan 25 = .ok (.iload_n 2, 1) := by decide +kernel
theorem dX4_scan_26 : decode cX4_scan 26 = .ok (.iaload, 1) := by decide +kernel
theorem dX4_scan_27 : decode cX4_scan 27 = .ok (.istore 4, 2) := by decide +kernel
theorem dX4_scan_29 : decode cX4_scan 29 = .ok (.iload_n 2, 1) := by decide +kernel
theorem dX4_scan_30 : decode cX4_scan 30 = .ok (.iconst 1, 1) := by decide +kernel
theorem dX4_scan_31 : decode cX4_scan 31 = .ok (.iadd, 1) := by decide +kernel
theorem dX4_scan_32 : decode cX4_scan 32 = .ok (.istore 5, 2) := by decide +kernel
theorem dX4_scan_34 : decode cX4_scan 34 = .ok (.iload 4, 2) := by decide +kernel
theorem dX4_scan_36 : decode cX4_scan 36 = .ok (.bipush 32, 2) := by decide +kernel
theorem dX4_scan_38 : decode cX4_scan 38 = .ok (.if_icmp .eq 10, 3) := by decide +kernel
theorem dX4_scan_41 : decode cX4_scan 41 = .ok (.iload 4, 2) := by decide +kernel
theorem dX4_scan_43 : decode cX4_scan 43 = .ok (.bipush 10, 2) := by decide +kernel
theorem dX4_scan_45 : decode cX4_scan 45 = .ok (.if_icmp .ne 9, 3) := by decide +kernel
theorem dX4_scan_48 : decode cX4_scan 48 = .ok (.iload 5, 2) := by decide +kernel
theorem dX4_scan_50 : decode cX4_scan 50 = .ok (.istore_n 2, 1) := by decide +kernel
theorem dX4_scan_51 : decode cX4_scan 51 = .ok (.goto 106, 3) := by decide +kernel
theorem dX4_scan_54 : decode cX4_scan 54 = .ok (.aload_n 0, 1) := by decide +kernel
theorem dX4_scan_55 : decode cX4_scan 55 = .ok (.getfield 32, 3) := by decide +kernel
theorem dX4_scan_58 : decode cX4_scan 58 = .ok (.iload_n 1, 1) := by decide +kernel
theorem dX4_scan_59 : decode cX4_scan 59 = .ok (.iload_n 2, 1) := by decide +kernel
theorem dX4_scan_60 : decode cX4_scan 60 = .ok (.iastore, 1) := by decide +kernel
theorem dX4_scan_61 : decode cX4_scan 61 = .ok (.iload 4, 2) := by decide +kernel
theorem dX4_scan_63 : decode cX4_scan 63 = .ok (.invokestatic 87, 3) := by decide +kernel
theorem dX4_scan_66 : decode cX4_scan 66 = .ok (.ifCond .eq 26, 3) := by decide +kernel
theorem dX4_scan_69 : decode cX4_scan 69 = .ok (.aload_n 0, 1) := by decide +kernel
theorem dX4_scan_70 : decode cX4_scan 70 = .ok (.iload_n 2, 1) := by decide +kernel
theorem dX4_scan_71 : decode cX4_scan 71 = .ok (.invokevirtual 90, 3) := by decide +kernel
theorem dX4_scan_74 : decode cX4_scan 74 = .ok (.istore 5, 2) := by decide +kernel
theorem dX4_scan_76 : decode cX4_scan 76 = .ok (.aload_n 0, 1) := by decide +kernel
theorem dX4_scan_77 : decode cX4_scan 77 = .ok (.getfield 29, 3) := by decide +kernel
theorem dX4_scan_80 : decode cX4_scan 80 = .ok (.iload_n 1, 1) := by decide +kernel
theorem dX4_scan_81 : decode cX4_scan 81 = .ok (.aload_n 0, 1) := by decide +kernel
theorem dX4_scan_82 : decode cX4_scan 82 = .ok (.iload_n 2, 1) := by decide +kernel
theorem dX4_scan_83 : decode cX4_scan 83 = .ok (.iload 5, 2) := by decide +kernel
theorem dX4_scan_85 : decode cX4_scan 85 = .ok (.invokevirtual 94, 3) := by decide +kernel
theorem dX4_scan_88 : decode cX4_scan 88 = .ok (.iastore, 1) := by decide +kernel
theorem dX4_scan_89 : decode cX4_scan 89 = .ok (.goto 62, 3) := by decide +kernel
theorem dX4_scan_92 : decode cX4_scan 92 = .ok (.iload 4, 2) := by decide +kernel
theorem dX4_scan_94 : decode cX4_scan 94 = .ok (.invokestatic 98, 3) := by decide +kernel
theorem dX4_scan_97 : decode cX4_scan 97 = .ok (.ifCond .eq 26, 3) := by decide +kernel
theorem dX4_scan_100 : decode cX4_scan 100 = .ok (.aload_n 0, 1) := by decide +kernel
theorem dX4_scan_101 : decode cX4_scan 101 = .ok (.iload_n 2, 1) := by decide +kernel
theorem dX4_scan_102 : decode cX4_scan 102 = .ok (.invokevirtual 101, 3) := by decide +kernel
theorem dX4_scan_105 : decode cX4_scan 105 = .ok (.istore 5, 2) := by decide +kernel
theorem dX4_scan_107 : decode cX4_scan 107 = .ok (.aload_n 0, 1) := by decide +kernel
theorem dX4_scan_108 : decode cX4_scan 108 = .ok (.getfield 29, 3) := by decide +kernel
theorem dX4_scan_111 : decode cX4_scan 111 = .ok (.iload_n 1, 1) := by decide +kernel
theorem dX4_scan_112 : decode cX4_scan 112 = .ok (.aload_n 0, 1) := by decide +kernel
theorem dX4_scan_113 : decode cX4_scan 113 = .ok (.iload_n 2, 1) := by decide +kernel
theorem dX4_scan_114 : decode cX4_scan 114 = .ok (.iload 5, 2) := by decide +kernel
theorem dX4_scan_116 : decode cX4_scan 116 = .ok (.invokevirtual 104, 3) := by decide +kernel
theorem dX4_scan_119 : decode cX4_scan 119 = .ok (.iastore, 1) := by decide +kernel
theorem dX4_scan_120 : decode cX4_scan 120 = .ok (.goto 31, 3) := by decide +kernel
theorem dX4_scan_123 : decode cX4_scan 123 = .ok (.aload_n 0, 1) := by decide +kernel
theorem dX4_scan_124 : decode cX4_scan 124 = .ok (.getfield 29, 3) := by decide +kernel
theorem dX4_scan_127 : decode cX4_scan 127 = .ok (.iload_n 1, 1) := by decide +kernel
theorem dX4_scan_128 : decode cX4_scan 128 = .ok (.ldc 107, 2) := by decide +kernel
theorem dX4_scan_130 : decode cX4_scan 130 = .ok (.iload 4, 2) := by decide +kernel
theorem dX4_scan_132 : decode cX4_scan 132 = .ok (.i2c, 1) := by decide +kernel
theorem dX4_scan_133 : decode cX4_scan 133 = .ok (.invokevirtual 109, 3) := by decide +kernel
theorem dX4_scan_136 : decode cX4_scan 136 = .ok (.ifCond .lt 12, 3) := by decide +kernel
theorem dX4_scan_139 : decode cX4_scan 139 = .ok (.sipush 20000, 3) := by decide +kernel
theorem dX4_scan_142 : decode cX4_scan 142 = .ok (.iload 4, 2) := by decide +kernel
theorem dX4_scan_144 : decode cX4_scan 144 = .ok (.iadd, 1) := by decide +kernel
theorem dX4_scan_145 : decode cX4_scan 145 = .ok (.goto 5, 3) := by decide +kernel
theorem dX4_scan_148 : decode cX4_scan 148 = .ok (.bipush (-2), 2) := by decide +kernel
theorem dX4_scan_150 : decode cX4_scan 150 = .ok (.iastore, 1) := by decide +kernel
theorem dX4_scan_151 : decode cX4_scan 151 = .ok (.iinc 1 1, 3) := by decide +kernel
theorem dX4_scan_154 : decode cX4_scan 154 = .ok (.iload 5, 2) := by decide +kernel
theorem dX4_scan_156 : decode cX4_scan 156 = .ok (.istore_n 2, 1) := by decide +kernel
theorem dX4_scan_157 : decode cX4_scan 157 = .ok (.iinc 3 1, 3) := by decide +kernel
theorem dX4_scan_160 : decode cX4_scan 160 = .ok (.goto (-154), 3) := by decide +kernel
theorem dX4_scan_163 : decode cX4_scan 163 = .ok (.aload_n 0, 1) := by decide +kernel
theorem dX4_scan_164 : decode cX4_scan 164 = .ok (.getfield 32, 3) := by decide +kernel
theorem dX4_scan_167 : decode cX4_scan 167 = .ok (.iload_n 1, 1) := by decide +kernel
theorem dX4_scan_168 : decode cX4_scan 168 = .ok (.aload_n 0, 1) := by decide +kernel
theorem dX4_scan_169 : decode cX4_scan 169 = .ok (.getfield 35, 3) := by decide +kernel
theorem dX4_scan_172 : decode cX4_scan 172 = .ok (.iastore, 1) := by decide +kernel
theorem dX4_scan_173 : decode cX4_scan 173 = .ok (.aload_n 0, 1) := by decide +kernel
theorem dX4_scan_174 : decode cX4_scan 174 = .ok (.getfield 29, 3) := by decide +kernel
theorem dX4_scan_177 : decode cX4_scan 177 = .ok (.iload_n 1, 1) := by decide +kernel
theorem dX4_scan_178 : decode cX4_scan 178 = .ok (.iconst (-1), 1) := by decide +kernel
theorem dX4_scan_179 : decode cX4_scan 179 = .ok (.iastore, 1) := by decide +kernel
theorem dX4_scan_180 : decode cX4_scan 180 = .ok (.return_, 1) := by decide +kernel
def tX4_scan_0 : Nat → Option am_Act := am_nd 18 (am_nd 6 (am_nd 3 (am_nd 1 (am_lf 0 (a_const (nI 0) 1)) (am_nd 2 (am_lf 1 (a_istore 1 2)) (am_lf 2 (a_const (nI 0) 3)))) (am_nd 4 (am_lf 3 (a_istore 2 4)) (am_nd 5 (am_lf 4 (a_const (nI 0) 5)) (am_lf 5 (a_istore 3 6))))) (am_nd 13 (am_nd 7 (am_lf 6 (a_iload 3 7)) (am_nd 10 (am_lf 7 (a_const (nI 400) 10)) (am_lf 10 (a_cmp (fun x y => y ≤ x) 163 13)))) (am_nd 14 (am_lf 13 (a_iload 2 14)) (am_nd 15 (am_lf 14 (a_aload 0 15)) (am_lf 15 (a_get tT 4 0 18)))))) (am_nd 29 (am_nd 25 (am_nd 21 (am_lf 18 (a_cmp (fun x y => y ≤ x) 163 21)) (am_nd 22 (am_lf 21 (a_aload 0 22)) (am_lf 22 (a_get tT 4 4 25)))) (am_nd 26 (am_lf 25 (a_iload 2 26)) (am_nd 27 (am_lf 26 (a_iald tT 27)) (am_lf 27 (a_istore 4 29))))) (am_nd 32 (am_nd 30 (am_lf 29 (a_iload 2 30)) (am_nd 31 (am_lf 30 (a_const (nI 1) 31)) (am_lf 31 (a_bin (fun x y => x + y) 32)))) (am_nd 34 (am_lf 32 (a_istore 5 34)) (am_nd 36 (am_lf 34 (a_iload 4 36)) (am_lf 36 (a_const (nI 32) 38))))))
theorem gX4_scan_0 : am_Good tT mX4_scan tX4_scan_0 := am_nd_ok (am_nd_ok (am_nd_ok (am_nd_ok (am_lf_ok (fun _ => ok_iconst dX4_scan_0 cv_iconst_0 rfl)) (am_nd_ok (am_lf_ok (fun _ => ok_istore_n dX4_scan_1 rfl (Nat.le_of_ble_eq_true rfl) rfl)) (am_lf_ok (fun _ => ok_iconst dX4_scan_2 cv_iconst_0 rfl)))) (am_nd_ok (am_lf_ok (fun _ => ok_istore_n dX4_scan_3 rfl (Nat.le_of_ble_eq_true rfl) rfl)) (am_nd_ok (am_lf_ok (fun _ => ok_iconst dX4_scan_4 cv_iconst_0 rfl)) (am_lf_ok (fun _ => ok_istore_n dX4_scan_5 rfl (Nat.le_of_ble_eq_true rfl) rfl))))) (am_nd_ok (am_nd_ok (am_lf_ok (fun _ => ok_iload_n dX4_scan_6 rfl rfl)) (am_nd_ok (am_lf_ok (fun _ => ok_sipush dX4_scan_7 cv_sipush_400 rfl)) (am_lf_ok (fun _ => ok_cmp_ge dX4_scan_10 rfl rfl)))) (am_nd_ok (am_lf_ok (fun _ => ok_iload_n dX4_scan_13 rfl rfl)) (am_nd_ok (am_lf_ok (fun _ => ok_aload_n dX4_scan_14 rfl rfl)) (am_lf_ok (fun _ => ok_get (C := RX4) (TT := TX4) (N := 9) rfl inw_X4 (Nat.le_of_ble_eq_true rfl) wd_80 dX4_scan_15 rfl)))))) (am_nd_ok (am_nd_ok (am_nd_ok (am_lf_ok (fun _ => ok_cmp_ge dX4_scan_18 rfl rfl)) (am_nd_ok (am_lf_ok (fun _ => ok_aload_n dX4_scan_21 rfl rfl)) (am_lf_ok (fun _ => ok_get (C := RX4) (TT := TX4) (N := 9) rfl inw_X4 (Nat.le_of_ble_eq_true rfl) wd_81 dX4_scan_22 rfl)))) (am_nd_ok (am_lf_ok (fun _ => ok_iload_n dX4_scan_25 rfl rfl)) (am_nd_ok (am_lf_ok (fun _ => ok_iald dX4_scan_26 rfl)) (am_lf_ok (fun _ => ok_istore dX4_scan_27 (Nat.le_of_ble_eq_true rfl) rfl))))) (am_nd_ok (am_nd_ok (am_lf_ok (fun _ => ok_iload_n dX4_scan_29 rfl rfl)) (am_nd_ok (am_lf_ok (fun _ => ok_iconst dX4_scan_30 cv_iconst_1 rfl)) (am_lf_ok (fun _ => ok_iadd dX4_scan_31 rfl)))) (am_nd_ok (am_lf_ok (fun _ => ok_istore dX4_scan_32 (Nat.le_of_ble_eq_true rfl) rfl)) (am_nd_ok (am_lf_ok (fun _ => ok_iload dX4_scan_34 rfl)) (am_lf_ok (fun _ => ok_bipush dX4_scan_36 cv_bipush_32 rfl))))))
def tX4_scan_1 : Nat → Option am_Act := am_nd 61 (am_nd 51 (am_nd 45 (am_nd 41 (am_lf 38 (a_cmp (fun x y => x = y) 48 41)) (am_nd 43 (am_lf 41 (a_iload 4 43)) (am_lf 43 (a_const (nI 10) 45)))) (am_nd 48 (am_lf 45 (a_cmp (fun x y => x = y) 48 54)) (am_nd 50 (am_lf 48 (a_iload 5 50)) (am_lf 50 (a_istore 2 51))))) (am_nd 58 (am_nd 54 (am_lf 51 (a_goto 157)) (am_nd 55 (am_lf 54 (a_aload 0 55)) (am_lf 55 (a_get tT 4 6 58)))) (am_nd 59 (am_lf 58 (a_iload 1 59)) (am_nd 60 (am_lf 59 (a_iload 2 60)) (am_lf 60 (a_iast tT 61)))))) (am_nd 74 (am_nd 69 (am_nd 63 (am_lf 61 (a_iload 4 63)) (am_nd 66 (am_lf 63 (a_csI mX4_isLetter 1 66)) (am_lf 66 (a_if (fun x => x = nI 0) 92 69)))) (am_nd 70 (am_lf 69 (a_aload 0 70)) (am_nd 71 (am_lf 70 (a_iload 2 71)) (am_lf 71 (a_cvI tT mX4_wordEnd 4 1 74))))) (am_nd 80 (am_nd 76 (am_lf 74 (a_istore 5 76)) (am_nd 77 (am_lf 76 (a_aload 0 77)) (am_lf 77 (a_get tT 4 5 80)))) (am_nd 81 (am_lf 80 (a_iload 1 81)) (am_nd 82 (am_lf 81 (a_aload 0 82)) (am_lf 82 (a_iload 2 83))))))
theorem gX4_scan_1 : am_Good tT mX4_scan tX4_scan_1 := am_nd_ok (am_nd_ok (am_nd_ok (am_nd_ok (am_lf_ok (fun _ => ok_cmp_eq dX4_scan_38 rfl rfl)) (am_nd_ok (am_lf_ok (fun _ => ok_iload dX4_scan_41 rfl)) (am_lf_ok (fun _ => ok_bipush dX4_scan_43 cv_bipush_10 rfl)))) (am_nd_ok (am_lf_ok (fun _ => ok_cmp_ne dX4_scan_45 rfl rfl)) (am_nd_ok (am_lf_ok (fun _ => ok_iload dX4_scan_48 rfl)) (am_lf_ok (fun _ => ok_istore_n dX4_scan_50 rfl (Nat.le_of_ble_eq_true rfl) rfl))))) (am_nd_ok (am_nd_ok (am_lf_ok (fun _ => ok_goto dX4_scan_51 rfl)) (am_nd_ok (am_lf_ok (fun _ => ok_aload_n dX4_scan_54 rfl rfl)) (am_lf_ok (fun _ => ok_get (C := RX4) (TT := TX4) (N := 9) rfl inw_X4 (Nat.le_of_ble_eq_true rfl) wd_122 dX4_scan_55 rfl)))) (am_nd_ok (am_lf_ok (fun _ => ok_iload_n dX4_scan_58 rfl rfl)) (am_nd_ok (am_lf_ok (fun _ => ok_iload_n dX4_scan_59 rfl rfl)) (am_lf_ok (fun _ => ok_iast dX4_scan_60 rfl)))))) (am_nd_ok (am_nd_ok (am_nd_ok (am_lf_ok (fun _ => ok_iload dX4_scan_61 rfl)) (am_nd_ok (am_lf_ok (fun _ => ok_csI rfl mw_X4_isLetter wd_123 wd_124 dX4_scan_63 rfl)) (am_lf_ok (fun _ => ok_if_eq dX4_scan_66 rfl rfl)))) (am_nd_ok (am_lf_ok (fun _ => ok_aload_n dX4_scan_69 rfl rfl)) (am_nd_ok (am_lf_ok (fun _ => ok_iload_n dX4_scan_70 rfl rfl)) (am_lf_ok (fun _ => ok_cvI rfl mw_X4_wordEnd (ci := 4) rfl rfl wd_125 wd_126 wd_127 dX4_scan_71 rfl))))) (am_nd_ok (am_nd_ok (am_lf_ok (fun _ => ok_istore dX4_scan_74 (Nat.le_of_ble_eq_true rfl) rfl)) (am_nd_ok (am_lf_ok (fun _ => ok_aload_n dX4_scan_76 rfl rfl)) (am_lf_ok (fun _ => ok_get (C := RX4) (TT := TX4) (N := 9) rfl inw_X4 (Nat.le_of_ble_eq_true rfl) wd_92 dX4_scan_77 rfl)))) (am_nd_ok (am_lf_ok (fun _ => ok_iload_n dX4_scan_80 rfl rfl)) (am_nd_ok (am_lf_ok (fun _ => ok_aload_n dX4_scan_81 rfl rfl)) (am_lf_ok (fun _ => ok_iload_n dX4_scan_82 rfl rfl))))))
def tX4_scan_2 : Nat → Option am_Act := am_nd 108 (am_nd 97 (am_nd 89 (am_nd 85 (am_lf 83 (a_iload 5 85)) (am_nd 88 (am_lf 85 (a_cvI tT mX4_wordOf 4 2 88)) (am_lf 88 (a_iast tT 89)))) (am_nd 92 (am_lf 89 (a_goto 151)) (am_nd 94 (am_lf 92 (a_iload 4 94)) (am_lf 94 (a_csI mX4_isDigit 1 97))))) (am_nd 102 (am_nd 100 (am_lf 97 (a_if (fun x => x = nI 0) 123 100)) (am_nd 101 (am_lf 100 (a_aload 0 101)) (am_lf 101 (a_iload 2 102)))) (am_nd 105 (am_lf 102 (a_cvI tT mX4_numberEnd 4 1 105)) (am_nd 107 (am_lf 105 (a_istore 5 107)) (am_lf 107 (a_aload 0 108)))))) (am_nd 119 (am_nd 113 (am_nd 111 (am_lf 108 (a_get tT 4 5 111)) (am_nd 112 (am_lf 111 (a_iload 1 112)) (am_lf 112 (a_aload 0 113)))) (am_nd 114 (am_lf 113 (a_iload 2 114)) (am_nd 116 (am_lf 114 (a_iload 5 116)) (am_lf 116 (a_cvI tT mX4_numberOf 4 2 119))))) (am_nd 124 (am_nd 120 (am_lf 119 (a_iast tT 120)) (am_nd 123 (am_lf 120 (a_goto 151)) (am_lf 123 (a_aload 0 124)))) (am_nd 127 (am_lf 124 (a_get tT 4 5 127)) (am_nd 128 (am_lf 127 (a_iload 1 128)) (am_lf 128 (a_ldS 1 130))))))
theorem gX4_scan_2 : am_Good tT mX4_scan tX4_scan_2 := am_nd_ok (am_nd_ok (am_nd_ok (am_nd_ok (am_lf_ok (fun _ => ok_iload dX4_scan_83 rfl)) (am_nd_ok (am_lf_ok (fun _ => ok_cvI rfl mw_X4_wordOf (ci := 4) rfl rfl wd_128 wd_129 wd_130 dX4_scan_85 rfl)) (am_lf_ok (fun _ => ok_iast dX4_scan_88 rfl)))) (am_nd_ok (am_lf_ok (fun _ => ok_goto dX4_scan_89 rfl)) (am_nd_ok (am_lf_ok (fun _ => ok_iload dX4_scan_92 rfl)) (am_lf_ok (fun _ => ok_csI rfl mw_X4_isDigit wd_131 wd_132 dX4_scan_94 rfl))))) (am_nd_ok (am_nd_ok (am_lf_ok (fun _ => ok_if_eq dX4_scan_97 rfl rfl)) (am_nd_ok (am_lf_ok (fun _ => ok_aload_n dX4_scan_100 rfl rfl)) (am_lf_ok (fun _ => ok_iload_n dX4_scan_101 rfl rfl)))) (am_nd_ok (am_lf_ok (fun _ => ok_cvI rfl mw_X4_numberEnd (ci := 4) rfl rfl wd_133 wd_134 wd_135 dX4_scan_102 rfl)) (am_nd_ok (am_lf_ok (fun _ => ok_istore dX4_scan_105 (Nat.le_of_ble_eq_true rfl) rfl)) (am_lf_ok (fun _ => ok_aload_n dX4_scan_107 rfl rfl)))))) (am_nd_ok (am_nd_ok (am_nd_ok (am_lf_ok (fun _ => ok_get (C := RX4) (TT := TX4) (N := 9) rfl inw_X4 (Nat.le_of_ble_eq_true rfl) wd_92 dX4_scan_108 rfl)) (am_nd_ok (am_lf_ok (fun _ => ok_iload_n dX4_scan_111 rfl rfl)) (am_lf_ok (fun _ => ok_aload_n dX4_scan_112 rfl rfl)))) (am_nd_ok (am_lf_ok (fun _ => ok_iload_n dX4_scan_113 rfl rfl)) (am_nd_ok (am_lf_ok (fun _ => ok_iload dX4_scan_114 rfl)) (am_lf_ok (fun _ => ok_cvI rfl mw_X4_numberOf (ci := 4) rfl rfl wd_136 wd_137 wd_138 dX4_scan_116 rfl))))) (am_nd_ok (am_nd_ok (am_lf_ok (fun _ => ok_iast dX4_scan_119 rfl)) (am_nd_ok (am_lf_ok (fun _ => ok_goto dX4_scan_120 rfl)) (am_lf_ok (fun _ => ok_aload_n dX4_scan_123 rfl rfl)))) (am_nd_ok (am_lf_ok (fun _ => ok_get (C := RX4) (TT := TX4) (N := 9) rfl inw_X4 (Nat.le_of_ble_eq_true rfl) wd_92 dX4_scan_124 rfl)) (am_nd_ok (am_lf_ok (fun _ => ok_iload_n dX4_scan_127 rfl rfl)) (am_lf_ok (fun _ => ok_ldS (tx := ";+-*/()<=>") (List.mem_of_getElem? (i := 1) rfl) dX4_scan_128 rfl))))))
def tX4_scan_3 : Nat → Option am_Act := am_nd 156 (am_nd 144 (am_nd 136 (am_nd 132 (am_lf 130 (a_iload 4 132)) (am_nd 133 (am_lf 132 (a_un am_i2c 133)) (am_lf 133 (a_cvS tT mJ0_indexOf_0f7a4 1 136)))) (am_nd 139 (am_lf 136 (a_if (fun x => x < nI 0) 148 139)) (am_nd 142 (am_lf 139 (a_const (nI 20000) 142)) (am_lf 142 (a_iload 4 144))))) (am_nd 150 (am_nd 145 (am_lf 144 (a_bin (fun x y => x + y) 145)) (am_nd 148 (am_lf 145 (a_goto 150)) (am_lf 148 (a_const (-2) 150)))) (am_nd 151 (am_lf 150 (a_iast tT 151)) (am_nd 154 (am_lf 151 (a_iinc 1 (nI 1) 154)) (am_lf 154 (a_iload 5 156)))))) (am_nd 168 (am_nd 163 (am_nd 157 (am_lf 156 (a_istore 2 157)) (am_nd 160 (am_lf 157 (a_iinc 3 (nI 1) 160)) (am_lf 160 (a_goto 6)))) (am_nd 164 (am_lf 163 (a_aload 0 164)) (am_nd 167 (am_lf 164 (a_get tT 4 6 167)) (am_lf 167 (a_iload 1 168))))) (am_nd 173 (am_nd 169 (am_lf 168 (a_aload 0 169)) (am_nd 172 (am_lf 169 (a_get tT 4 0 172)) (am_lf 172 (a_iast tT 173)))) (am_nd 174 (am_lf 173 (a_aload 0 174)) (am_nd 177 (am_lf 174 (a_get tT 4 5 177)) (am_lf 177 (a_iload 1 178))))))
theorem gX4_scan_3 : am_Good tT mX4_scan tX4_scan_3 := am_nd_ok (am_nd_ok (am_nd_ok (am_nd_ok (am_lf_ok (fun _ => ok_iload dX4_scan_130 rfl)) (am_nd_ok (am_lf_ok (fun _ => ok_i2c dX4_scan_132 rfl)) (am_lf_ok (fun _ => ok_cvS rfl mw_J0_indexOf_0f7a4 rfl wd_139 wd_140 wd_141 dX4_scan_133 rfl)))) (am_nd_ok (am_lf_ok (fun _ => ok_if_lt dX4_scan_136 rfl rfl)) (am_nd_ok (am_lf_ok (fun _ => ok_sipush dX4_scan_139 cv_sipush_20000 rfl)) (am_lf_ok (fun _ => ok_iload dX4_scan_142 rfl))))) (am_nd_ok (am_nd_ok (am_lf_ok (fun _ => ok_iadd dX4_scan_144 rfl)) (am_nd_ok (am_lf_ok (fun _ => ok_goto dX4_scan_145 rfl)) (am_lf_ok (fun _ => ok_bipush dX4_scan_148 cv_bipush_m2 rfl)))) (am_nd_ok (am_lf_ok (fun _ => ok_iast dX4_scan_150 rfl)) (am_nd_ok (am_lf_ok (fun _ => ok_iinc dX4_scan_151 cv_iconst_1 (Nat.le_of_ble_eq_true rfl) rfl)) (am_lf_ok (fun _ => ok_iload dX4_scan_154 rfl)))))) (am_nd_ok (am_nd_ok (am_nd_ok (am_lf_ok (fun _ => ok_istore_n dX4_scan_156 rfl (Nat.le_of_ble_eq_true rfl) rfl)) (am_nd_ok (am_lf_ok (fun _ => ok_iinc dX4_scan_157 cv_iconst_1 (Nat.le_of_ble_eq_true rfl) rfl)) (am_lf_ok (fun _ => ok_goto dX4_scan_160 rfl)))) (am_nd_ok (am_lf_ok (fun _ => ok_aload_n dX4_scan_163 rfl rfl)) (am_nd_ok (am_lf_ok (fun _ => ok_get (C := RX4) (TT := TX4) (N := 9) rfl inw_X4 (Nat.le_of_ble_eq_true rfl) wd_122 dX4_scan_164 rfl)) (am_lf_ok (fun _ => ok_iload_n dX4_scan_167 rfl rfl))))) (am_nd_ok (am_nd_ok (am_lf_ok (fun _ => ok_aload_n dX4_scan_168 rfl rfl)) (am_nd_ok (am_lf_ok (fun _ => ok_get (C := RX4) (TT := TX4) (N := 9) rfl inw_X4 (Nat.le_of_ble_eq_true rfl) wd_80 dX4_scan_169 rfl)) (am_lf_ok (fun _ => ok_iast dX4_scan_172 rfl)))) (am_nd_ok (am_lf_ok (fun _ => ok_aload_n dX4_scan_173 rfl rfl)) (am_nd_ok (am_lf_ok (fun _ => ok_get (C := RX4) (TT := TX4) (N := 9) rfl inw_X4 (Nat.le_of_ble_eq_true rfl) wd_92 dX4_scan_174 rfl)) (am_lf_ok (fun _ => ok_iload_n dX4_scan_177 rfl rfl))))))
def tX4_scan_4 : Nat → Option am_Act := am_nd 179 (am_lf 178 (a_const (-1) 179)) (am_nd 180 (am_lf 179 (a_iast tT 180)) (am_lf 180 (a_ret)))
theorem gX4_scan_4 : am_Good tT mX4_scan tX4_scan_4 := am_nd_ok (am_lf_ok (fun _ => ok_iconst dX4_scan_178 cv_iconst_m1 rfl)) (am_nd_ok (am_lf_ok (fun _ => ok_iast dX4_scan_179 rfl)) (am_lf_ok (fun _ => ok_ret rfl dX4_scan_180)))
def tX4_scan : Nat → Option am_Act := am_nd 83 (am_nd 38 (tX4_scan_0) (tX4_scan_1)) (am_nd 130 (tX4_scan_2) (am_nd 178 (tX4_scan_3) (tX4_scan_4)))
theorem gX4_scan : am_Good tT mX4_scan tX4_scan := am_nd_ok (am_nd_ok (gX4_scan_0) (gX4_scan_1)) (am_nd_ok (gX4_scan_2) (am_nd_ok (gX4_scan_3) (gX4_scan_4)))
theorem dX4_wordEnd_0 : decode cX4_wordEnd 0 = .ok (.iload_n 1, 1) := by decide +kernel
theorem dX4_wordEnd_1 : decode cX4_wordEnd 1 = .ok (.istore_n 2, 1) := by decide +kernel
theorem dX4_wordEnd_2 : decode cX4_wordEnd 2 = .ok (.iload_n 2, 1) := by decide +kernel
theorem dX4_wordEnd_3 : decode cX4_wordEnd 3 = .ok (.aload_n 0, 1) := by decide +kernel
theorem dX4_wordEnd_4 : decode cX4_wordEnd 4 = .ok (.getfield 35, 3) := by decide +kernel
theorem dX4_wordEnd_7 : decode cX4_wordEnd 7 = .ok (.if_icmp .ge 21, 3) := by decide +kernel
theorem dX4_wordEnd_10 : decode cX4_wordEnd 10 = .ok (.aload_n 0, 1) := by decide +kernel
theorem dX4_wordEnd_11 : decode cX4_wordEnd 11 = .ok (.getfield 25, 3) := by decide +kernel
theorem dX4_wordEnd_14 : decode cX4_wordEnd 14 = .ok (.iload_n 2, 1) := by decide +kernel
theorem dX4_wordEnd_15 : decode cX4_wordEnd 15 = .ok (.iaload, 1) := by decide +kernel
theorem dX4_wordEnd_16 : decode cX4_wordEnd 16 = .ok (.invokestatic 87, 3) := by decide +kernel
theorem dX4_wordEnd_19 : decode cX4_wordEnd 19 = .ok (.ifCond .eq 9, 3) := by decide +kernel
theorem dX4_wordEnd_22 : decode cX4_wordEnd 22 = .ok (.iinc 2 1, 3) := by decide +kernel
theorem dX4_wordEnd_25 : decode cX4_wordEnd 25 = .ok (.goto (-23), 3) := by decide +kernel
theorem dX4_wordEnd_28 : decode cX4_wordEnd 28 = .ok (.iload_n 2, 1) := by decide +kernel
theorem dX4_wordEnd_29 : decode cX4_wordEnd 29 = .ok (.ireturn, 1) := by decide +kernel
def tX4_wordEnd_0 : Nat → Option am_Act := am_nd 14 (am_nd 4 (am_nd 2 (am_nd 1 (am_lf 0 (a_iload 1 1)) (am_lf 1 (a_istore 2 2))) (am_nd 3 (am_lf 2 (a_iload 2 3)) (am_lf 3 (a_aload 0 4)))) (am_nd 10 (am_nd 7 (am_lf 4 (a_get tT 4 0 7)) (am_lf 7 (a_cmp (fun x y => y ≤ x) 28 10))) (am_nd 11 (am_lf 10 (a_aload 0 11)) (am_lf 11 (a_get tT 4 4 14))))) (am_nd 22 (am_nd 16 (am_nd 15 (am_lf 14 (a_iload 2 15)) (am_lf 15 (a_iald tT 16))) (am_nd 19 (am_lf 16 (a_csI mX4_isLetter 1 19)) (am_lf 19 (a_if (fun x => x = nI 0) 28 22)))) (am_nd 28 (am_nd 25 (am_lf 22 (a_iinc 2 (nI 1) 25)) (am_lf 25 (a_goto 2))) (am_nd 29 (am_lf 28 (a_iload 2 29)) (am_lf 29 (a_iret)))))
theorem gX4_wordEnd_0 : am_Good tT mX4_wordEnd tX4_wordEnd_0 := am_nd_ok (am_nd_ok (am_nd_ok (am_nd_ok (am_lf_ok (fun _ => ok_iload_n dX4_wordEnd_0 rfl rfl)) (am_lf_ok (fun _ => ok_istore_n dX4_wordEnd_1 rfl (Nat.le_of_ble_eq_true rfl) rfl))) (am_nd_ok (am_lf_ok (fun _ => ok_iload_n dX4_wordEnd_2 rfl rfl)) (am_lf_ok (fun _ => ok_aload_n dX4_wordEnd_3 rfl rfl)))) (am_nd_ok (am_nd_ok (am_lf_ok (fun _ => ok_get (C := RX4) (TT := TX4) (N := 9) rfl inw_X4 (Nat.le_of_ble_eq_true rfl) wd_80 dX4_wordEnd_4 rfl)) (am_lf_ok (fun _ => ok_cmp_ge dX4_wordEnd_7 rfl rfl))) (am_nd_ok (am_lf_ok (fun _ => ok_aload_n dX4_wordEnd_10 rfl rfl)) (am_lf_ok (fun _ => ok_get (C := RX4) (TT := TX4) (N := 9) rfl inw_X4 (Nat.le_of_ble_eq_true rfl) wd_81 dX4_wordEnd_11 rfl))))) (am_nd_ok (am_nd_ok (am_nd_ok (am_lf_ok (fun _ => ok_iload_n dX4_wordEnd_14 rfl rfl)) (am_lf_ok (fun _ => ok_iald dX4_wordEnd_15 rfl))) (am_nd_ok (am_lf_ok (fun _ => ok_csI rfl mw_X4_isLetter wd_123 wd_124 dX4_wordEnd_16 rfl)) (am_lf_ok (fun _ => ok_if_eq dX4_wordEnd_19 rfl rfl)))) (am_nd_ok (am_nd_ok (am_lf_ok (fun _ => ok_iinc dX4_wordEnd_22 cv_iconst_1 (Nat.le_of_ble_eq_true rfl) rfl)) (am_lf_ok (fun _ => ok_goto dX4_wordEnd_25 rfl))) (am_nd_ok (am_lf_ok (fun _ => ok_iload_n dX4_wordEnd_28 rfl rfl)) (am_lf_ok (fun _ => ok_iret rfl dX4_wordEnd_29)))))
def tX4_wordEnd : Nat → Option am_Act := tX4_wordEnd_0
theorem gX4_wordEnd : am_Good tT mX4_wordEnd tX4_wordEnd := gX4_wordEnd_0
theorem dX4_numberEnd_0 : decode cX4_numberEnd 0 = .ok (.iload_n 1, 1) := by decide +kernel
theorem dX4_numberEnd_1 : decode cX4_numberEnd 1 = .ok (.istore_n 2, 1) := by decide +kernel
theorem dX4_numberEnd_2 : decode cX4_numberEnd 2 = .ok (.iload_n 2, 1) := by decide +kernel
theorem dX4_numberEnd_3 : decode cX4_numberEnd 3 = .ok (.aload_n 0, 1) := by decide +kernel
theorem dX4_numberEnd_4 : decode cX4_numberEnd 4 = .ok (.getfield 35, 3) := by decide +kernel
theorem dX4_numberEnd_7 : decode cX4_numberEnd 7 = .ok (.if_icmp .ge 21, 3) := by decide +kernel
theorem dX4_numberEnd_10 : decode cX4_numberEnd 10 = .ok (.aload_n 0, 1) := by decide +kernel
theorem dX4_numberEnd_11 : decode cX4_numberEnd 11 = .ok (.getfield 25, 3) := by decide +kernel
theorem dX4_numberEnd_14 : decode cX4_numberEnd 14 = .ok (.iload_n 2, 1) := by decide +kernel
theorem dX4_numberEnd_15 : decode cX4_numberEnd 15 = .ok (.iaload, 1) := by decide +kernel
theorem dX4_numberEnd_16 : decode cX4_numberEnd 16 = .ok (.invokestatic 98, 3) := by decide +kernel
theorem dX4_numberEnd_19 : decode cX4_numberEnd 19 = .ok (.ifCond .eq 9, 3) := by decide +kernel
theorem dX4_numberEnd_22 : decode cX4_numberEnd 22 = .ok (.iinc 2 1, 3) := by decide +kernel
theorem dX4_numberEnd_25 : decode cX4_numberEnd 25 = .ok (.goto (-23), 3) := by decide +kernel
theorem dX4_numberEnd_28 : decode cX4_numberEnd 28 = .ok (.iload_n 2, 1) := by decide +kernel
theorem dX4_numberEnd_29 : decode cX4_numberEnd 29 = .ok (.ireturn, 1) := by decide +kernel
def tX4_numberEnd_0 : Nat → Option am_Act := am_nd 14 (am_nd 4 (am_nd 2 (am_nd 1 (am_lf 0 (a_iload 1 1)) (am_lf 1 (a_istore 2 2))) (am_nd 3 (am_lf 2 (a_iload 2 3)) (am_lf 3 (a_aload 0 4)))) (am_nd 10 (am_nd 7 (am_lf 4 (a_get tT 4 0 7)) (am_lf 7 (a_cmp (fun x y => y ≤ x) 28 10))) (am_nd 11 (am_lf 10 (a_aload 0 11)) (am_lf 11 (a_get tT 4 4 14))))) (am_nd 22 (am_nd 16 (am_nd 15 (am_lf 14 (a_iload 2 15)) (am_lf 15 (a_iald tT 16))) (am_nd 19 (am_lf 16 (a_csI mX4_isDigit 1 19)) (am_lf 19 (a_if (fun x => x = nI 0) 28 22)))) (am_nd 28 (am_nd 25 (am_lf 22 (a_iinc 2 (nI 1) 25)) (am_lf 25 (a_goto 2))) (am_nd 29 (am_lf 28 (a_iload 2 29)) (am_lf 29 (a_iret)))))
theorem gX4_numberEnd_0 : am_Good tT mX4_numberEnd tX4_numberEnd_0 := am_nd_ok (am_nd_ok (am_nd_ok (am_nd_ok (am_lf_ok (fun _ => ok_iload_n dX4_numberEnd_0 rfl rfl)) (am_lf_ok (fun _ => ok_istore_n dX4_numberEnd_1 rfl (Nat.le_of_ble_eq_true rfl) rfl))) (am_nd_ok (am_lf_ok (fun _ => ok_iload_n dX4_numberEnd_2 rfl rfl)) (am_lf_ok (fun _ => ok_aload_n dX4_numberEnd_3 rfl rfl)))) (am_nd_ok (am_nd_ok (am_lf_ok (fun _ => ok_get (C := RX4) (TT := TX4) (N := 9) rfl inw_X4 (Nat.le_of_ble_eq_true rfl) wd_80 dX4_numberEnd_4 rfl)) (am_lf_ok (fun _ => ok_cmp_ge dX4_numberEnd_7 rfl rfl))) (am_nd_ok (am_lf_ok (fun _ => ok_aload_n dX4_numberEnd_10 rfl rfl)) (am_lf_ok (fun _ => ok_get (C := RX4) (TT := TX4) (N := 9) rfl inw_X4 (Nat.le_of_ble_eq_true rfl) wd_81 dX4_numberEnd_11 rfl))))) (am_nd_ok (am_nd_ok (am_nd_ok (am_lf_ok (fun _ => ok_iload_n dX4_numberEnd_14 rfl rfl)) (am_lf_ok (fun _ => ok_iald dX4_numberEnd_15 rfl))) (am_nd_ok (am_lf_ok (fun _ => ok_csI rfl mw_X4_isDigit wd_131 wd_132 dX4_numberEnd_16 rfl)) (am_lf_ok (fun _ => ok_if_eq dX4_numberEnd_19 rfl rfl)))) (am_nd_ok (am_nd_ok (am_lf_ok (fun _ => ok_iinc dX4_numberEnd_22 cv_iconst_1 (Nat.le_of_ble_eq_true rfl) rfl)) (am_lf_ok (fun _ => ok_goto dX4_numberEnd_25 rfl))) (am_nd_ok (am_lf_ok (fun _ => ok_iload_n dX4_numberEnd_28 rfl rfl)) (am_lf_ok (fun _ => ok_iret rfl dX4_numberEnd_29)))))
def tX4_numberEnd : Nat → Option am_Act := tX4_numberEnd_0
theorem gX4_numberEnd : am_Good tT mX4_numberEnd tX4_numberEnd := gX4_numberEnd_0
theorem dX4_wordOf_0 : decode cX4_wordOf 0 = .ok (.iconst 0, 1) := by decide +kernel
theorem dX4_wordOf_1 : decode cX4_wordOf 1 = .ok (.istore_n 3, 1) := by decide +kernel
theorem dX4_wordOf_2 : decode cX4_wordOf 2 = .ok (.iconst 0, 1) := by decide +kernel
theorem dX4_wordOf_3 : decode cX4_wordOf 3 = .ok (.istore 4, 2) := by decide +kernel
theorem dX4_wordOf_5 : decode cX4_wordOf 5 = .ok (.iconst 0, 1) := by decide +kernel
theorem dX4_wordOf_6 : decode cX4_wordOf 6 = .ok (.istore 5, 2) := by decide +kernel
theorem dX4_wordOf_8 : decode cX4_wordOf 8 = .ok (.iload 5, 2) := by decide +kernel
theorem dX4_wordOf_10 : decode cX4_wordOf 10 = .ok (.ldc 114, 2) := by decide +kernel
theorem dX4_wordOf_12 : decode cX4_wordOf 12 = .ok (.invokevirtual 116, 3) := by decide +kernel
theorem dX4_wordOf_15 : decode cX4_wordOf 15 = .ok (.if_icmp .ge 62, 3) := by decide +kernel
theorem dX4_wordOf_18 : decode cX4_wordOf 18 = .ok (.ldc 114, 2) := by decide +kernel
theorem dX4_wordOf_20 : decode cX4_wordOf 20 = .ok (.iload 5, 2) := by decide +kernel
theorem dX4_wordOf_22 : decode cX4_wordOf 22 = .ok (.invokevirtual 119, 3) := by decide +kernel
theorem dX4_wordOf_25 : decode cX4_wordOf 25 = .ok (.bipush 32, 2) := by decide +kernel
theorem dX4_wordOf_27 : decode cX4_wordOf 27 = .ok (.if_icmp .eq 6, 3) := by decide +kernel
theorem dX4_wordOf_30 : decode cX4_wordOf 30 = .ok (.goto 41, 3) := by decide +kernel
theorem dX4_wordOf_33 : decode cX4_wordOf 33 = .ok (.iload 5, 2) := by decide +kernel
theorem dX4_wordOf_35 : decode cX4_wordOf 35 = .ok (.iload 4, 2) := by decide +kernel
theorem dX4_wordOf_37 : decode cX4_wordOf 37 = .ok (.isub, 1) := by decide +kernel
theorem dX4_wordOf_38 : decode cX4_wordOf 38 = .ok (.iload_n 2, 1) := by decide +kernel
theorem dX4_wordOf_39 : decode cX4_wordOf 39 = .ok (.iload_n 1, 1) := by decide +kernel
theorem dX4_wordOf_40 : decode cX4_wordOf 40 = .ok (.isub, 1) := by decide +kernel
theorem dX4_wordOf_41 : decode cX4_wordOf 41 = .ok (.if_icmp .ne 21, 3) := by decide +kernel
theorem dX4_wordOf_44 : decode cX4_wordOf 44 = .ok (.aload_n 0, 1) := by decide +kernel
theorem dX4_wordOf_45 : decode cX4_wordOf 45 = .ok (.iload 4, 2) := by decide +kernel
theorem dX4_wordOf_47 : decode cX4_wordOf 47 = .ok (.iload 5, 2) := by decide +kernel
theorem dX4_wordOf_49 : decode cX4_wordOf 49 = .ok (.iload_n 1, 1) := by decide +kernel
theorem dX4_wordOf_50 : decode cX4_wordOf 50 = .ok (.invokevirtual 123, 3) := by decide +kernel
theorem dX4_wordOf_53 : decode cX4_wordOf 53 = .ok (.ifCond .eq 9, 3) := by decide +kernel
theorem dX4_wordOf_56 : decode cX4_wordOf 56 = .ok (.sipush 10000, 3) := by decide +kernel
theorem dX4_wordOf_59 : decode cX4_wordOf 59 = .ok (.iload_n 3, 1) := by decide +kernel
theorem dX4_wordOf_60 : decode cX4_wordOf 60 = .ok (.iadd, 1) := by decide +kernel
theorem dX4_wordOf_61 : decode cX4_wordOf 61 = .ok (.ireturn, 1) := by decide +kernel
theorem dX4_wordOf_62 : decode cX4_wordOf 62 = .ok (.iinc 3 1, 3) := by decide +kernel
theorem dX4_wordOf_65 : decode cX4_wordOf 65 = .ok (.iload 5, 2) := by decide +kernel
theorem dX4_wordOf_67 : decode cX4_wordOf 67 = .ok (.iconst 1, 1) := by decide +kernel
theorem dX4_wordOf_68 : decode cX4_wordOf 68 = .ok (.iadd, 1) := by decide +kernel
theorem dX4_wordOf_69 : decode cX4_wordOf 69 = .ok (.istore 4, 2) := by decide +kernel
theorem dX4_wordOf_71 : decode cX4_wordOf 71 = .ok (.iinc 5 1, 3) := by decide +kernel
theorem dX4_wordOf_74 : decode cX4_wordOf 74 = .ok (.goto (-66), 3) := by decide +kernel
theorem dX4_wordOf_77 : decode cX4_wordOf 77 = .ok (.bipush (-2), 2) := by decide +kernel
theorem dX4_wordOf_79 : decode cX4_wordOf 79 = .ok (.ireturn, 1) := by decide +kernel
def tX4_wordOf_0 : Nat → Option am_Act := am_nd 22 (am_nd 8 (am_nd 3 (am_nd 1 (am_lf 0 (a_const (nI 0) 1)) (am_nd 2 (am_lf 1 (a_istore 3 2)) (am_lf 2 (a_const (nI 0) 3)))) (am_nd 5 (am_lf 3 (a_istore 4 5)) (am_nd 6 (am_lf 5 (a_const (nI 0) 6)) (am_lf 6 (a_istore 5 8))))) (am_nd 15 (am_nd 10 (am_lf 8 (a_iload 5 10)) (am_nd 12 (am_lf 10 (a_ldS 0 12)) (am_lf 12 (a_cvS tT mJ0_length_8abf5 0 15)))) (am_nd 18 (am_lf 15 (a_cmp (fun x y => y ≤ x) 77 18)) (am_nd 20 (am_lf 18 (a_ldS 0 20)) (am_lf 20 (a_iload 5 22)))))) (am_nd 37 (am_nd 30 (am_nd 25 (am_lf 22 (a_cvS tT mJ0_charAt_5068e 1 25)) (am_nd 27 (am_lf 25 (a_const (nI 32) 27)) (am_lf 27 (a_cmp (fun x y => x = y) 33 30)))) (am_nd 33 (am_lf 30 (a_goto 71)) (am_nd 35 (am_lf 33 (a_iload 5 35)) (am_lf 35 (a_iload 4 37))))) (am_nd 40 (am_nd 38 (am_lf 37 (a_bin (fun x y => x - y) 38)) (am_nd 39 (am_lf 38 (a_iload 2 39)) (am_lf 39 (a_iload 1 40)))) (am_nd 41 (am_lf 40 (a_bin (fun x y => x - y) 41)) (am_nd 44 (am_lf 41 (a_cmp (fun x y => x = y) 44 62)) (am_lf 44 (a_aload 0 45))))))
theorem gX4_wordOf_0 : am_Good tT mX4_wordOf tX4_wordOf_0 := am_nd_ok (am_nd_ok (am_nd_ok (am_nd_ok (am_lf_ok (fun _ => ok_iconst dX4_wordOf_0 cv_iconst_0 rfl)) (am_nd_ok (am_lf_ok (fun _ => ok_istore_n dX4_wordOf_1 rfl (Nat.le_of_ble_eq_true rfl) rfl)) (am_lf_ok (fun _ => ok_iconst dX4_wordOf_2 cv_iconst_0 rfl)))) (am_nd_ok (am_lf_ok (fun _ => ok_istore dX4_wordOf_3 (Nat.le_of_ble_eq_true rfl) rfl)) (am_nd_ok (am_lf_ok (fun _ => ok_iconst dX4_wordOf_5 cv_iconst_0 rfl)) (am_lf_ok (fun _ => ok_istore dX4_wordOf_6 (Nat.le_of_ble_eq_true rfl) rfl))))) (am_nd_ok (am_nd_ok (am_lf_ok (fun _ => ok_iload dX4_wordOf_8 rfl)) (am_nd_ok (am_lf_ok (fun _ => ok_ldS (tx := "leave keep when or and not kind letters names order like bridge day kept ") (List.mem_of_getElem? (i := 0) rfl) dX4_wordOf_10 rfl)) (am_lf_ok (fun _ => ok_cvS rfl mw_J0_length_8abf5 rfl wd_142 wd_143 wd_144 dX4_wordOf_12 rfl)))) (am_nd_ok (am_lf_ok (fun _ => ok_cmp_ge dX4_wordOf_15 rfl rfl)) (am_nd_ok (am_lf_ok (fun _ => ok_ldS (tx := "leave keep when or and not kind letters names order like bridge day kept ") (List.mem_of_getElem? (i := 0) rfl) dX4_wordOf_18 rfl)) (am_lf_ok (fun _ => ok_iload dX4_wordOf_20 rfl)))))) (am_nd_ok (am_nd_ok (am_nd_ok (am_lf_ok (fun _ => ok_cvS rfl mw_J0_charAt_5068e rfl wd_145 wd_146 wd_147 dX4_wordOf_22 rfl)) (am_nd_ok (am_lf_ok (fun _ => ok_bipush dX4_wordOf_25 cv_bipush_32 rfl)) (am_lf_ok (fun _ => ok_cmp_eq dX4_wordOf_27 rfl rfl)))) (am_nd_ok (am_lf_ok (fun _ => ok_goto dX4_wordOf_30 rfl)) (am_nd_ok (am_lf_ok (fun _ => ok_iload dX4_wordOf_33 rfl)) (am_lf_ok (fun _ => ok_iload dX4_wordOf_35 rfl))))) (am_nd_ok (am_nd_ok (am_lf_ok (fun _ => ok_isub dX4_wordOf_37 rfl)) (am_nd_ok (am_lf_ok (fun _ => ok_iload_n dX4_wordOf_38 rfl rfl)) (am_lf_ok (fun _ => ok_iload_n dX4_wordOf_39 rfl rfl)))) (am_nd_ok (am_lf_ok (fun _ => ok_isub dX4_wordOf_40 rfl)) (am_nd_ok (am_lf_ok (fun _ => ok_cmp_ne dX4_wordOf_41 rfl rfl)) (am_lf_ok (fun _ => ok_aload_n dX4_wordOf_44 rfl rfl))))))
def tX4_wordOf_1 : Nat → Option am_Act := am_nd 62 (am_nd 53 (am_nd 49 (am_nd 47 (am_lf 45 (a_iload 4 47)) (am_lf 47 (a_iload 5 49))) (am_nd 50 (am_lf 49 (a_iload 1 50)) (am_lf 50 (a_cvI tT mX4_isWritten 4 3 53)))) (am_nd 59 (am_nd 56 (am_lf 53 (a_if (fun x => x = nI 0) 62 56)) (am_lf 56 (a_const (nI 10000) 59))) (am_nd 60 (am_lf 59 (a_iload 3 60)) (am_nd 61 (am_lf 60 (a_bin (fun x y => x + y) 61)) (am_lf 61 (a_iret)))))) (am_nd 69 (am_nd 67 (am_nd 65 (am_lf 62 (a_iinc 3 (nI 1) 65)) (am_lf 65 (a_iload 5 67))) (am_nd 68 (am_lf 67 (a_const (nI 1) 68)) (am_lf 68 (a_bin (fun x y => x + y) 69)))) (am_nd 74 (am_nd 71 (am_lf 69 (a_istore 4 71)) (am_lf 71 (a_iinc 5 (nI 1) 74))) (am_nd 77 (am_lf 74 (a_goto 8)) (am_nd 79 (am_lf 77 (a_const (-2) 79)) (am_lf 79 (a_iret))))))
theorem gX4_wordOf_1 : am_Good tT mX4_wordOf tX4_wordOf_1 := am_nd_ok (am_nd_ok (am_nd_ok (am_nd_ok (am_lf_ok (fun _ => ok_iload dX4_wordOf_45 rfl)) (am_lf_ok (fun _ => ok_iload dX4_wordOf_47 rfl))) (am_nd_ok (am_lf_ok (fun _ => ok_iload_n dX4_wordOf_49 rfl rfl)) (am_lf_ok (fun _ => ok_cvI rfl mw_X4_isWritten (ci := 4) rfl rfl wd_148 wd_149 wd_150 dX4_wordOf_50 rfl)))) (am_nd_ok (am_nd_ok (am_lf_ok (fun _ => ok_if_eq dX4_wordOf_53 rfl rfl)) (am_lf_ok (fun _ => ok_sipush dX4_wordOf_56 cv_sipush_10000 rfl))) (am_nd_ok (am_lf_ok (fun _ => ok_iload_n dX4_wordOf_59 rfl rfl)) (am_nd_ok (am_lf_ok (fun _ => ok_iadd dX4_wordOf_60 rfl)) (am_lf_ok (fun _ => ok_iret rfl dX4_wordOf_61)))))) (am_nd_ok (am_nd_ok (am_nd_ok (am_lf_ok (fun _ => ok_iinc dX4_wordOf_62 cv_iconst_1 (Nat.le_of_ble_eq_true rfl) rfl)) (am_lf_ok (fun _ => ok_iload dX4_wordOf_65 rfl))) (am_nd_ok (am_lf_ok (fun _ => ok_iconst dX4_wordOf_67 cv_iconst_1 rfl)) (am_lf_ok (fun _ => ok_iadd dX4_wordOf_68 rfl)))) (am_nd_ok (am_nd_ok (am_lf_ok (fun _ => ok_istore dX4_wordOf_69 (Nat.le_of_ble_eq_true rfl) rfl)) (am_lf_ok (fun _ => ok_iinc dX4_wordOf_71 cv_iconst_1 (Nat.le_of_ble_eq_true rfl) rfl))) (am_nd_ok (am_lf_ok (fun _ => ok_goto dX4_wordOf_74 rfl)) (am_nd_ok (am_lf_ok (fun _ => ok_bipush dX4_wordOf_77 cv_bipush_m2 rfl)) (am_lf_ok (fun _ => ok_iret rfl dX4_wordOf_79))))))
def tX4_wordOf : Nat → Option am_Act := am_nd 45 (tX4_wordOf_0) (tX4_wordOf_1)
theorem gX4_wordOf : am_Good tT mX4_wordOf tX4_wordOf := am_nd_ok (gX4_wordOf_0) (gX4_wordOf_1)
theorem dX4_isWritten_0 : decode cX4_isWritten 0 = .ok (.iload_n 1, 1) := by decide +kernel
theorem dX4_isWritten_1 : decode cX4_isWritten 1 = .ok (.istore 4, 2) := by decide +kernel
theorem dX4_isWritten_3 : decode cX4_isWritten 3 = .ok (.iload 4, 2) := by decide +kernel
theorem dX4_isWritten_5 : decode cX4_isWritten 5 = .ok (.iload_n 2, 1) := by decide +kernel
theorem dX4_isWritten_6 : decode cX4_isWritten 6 = .ok (.if_icmp .ge 32, 3) := by decide +kernel
theorem dX4_isWritten_9 : decode cX4_isWritten 9 = .ok (.ldc 114, 2) := by decide +kernel
theorem dX4_isWritten_11 : decode cX4_isWritten 11 = .ok (.iload 4, 2) := by decide +kernel
theorem dX4_isWritten_13 : decode cX4_isWritten 13 = .ok (.invokevirtual 119, 3) := by decide +kernel
theorem dX4_isWritten_16 : decode cX4_isWritten 16 = .ok (.aload_n 0, 1) := by decide +kernel
theorem dX4_isWritten_17 : decode cX4_isWritten 17 = .ok (.getfield 25, 3) := by decide +kernel
theorem dX4_isWritten_20 : decode cX4_isWritten 20 = .ok (.iload_n 3, 1) := by decide +kernel
theorem dX4_isWritten_21 : decode cX4_isWritten 21 = .ok (.iload 4, 2) := by decide +kernel
theorem dX4_isWritten_23 : decode cX4_isWritten 23 = .ok (.iadd, 1) := by decide +kernel
theorem dX4_isWritten_24 : decode cX4_isWritten 24 = .ok (.iload_n 1, 1) := by decide +kernel
theorem dX4_isWritten_25 : decode cX4_isWritten 25 = .ok (.isub, 1) := by decide +kernel
theorem dX4_isWritten_26 : decode cX4_isWritten 26 = .ok (.iaload, 1) := by decide +kernel
theorem dX4_isWritten_27 : decode cX4_isWritten 27 = .ok (.if_icmp .eq 5, 3) := by decide +kernel
theorem dX4_isWritten_30 : decode cX4_isWritten 30 = .ok (.iconst 0, 1) := by decide +kernel
theorem dX4_isWritten_31 : decode cX4_isWritten 31 = .ok (.ireturn, 1) := by decide +kernel
theorem dX4_isWritten_32 : decode cX4_isWritten 32 = .ok (.iinc 4 1, 3) := by decide +kernel
theorem dX4_isWritten_35 : decode cX4_isWritten 35 = .ok (.goto (-32), 3) := by decide +kernel
theorem dX4_isWritten_38 : decode cX4_isWritten 38 = .ok (.iconst 1, 1) := by decide +kernel
theorem dX4_isWritten_39 : decode cX4_isWritten 39 = .ok (.ireturn, 1) := by decide +kernel
def tX4_isWritten_0 : Nat → Option am_Act := am_nd 21 (am_nd 9 (am_nd 3 (am_nd 1 (am_lf 0 (a_iload 1 1)) (am_lf 1 (a_istore 4 3))) (am_nd 5 (am_lf 3 (a_iload 4 5)) (am_nd 6 (am_lf 5 (a_iload 2 6)) (am_lf 6 (a_cmp (fun x y => y ≤ x) 38 9))))) (am_nd 16 (am_nd 11 (am_lf 9 (a_ldS 0 11)) (am_nd 13 (am_lf 11 (a_iload 4 13)) (am_lf 13 (a_cvS tT mJ0_charAt_5068e 1 16)))) (am_nd 17 (am_lf 16 (a_aload 0 17)) (am_nd 20 (am_lf 17 (a_get tT 4 4 20)) (am_lf 20 (a_iload 3 21)))))) (am_nd 30 (am_nd 25 (am_nd 23 (am_lf 21 (a_iload 4 23)) (am_nd 24 (am_lf 23 (a_bin (fun x y => x + y) 24)) (am_lf 24 (a_iload 1 25)))) (am_nd 26 (am_lf 25 (a_bin (fun x y => x - y) 26)) (am_nd 27 (am_lf 26 (a_iald tT 27)) (am_lf 27 (a_cmp (fun x y => x = y) 32 30))))) (am_nd 35 (am_nd 31 (am_lf 30 (a_const (nI 0) 31)) (am_nd 32 (am_lf 31 (a_zret)) (am_lf 32 (a_iinc 4 (nI 1) 35)))) (am_nd 38 (am_lf 35 (a_goto 3)) (am_nd 39 (am_lf 38 (a_const (nI 1) 39)) (am_lf 39 (a_zret))))))
theorem gX4_isWritten_0 : am_Good tT mX4_isWritten tX4_isWritten_0 := am_nd_ok (am_nd_ok (am_nd_ok (am_nd_ok (am_lf_ok (fun _ => ok_iload_n dX4_isWritten_0 rfl rfl)) (am_lf_ok (fun _ => ok_istore dX4_isWritten_1 (Nat.le_of_ble_eq_true rfl) rfl))) (am_nd_ok (am_lf_ok (fun _ => ok_iload dX4_isWritten_3 rfl)) (am_nd_ok (am_lf_ok (fun _ => ok_iload_n dX4_isWritten_5 rfl rfl)) (am_lf_ok (fun _ => ok_cmp_ge dX4_isWritten_6 rfl rfl))))) (am_nd_ok (am_nd_ok (am_lf_ok (fun _ => ok_ldS (tx := "leave keep when or and not kind letters names order like bridge day kept ") (List.mem_of_getElem? (i := 0) rfl) dX4_isWritten_9 rfl)) (am_nd_ok (am_lf_ok (fun _ => ok_iload dX4_isWritten_11 rfl)) (am_lf_ok (fun _ => ok_cvS rfl mw_J0_charAt_5068e rfl wd_145 wd_146 wd_147 dX4_isWritten_13 rfl)))) (am_nd_ok (am_lf_ok (fun _ => ok_aload_n dX4_isWritten_16 rfl rfl)) (am_nd_ok (am_lf_ok (fun _ => ok_get (C := RX4) (TT := TX4) (N := 9) rfl inw_X4 (Nat.le_of_ble_eq_true rfl) wd_81 dX4_isWritten_17 rfl)) (am_lf_ok (fun _ => ok_iload_n dX4_isWritten_20 rfl rfl)))))) (am_nd_ok (am_nd_ok (am_nd_ok (am_lf_ok (fun _ => ok_iload dX4_isWritten_21 rfl)) (am_nd_ok (am_lf_ok (fun _ => ok_iadd dX4_isWritten_23 rfl)) (am_lf_ok (fun _ => ok_iload_n dX4_isWritten_24 rfl rfl)))) (am_nd_ok (am_lf_ok (fun _ => ok_isub dX4_isWritten_25 rfl)) (am_nd_ok (am_lf_ok (fun _ => ok_iald dX4_isWritten_26 rfl)) (am_lf_ok (fun _ => ok_cmp_eq dX4_isWritten_27 rfl rfl))))) (am_nd_ok (am_nd_ok (am_lf_ok (fun _ => ok_iconst dX4_isWritten_30 cv_iconst_0 rfl)) (am_nd_ok (am_lf_ok (fun _ => ok_zret rfl dX4_isWritten_31)) (am_lf_ok (fun _ => ok_iinc dX4_isWritten_32 cv_iconst_1 (Nat.le_of_ble_eq_true rfl) rfl)))) (am_nd_ok (am_lf_ok (fun _ => ok_goto dX4_isWritten_35 rfl)) (am_nd_ok (am_lf_ok (fun _ => ok_iconst dX4_isWritten_38 cv_iconst_1 rfl)) (am_lf_ok (fun _ => ok_zret rfl dX4_isWritten_39))))))
def tX4_isWritten : Nat → Option am_Act := tX4_isWritten_0
theorem gX4_isWritten : am_Good tT mX4_isWritten tX4_isWritten := gX4_isWritten_0
theorem dX4_numberOf_0 : decode cX4_numberOf 0 = .ok (.iload_n 2, 1) := by decide +kernel
theorem dX4_numberOf_1 : decode cX4_numberOf 1 = .ok (.iload_n 1, 1) := by decide +kernel
theorem dX4_numberOf_2 : decode cX4_numberOf 2 = .ok (.isub, 1) := by decide +kernel
theorem dX4_numberOf_3 : decode cX4_numberOf 3 = .ok (.iconst 4, 1) := by decide +kernel
theorem dX4_numberOf_4 : decode cX4_numberOf 4 = .ok (.if_icmp .le 6, 3) := by decide +kernel
theorem dX4_numberOf_7 : decode cX4_numberOf 7 = .ok (.bipush (-2), 2) := by decide +kernel
theorem dX4_numberOf_9 : decode cX4_numberOf 9 = .ok (.ireturn, 1) := by decide +kernel
theorem dX4_numberOf_10 : decode cX4_numberOf 10 = .ok (.iconst 0, 1) := by decide +kernel
theorem dX4_numberOf_11 : decode cX4_numberOf 11 = .ok (.istore_n 3, 1) := by decide +kernel
theorem dX4_numberOf_12 : decode cX4_numberOf 12 = .ok (.iload_n 1, 1) := by decide +kernel
theorem dX4_numberOf_13 : decode cX4_numberOf 13 = .ok (.istore 4, 2) := by decide +kernel
theorem dX4_numberOf_15 : decode cX4_numberOf 15 = .ok (.iload 4, 2) := by decide +kernel
theorem dX4_numberOf_17 : decode cX4_numberOf 17 = .ok (.iload_n 2, 1) := by decide +kernel
theorem dX4_numberOf_18 : decode cX4_numberOf 18 = .ok (.if_icmp .ge 25, 3) := by decide +kernel
theorem dX4_numberOf_21 : decode cX4_numberOf 21 = .ok (.iload_n 3, 1) := by decide +kernel
theorem dX4_numberOf_22 : decode cX4_numberOf 22 = .ok (.bipush 10, 2) := by decide +kernel
theorem dX4_numberOf_24 : decode cX4_numberOf 24 = .ok (.imul, 1) := by decide +kernel
theorem dX4_numberOf_25 : decode cX4_numberOf 25 = .ok (.aload_n 0, 1) := by decide +kernel
theorem dX4_numberOf_26 : decode cX4_numberOf 26 = .ok (.getfield 25, 3) := by decide +kernel
theorem dX4_numberOf_29 : decode cX4_numberOf 29 = .ok (.iload 4, 2) := by decide +kernel
theorem dX4_numberOf_31 : decode cX4_numberOf 31 = .ok (.iaload, 1) := by decide +kernel
theorem dX4_numberOf_32 : decode cX4_numberOf 32 = .ok (.iadd, 1) := by decide +kernel
theorem dX4_numberOf_33 : decode cX4_numberOf 33 = .ok (.bipush 48, 2) := by decide +kernel
theorem dX4_numberOf_35 : decode cX4_numberOf 35 = .ok (.isub, 1) := by decide +kernel
theorem dX4_numberOf_36 : decode cX4_numberOf 36 = .ok (.istore_n 3, 1) := by decide +kernel
theorem dX4_numberOf_37 : decode cX4_numberOf 37 = .ok (.iinc 4 1, 3) := by decide +kernel
theorem dX4_numberOf_40 : decode cX4_numberOf 40 = .ok (.goto (-25), 3) := by decide +kernel
theorem dX4_numberOf_43 : decode cX4_numberOf 43 = .ok (.iload_n 3, 1) := by decide +kernel
theorem dX4_numberOf_44 : decode cX4_numberOf 44 = .ok (.ireturn, 1) := by decide +kernel
def tX4_numberOf_0 : Nat → Option am_Act := am_nd 17 (am_nd 9 (am_nd 3 (am_nd 1 (am_lf 0 (a_iload 2 1)) (am_nd 2 (am_lf 1 (a_iload 1 2)) (am_lf 2 (a_bin (fun x y => x - y) 3)))) (am_nd 4 (am_lf 3 (a_const (nI 4) 4)) (am_nd 7 (am_lf 4 (a_cmp (fun x y => x ≤ y) 10 7)) (am_lf 7 (a_const (-2) 9))))) (am_nd 12 (am_nd 10 (am_lf 9 (a_iret)) (am_nd 11 (am_lf 10 (a_const (nI 0) 11)) (am_lf 11 (a_istore 3 12)))) (am_nd 13 (am_lf 12 (a_iload 1 13)) (am_nd 15 (am_lf 13 (a_istore 4 15)) (am_lf 15 (a_iload 4 17)))))) (am_nd 26 (am_nd 22 (am_nd 18 (am_lf 17 (a_iload 2 18)) (am_nd 21 (am_lf 18 (a_cmp (fun x y => y ≤ x) 43 21)) (am_lf 21 (a_iload 3 22)))) (am_nd 24 (am_lf 22 (a_const (nI 10) 24)) (am_nd 25 (am_lf 24 (a_bin (fun x y => x * y) 25)) (am_lf 25 (a_aload 0 26))))) (am_nd 32 (am_nd 29 (am_lf 26 (a_get tT 4 4 29)) (am_nd 31 (am_lf 29 (a_iload 4 31)) (am_lf 31 (a_iald tT 32)))) (am_nd 33 (am_lf 32 (a_bin (fun x y => x + y) 33)) (am_nd 35 (am_lf 33 (a_const (nI 48) 35)) (am_lf 35 (a_bin (fun x y => x - y) 36))))))
theorem gX4_numberOf_0 : am_Good tT mX4_numberOf tX4_numberOf_0 := am_nd_ok (am_nd_ok (am_nd_ok (am_nd_ok (am_lf_ok (fun _ => ok_iload_n dX4_numberOf_0 rfl rfl)) (am_nd_ok (am_lf_ok (fun _ => ok_iload_n dX4_numberOf_1 rfl rfl)) (am_lf_ok (fun _ => ok_isub dX4_numberOf_2 rfl)))) (am_nd_ok (am_lf_ok (fun _ => ok_iconst dX4_numberOf_3 cv_iconst_4 rfl)) (am_nd_ok (am_lf_ok (fun _ => ok_cmp_le dX4_numberOf_4 rfl rfl)) (am_lf_ok (fun _ => ok_bipush dX4_numberOf_7 cv_bipush_m2 rfl))))) (am_nd_ok (am_nd_ok (am_lf_ok (fun _ => ok_iret rfl dX4_numberOf_9)) (am_nd_ok (am_lf_ok (fun _ => ok_iconst dX4_numberOf_10 cv_iconst_0 rfl)) (am_lf_ok (fun _ => ok_istore_n dX4_numberOf_11 rfl (Nat.le_of_ble_eq_true rfl) rfl)))) (am_nd_ok (am_lf_ok (fun _ => ok_iload_n dX4_numberOf_12 rfl rfl)) (am_nd_ok (am_lf_ok (fun _ => ok_istore dX4_numberOf_13 (Nat.le_of_ble_eq_true rfl) rfl)) (am_lf_ok (fun _ => ok_iload dX4_numberOf_15 rfl)))))) (am_nd_ok (am_nd_ok (am_nd_ok (am_lf_ok (fun _ => ok_iload_n dX4_numberOf_17 rfl rfl)) (am_nd_ok (am_lf_ok (fun _ => ok_cmp_ge dX4_numberOf_18 rfl rfl)) (am_lf_ok (fun _ => ok_iload_n dX4_numberOf_21 rfl rfl)))) (am_nd_ok (am_lf_ok (fun _ => ok_bipush dX4_numberOf_22 cv_bipush_10 rfl)) (am_nd_ok (am_lf_ok (fun _ => ok_imul dX4_numberOf_24 rfl)) (am_lf_ok (fun _ => ok_aload_n dX4_numberOf_25 rfl rfl))))) (am_nd_ok (am_nd_ok (am_lf_ok (fun _ => ok_get (C := RX4) (TT := TX4) (N := 9) rfl inw_X4 (Nat.le_of_ble_eq_true rfl) wd_81 dX4_numberOf_26 rfl)) (am_nd_ok (am_lf_ok (fun _ => ok_iload dX4_numberOf_29 rfl)) (am_lf_ok (fun _ => ok_iald dX4_numberOf_31 rfl)))) (am_nd_ok (am_lf_ok (fun _ => ok_iadd dX4_numberOf_32 rfl)) (am_nd_ok (am_lf_ok (fun _ => ok_bipush dX4_numberOf_33 cv_bipush_48 rfl)) (am_lf_ok (fun _ => ok_isub dX4_numberOf_35 rfl))))))
def tX4_numberOf_1 : Nat → Option am_Act := am_nd 40 (am_nd 37 (am_lf 36 (a_istore 3 37)) (am_lf 37 (a_iinc 4 (nI 1) 40))) (am_nd 43 (am_lf 40 (a_goto 15)) (am_nd 44 (am_lf 43 (a_iload 3 44)) (am_lf 44 (a_iret))))
theorem gX4_numberOf_1 : am_Good tT mX4_numberOf tX4_numberOf_1 := am_nd_ok (am_nd_ok (am_lf_ok (fun _ => ok_istore_n dX4_numberOf_36 rfl (Nat.le_of_ble_eq_true rfl) rfl)) (am_lf_ok (fun _ => ok_iinc dX4_numberOf_37 cv_iconst_1 (Nat.le_of_ble_eq_true rfl) rfl))) (am_nd_ok (am_lf_ok (fun _ => ok_goto dX4_numberOf_40 rfl)) (am_nd_ok (am_lf_ok (fun _ => ok_iload_n dX4_numberOf_43 rfl rfl)) (am_lf_ok (fun _ => ok_iret rfl dX4_numberOf_44))))
def tX4_numberOf : Nat → Option am_Act := am_nd 36 (tX4_numberOf_0) (tX4_numberOf_1)
theorem gX4_numberOf : am_Good tT mX4_numberOf tX4_numberOf := am_nd_ok (gX4_numberOf_0) (gX4_numberOf_1)
theorem dX4_isLetter_0 : decode cX4_isLetter 0 = .ok (.iload_n 0, 1) := by decide +kernel
theorem dX4_isLetter_1 : decode cX4_isLetter 1 = .ok (.bipush 97, 2) := by decide +kernel
theorem dX4_isLetter_3 : decode cX4_isLetter 3 = .ok (.bipush 122, 2) := by decide +kernel
theorem dX4_isLetter_5 : decode cX4_isLetter 5 = .ok (.invokestatic 80, 3) := by decide +kernel
theorem dX4_isLetter_8 : decode cX4_isLetter 8 = .ok (.ifCond .ne 14, 3) := by decide +kernel
theorem dX4_isLetter_11 : decode cX4_isLetter 11 = .ok (.iload_n 0, 1) := by decide +kernel
theorem dX4_isLetter_12 : decode cX4_isLetter 12 = .ok (.bipush 65, 2) := by decide +kernel
theorem dX4_isLetter_14 : decode cX4_isLetter 14 = .ok (.bipush 90, 2) := by decide +kernel
theorem dX4_isLetter_16 : decode cX4_isLetter 16 = .ok (.invokestatic 80, 3) := by decide +kernel
theorem dX4_isLetter_19 : decode cX4_isLetter 19 = .ok (.ifCond .eq 7, 3) := by decide +kernel
theorem dX4_isLetter_22 : decode cX4_isLetter 22 = .ok (.iconst 1, 1) := by decide +kernel
theorem dX4_isLetter_23 : decode cX4_isLetter 23 = .ok (.goto 4, 3) := by decide +kernel
theorem dX4_isLetter_26 : decode cX4_isLetter 26 = .ok (.iconst 0, 1) := by decide +kernel
theorem dX4_isLetter_27 : decode cX4_isLetter 27 = .ok (.ireturn, 1) := by decide +kernel
def tX4_isLetter_0 : Nat → Option am_Act := am_nd 14 (am_nd 5 (am_nd 1 (am_lf 0 (a_iload 0 1)) (am_nd 3 (am_lf 1 (a_const (nI 97) 3)) (am_lf 3 (a_const (nI 122) 5)))) (am_nd 11 (am_nd 8 (am_lf 5 (a_csI mX11_within 3 8)) (am_lf 8 (a_if (fun x => x = nI 0) 11 22))) (am_nd 12 (am_lf 11 (a_iload 0 12)) (am_lf 12 (a_const (nI 65) 14))))) (am_nd 22 (am_nd 16 (am_lf 14 (a_const (nI 90) 16)) (am_nd 19 (am_lf 16 (a_csI mX11_within 3 19)) (am_lf 19 (a_if (fun x => x = nI 0) 26 22)))) (am_nd 26 (am_nd 23 (am_lf 22 (a_const (nI 1) 23)) (am_lf 23 (a_goto 27))) (am_nd 27 (am_lf 26 (a_const (nI 0) 27)) (am_lf 27 (a_zret)))))
theorem gX4_isLetter_0 : am_Good tT mX4_isLetter tX4_isLetter_0 := am_nd_ok (am_nd_ok (am_nd_ok (am_lf_ok (fun _ => ok_iload_n dX4_isLetter_0 rfl rfl)) (am_nd_ok (am_lf_ok (fun _ => ok_bipush dX4_isLetter_1 cv_bipush_97 rfl)) (am_lf_ok (fun _ => ok_bipush dX4_isLetter_3 cv_bipush_122 rfl)))) (am_nd_ok (am_nd_ok (am_lf_ok (fun _ => ok_csIN rfl mw_X11_within wd_119 wd_120 dX4_isLetter_5 rfl)) (am_lf_ok (fun _ => ok_if_ne dX4_isLetter_8 rfl rfl))) (am_nd_ok (am_lf_ok (fun _ => ok_iload_n dX4_isLetter_11 rfl rfl)) (am_lf_ok (fun _ => ok_bipush dX4_isLetter_12 cv_bipush_65 rfl))))) (am_nd_ok (am_nd_ok (am_lf_ok (fun _ => ok_bipush dX4_isLetter_14 cv_bipush_90 rfl)) (am_nd_ok (am_lf_ok (fun _ => ok_csIN rfl mw_X11_within wd_119 wd_120 dX4_isLetter_16 rfl)) (am_lf_ok (fun _ => ok_if_eq dX4_isLetter_19 rfl rfl)))) (am_nd_ok (am_nd_ok (am_lf_ok (fun _ => ok_iconst dX4_isLetter_22 cv_iconst_1 rfl)) (am_lf_ok (fun _ => ok_goto dX4_isLetter_23 rfl))) (am_nd_ok (am_lf_ok (fun _ => ok_iconst dX4_isLetter_26 cv_iconst_0 rfl)) (am_lf_ok (fun _ => ok_zret rfl dX4_isLetter_27)))))
def tX4_isLetter : Nat → Option am_Act := tX4_isLetter_0
theorem gX4_isLetter : am_Good tT mX4_isLetter tX4_isLetter := gX4_isLetter_0
theorem dX4_isDigit_0 : decode cX4_isDigit 0 = .ok (.iload_n 0, 1) := by decide +kernel
theorem dX4_isDigit_1 : decode cX4_isDigit 1 = .ok (.bipush 48, 2) := by decide +kernel
theorem dX4_isDigit_3 : decode cX4_isDigit 3 = .ok (.bipush 57, 2) := by decide +kernel
theorem dX4_isDigit_5 : decode cX4_isDigit 5 = .ok (.invokestatic 80, 3) := by decide +kernel
theorem dX4_isDigit_8 : decode cX4_isDigit 8 = .ok (.ireturn, 1) := by decide +kernel
def tX4_isDigit_0 : Nat → Option am_Act := am_nd 3 (am_nd 1 (am_lf 0 (a_iload 0 1)) (am_lf 1 (a_const (nI 48) 3))) (am_nd 5 (am_lf 3 (a_const (nI 57) 5)) (am_nd 8 (am_lf 5 (a_csI mX11_within 3 8)) (am_lf 8 (a_zret))))
theorem gX4_isDigit_0 : am_Good tT mX4_isDigit tX4_isDigit_0 := am_nd_ok (am_nd_ok (am_lf_ok (fun _ => ok_iload_n dX4_isDigit_0 rfl rfl)) (am_lf_ok (fun _ => ok_bipush dX4_isDigit_1 cv_bipush_48 rfl))) (am_nd_ok (am_lf_ok (fun _ => ok_bipush dX4_isDigit_3 cv_bipush_57 rfl)) (am_nd_ok (am_lf_ok (fun _ => ok_csIN rfl mw_X11_within wd_119 wd_120 dX4_isDigit_5 rfl)) (am_lf_ok (fun _ => ok_zret rfl dX4_isDigit_8))))
def tX4_isDigit : Nat → Option am_Act := tX4_isDigit_0
theorem gX4_isDigit : am_Good tT mX4_isDigit tX4_isDigit := gX4_isDigit_0
