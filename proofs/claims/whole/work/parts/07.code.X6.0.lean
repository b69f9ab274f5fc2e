/-! ===== code of TollOfNames$RoundPlan ===== -/
theorem dX6_find_0 : decode cX6_find 0 = .ok (.iconst 3, 1) := by decide +kernel
theorem dX6_find_1 : decode cX6_find 1 = .ok (.bipush 9, 2) := by decide +kernel
theorem dX6_find_3 : decode cX6_find 3 = .ok (.aload_n 0, 1) := by decide +kernel
theorem dX6_find_4 : decode cX6_find 4 = .ok (.getfield 15, 3) := by decide +kernel
theorem dX6_find_7 : decode cX6_find 7 = .ok (.getfield 23, 3) := by decide +kernel
theorem dX6_find_10 : decode cX6_find 10 = .ok (.getfield 29, 3) := by decide +kernel
theorem dX6_find_13 : decode cX6_find 13 = .ok (.iload_n 1, 1) := by decide +kernel
theorem dX6_find_14 : decode cX6_find 14 = .ok (.iaload, 1) := by decide +kernel
theorem dX6_find_15 : decode cX6_find 15 = .ok (.isub, 1) := by decide +kernel
theorem dX6_find_16 : decode cX6_find 16 = .ok (.invokestatic 34, 3) := by decide +kernel
theorem dX6_find_19 : decode cX6_find 19 = .ok (.istore_n 2, 1) := by decide +kernel
theorem dX6_find_20 : decode cX6_find 20 = .ok (.iconst 0, 1) := by decide +kernel
theorem dX6_find_21 : decode cX6_find 21 = .ok (.istore_n 3, 1) := by decide +kernel
theorem dX6_find_22 : decode cX6_find 22 = .ok (.iload_n 3, 1) := by decide +kernel
theorem dX6_find_23 : decode cX6_find 23 = .ok (.iload_n 2, 1) := by decide +kernel
theorem dX6_find_24 : decode cX6_find 24 = .ok (.if_icmp .gt 22, 3) := by decide +kernel
theorem dX6_find_27 : decode cX6_find 27 = .ok (.aload_n 0, 1) := by decide +kernel
theorem dX6_find_28 : decode cX6_find 28 = .ok (.iload_n 1, 1) := by decide +kernel
theorem dX6_find_29 : decode cX6_find 29 = .ok (.iload_n 3, 1) := by decide +kernel
theorem dX6_find_30 : decode cX6_find 30 = .ok (.iconst 0, 1) := by decide +kernel
theorem dX6_find_31 : decode cX6_find 31 = .ok (.iconst 0, 1) := by decide +kernel
theorem dX6_find_32 : decode cX6_find 32 = .ok (.invokevirtual 40, 3) := by decide +kernel
theorem dX6_find_35 : decode cX6_find 35 = .ok (.ifCond .eq 5, 3) := by decide +kernel
theorem dX6_find_38 : decode cX6_find 38 = .ok (.iload_n 3, 1) := by decide +kernel
theorem dX6_find_39 : decode cX6_find 39 = .ok (.ireturn, 1) := by decide +kernel
theorem dX6_find_40 : decode cX6_find 40 = .ok (.iinc 3 1, 3) := by decide +kernel
theorem dX6_find_43 : decode cX6_find 43 = .ok (.goto (-21), 3) := by decide +kernel
theorem dX6_find_46 : decode cX6_find 46 = .ok (.iconst (-1), 1) := by decide +kernel
theorem dX6_find_47 : decode cX6_find 47 = .ok (.ireturn, 1) := by decide +kernel
def tX6_find_0 : Nat → Option am_Act := am_nd 21 (am_nd 13 (am_nd 4 (am_nd 1 (am_lf 0 (a_const (nI 3) 1)) (am_nd 3 (am_lf 1 (a_const (nI 9) 3)) (am_lf 3 (a_aload 0 4)))) (am_nd 7 (am_lf 4 (a_get tT 6 0 7)) (am_nd 10 (am_lf 7 (a_get tT 10 11 10)) (am_lf 10 (a_get tT 5 6 13))))) (am_nd 16 (am_nd 14 (am_lf 13 (a_iload 1 14)) (am_nd 15 (am_lf 14 (a_iald tT 15)) (am_lf 15 (a_bin (fun x y => x - y) 16)))) (am_nd 19 (am_lf 16 (a_csI mJ9_min_7cf53 2 19)) (am_nd 20 (am_lf 19 (a_istore 2 20)) (am_lf 20 (a_const (nI 0) 21)))))) (am_nd 29 (am_nd 24 (am_nd 22 (am_lf 21 (a_istore 3 22)) (am_nd 23 (am_lf 22 (a_iload 3 23)) (am_lf 23 (a_iload 2 24)))) (am_nd 27 (am_lf 24 (a_cmp (fun x y => y < x) 46 27)) (am_nd 28 (am_lf 27 (a_aload 0 28)) (am_lf 28 (a_iload 1 29))))) (am_nd 32 (am_nd 30 (am_lf 29 (a_iload 3 30)) (am_nd 31 (am_lf 30 (a_const (nI 0) 31)) (am_lf 31 (a_const (nI 0) 32)))) (am_nd 35 (am_lf 32 (a_cvI tT mX6_choose 6 4 35)) (am_nd 38 (am_lf 35 (a_if (fun x => x = nI 0) 40 38)) (am_lf 38 (a_iload 3 39))))))
theorem gX6_find_0 : am_Good tT mX6_find tX6_find_0 := am_nd_ok (am_nd_ok (am_nd_ok (am_nd_ok (am_lf_ok (fun _ => ok_iconst dX6_find_0 cv_iconst_3 rfl)) (am_nd_ok (am_lf_ok (fun _ => ok_bipush dX6_find_1 cv_bipush_9 rfl)) (am_lf_ok (fun _ => ok_aload_n dX6_find_3 rfl rfl)))) (am_nd_ok (am_lf_ok (fun _ => ok_get (C := RX6) (TT := TX6) (N := 3) rfl inw_X6 (Nat.le_of_ble_eq_true rfl) wd_166 dX6_find_4 rfl)) (am_nd_ok (am_lf_ok (fun _ => ok_get (C := RX10) (TT := TX10) (N := 14) rfl inw_X10 (Nat.le_of_ble_eq_true rfl) wd_167 dX6_find_7 rfl)) (am_lf_ok (fun _ => ok_get (C := RX5) (TT := TX5) (N := 8) rfl inw_X5 (Nat.le_of_ble_eq_true rfl) wd_168 dX6_find_10 rfl))))) (am_nd_ok (am_nd_ok (am_lf_ok (fun _ => ok_iload_n dX6_find_13 rfl rfl)) (am_nd_ok (am_lf_ok (fun _ => ok_iald dX6_find_14 rfl)) (am_lf_ok (fun _ => ok_isub dX6_find_15 rfl)))) (am_nd_ok (am_lf_ok (fun _ => ok_csI rfl mw_J9_min_7cf53 wd_169 wd_170 dX6_find_16 rfl)) (am_nd_ok (am_lf_ok (fun _ => ok_istore_n dX6_find_19 rfl (Nat.le_of_ble_eq_true rfl) rfl)) (am_lf_ok (fun _ => ok_iconst dX6_find_20 cv_iconst_0 rfl)))))) (am_nd_ok (am_nd_ok (am_nd_ok (am_lf_ok (fun _ => ok_istore_n dX6_find_21 rfl (Nat.le_of_ble_eq_true rfl) rfl)) (am_nd_ok (am_lf_ok (fun _ => ok_iload_n dX6_find_22 rfl rfl)) (am_lf_ok (fun _ => ok_iload_n dX6_find_23 rfl rfl)))) (am_nd_ok (am_lf_ok (fun _ => ok_cmp_gt dX6_find_24 rfl rfl)) (am_nd_ok (am_lf_ok (fun _ => ok_aload_n dX6_find_27 rfl rfl)) (am_lf_ok (fun _ => ok_iload_n dX6_find_28 rfl rfl))))) (am_nd_ok (am_nd_ok (am_lf_ok (fun _ => ok_iload_n dX6_find_29 rfl rfl)) (am_nd_ok (am_lf_ok (fun _ => ok_iconst dX6_find_30 cv_iconst_0 rfl)) (am_lf_ok (fun _ => ok_iconst dX6_find_31 cv_iconst_0 rfl)))) (am_nd_ok (am_lf_ok (fun _ => ok_cvI rfl mw_X6_choose (ci := 6) rfl rfl wd_171 wd_172 wd_173 dX6_find_32 rfl)) (am_nd_ok (am_lf_ok (fun _ => ok_if_eq dX6_find_35 rfl rfl)) (am_lf_ok (fun _ => ok_iload_n dX6_find_38 rfl rfl))))))
def tX6_find_1 : Nat → Option am_Act := am_nd 43 (am_nd 40 (am_lf 39 (a_iret)) (am_lf 40 (a_iinc 3 (nI 1) 43))) (am_nd 46 (am_lf 43 (a_goto 22)) (am_nd 47 (am_lf 46 (a_const (-1) 47)) (am_lf 47 (a_iret))))
theorem gX6_find_1 : am_Good tT mX6_find tX6_find_1 := am_nd_ok (am_nd_ok (am_lf_ok (fun _ => ok_iret rfl dX6_find_39)) (am_lf_ok (fun _ => ok_iinc dX6_find_40 cv_iconst_1 (Nat.le_of_ble_eq_true rfl) rfl))) (am_nd_ok (am_lf_ok (fun _ => ok_goto dX6_find_43 rfl)) (am_nd_ok (am_lf_ok (fun _ => ok_iconst dX6_find_46 cv_iconst_m1 rfl)) (am_lf_ok (fun _ => ok_iret rfl dX6_find_47))))
def tX6_find : Nat → Option am_Act := am_nd 39 (tX6_find_0) (tX6_find_1)
theorem gX6_find : am_Good tT mX6_find tX6_find := am_nd_ok (gX6_find_0) (gX6_find_1)
theorem dX6_choose_0 : decode cX6_choose 0 = .ok (.iload_n 3, 1) := by decide +kernel
theorem dX6_choose_1 : decode cX6_choose 1 = .ok (.iload_n 2, 1) := by decide +kernel
theorem dX6_choose_2 : decode cX6_choose 2 = .ok (.if_icmp .ge 8, 3) := by decide +kernel
theorem dX6_choose_5 : decode cX6_choose 5 = .ok (.iload_n 3, 1) := by decide +kernel
theorem dX6_choose_6 : decode cX6_choose 6 = .ok (.iconst 3, 1) := by decide +kernel
theorem dX6_choose_7 : decode cX6_choose 7 = .ok (.if_icmp .lt 24, 3) := by decide +kernel
theorem dX6_choose_10 : decode cX6_choose 10 = .ok (.aload_n 0, 1) := by decide +kernel
theorem dX6_choose_11 : decode cX6_choose 11 = .ok (.getfield 19, 3) := by decide +kernel
theorem dX6_choose_14 : decode cX6_choose 14 = .ok (.iload_n 1, 1) := by decide +kernel
theorem dX6_choose_15 : decode cX6_choose 15 = .ok (.invokevirtual 44, 3) := by decide +kernel
theorem dX6_choose_18 : decode cX6_choose 18 = .ok (.istore 5, 2) := by decide +kernel
theorem dX6_choose_20 : decode cX6_choose 20 = .ok (.aload_n 0, 1) := by decide +kernel
theorem dX6_choose_21 : decode cX6_choose 21 = .ok (.getfield 19, 3) := by decide +kernel
theorem dX6_choose_24 : decode cX6_choose 24 = .ok (.iload_n 1, 1) := by decide +kernel
theorem dX6_choose_25 : decode cX6_choose 25 = .ok (.invokevirtual 50, 3) := by decide +kernel
theorem dX6_choose_28 : decode cX6_choose 28 = .ok (.iload 5, 2) := by decide +kernel
theorem dX6_choose_30 : decode cX6_choose 30 = .ok (.ireturn, 1) := by decide +kernel
theorem dX6_choose_31 : decode cX6_choose 31 = .ok (.iload 4, 2) := by decide +kernel
theorem dX6_choose_33 : decode cX6_choose 33 = .ok (.istore 5, 2) := by decide +kernel
theorem dX6_choose_35 : decode cX6_choose 35 = .ok (.iload 5, 2) := by decide +kernel
theorem dX6_choose_37 : decode cX6_choose 37 = .ok (.aload_n 0, 1) := by decide +kernel
theorem dX6_choose_38 : decode cX6_choose 38 = .ok (.getfield 15, 3) := by decide +kernel
theorem dX6_choose_41 : decode cX6_choose 41 = .ok (.getfield 54, 3) := by decide +kernel
theorem dX6_choose_44 : decode cX6_choose 44 = .ok (.if_icmp .ge 96, 3) := by decide +kernel
theorem dX6_choose_47 : decode cX6_choose 47 = .ok (.aload_n 0, 1) := by decide +kernel
theorem dX6_choose_48 : decode cX6_choose 48 = .ok (.getfield 15, 3) := by decide +kernel
theorem dX6_choose_51 : decode cX6_choose 51 = .ok (.getfield 23, 3) := by decide +kernel
theorem dX6_choose_54 : decode cX6_choose 54 = .ok (.iload_n 1, 1) := by decide +kernel
theorem dX6_choose_55 : decode cX6_choose 55 = .ok (.iload 5, 2) := by decide +kernel
theorem dX6_choose_57 : decode cX6_choose 57 = .ok (.invokevirtual 58, 3) := by decide +kernel
theorem dX6_choose_60 : decode cX6_choose 60 = .ok (.ifCond .eq 6, 3) := by decide +kernel
theorem dX6_choose_63 : decode cX6_choose 63 = .ok (.goto 71, 3) := by decide +kernel
theorem dX6_choose_66 : decode cX6_choose 66 = .ok (.aload_n 0, 1) := by decide +kernel
theorem dX6_choose_67 : decode cX6_choose 67 = .ok (.getfield 9, 3) := by decide +kernel
theorem dX6_choose_70 : decode cX6_choose 70 = .ok (.iload_n 3, 1) := by decide +kernel
theorem dX6_choose_71 : decode cX6_choose 71 = .ok (.iload 5, 2) := by decide +kernel
theorem dX6_choose_73 : decode cX6_choose 73 = .ok (.iastore, 1) := by decide +kernel
theorem dX6_choose_74 : decode cX6_choose 74 = .ok (.aload_n 0, 1) := by decide +kernel
theorem dX6_choose_75 : decode cX6_choose 75 = .ok (.getfield 15, 3) := by decide +kernel
theorem dX6_choose_78 : decode cX6_choose 78 = .ok (.getfield 23, 3) := by decide +kernel
theorem dX6_choose_81 : decode cX6_choose 81 = .ok (.iload_n 1, 1) := by decide +kernel
theorem dX6_choose_82 : decode cX6_choose 82 = .ok (.iload 5, 2) := by decide +kernel
theorem dX6_choose_84 : decode cX6_choose 84 = .ok (.invokevirtual 62, 3) := by decide +kernel
theorem dX6_choose_87 : decode cX6_choose 87 = .ok (.aload_n 0, 1) := by decide +kernel
theorem dX6_choose_88 : decode cX6_choose 88 = .ok (.iload_n 1, 1) := by decide +kernel
theorem dX6_choose_89 : decode cX6_choose 89 = .ok (.iload_n 2, 1) := by decide +kernel
theorem dX6_choose_90 : decode cX6_choose 90 = .ok (.iload_n 3, 1) := by decide +kernel
theorem dX6_choose_91 : decode cX6_choose 91 = .ok (.iconst 1, 1) := by decide +kernel
theorem dX6_choose_92 : decode cX6_choose 92 = .ok (.iadd, 1) := by decide +kernel
theorem dX6_choose_93 : decode cX6_choose 93 = .ok (.iload 5, 2) := by decide +kernel
theorem dX6_choose_95 : decode cX6_choose 95 = .ok (.iconst 1, 1) := by decide +kernel
theorem dX6_choose_96 : decode cX6_choose 96 = .ok (.iadd, 1) := by decide +kernel
theorem dX6_choose_97 : decode cX6_choose 97 = .ok (.invokevirtual 40, 3) := by decide +kernel
theorem dX6_choose_100 : decode cX6_choose 100 = .ok (.istore 6, 2) := by decide +kernel
theorem dX6_choose_102 : decode cX6_choose 102 = .ok (.aload_n 0, 1) := by decide +kernel
theorem dX6_choose_103 : decode cX6_choose 103 = .ok (.getfield 15, 3) := by decide +kernel
theorem dX6_choose_106 : decode cX6_choose 106 = .ok (.getfield 23, 3) := by decide +kernel
theorem dX6_choose_109 : decode cX6_choose 109 = .ok (.iload_n 1, 1) := by decide +kernel
theorem dX6_choose_110 : decode cX6_choose 110 = .ok (.aload_n 0, 1) := by decide +kernel
theorem dX6_choose_111 : decode cX6_choose 111 = .ok (.getfield 15, 3) := by decide +kernel
theorem dX6_choose_114 : decode cX6_choose 114 = .ok (.getfield 23, 3) := by decide +kernel
theorem dX6_choose_117 : decode cX6_choose 117 = .ok (.getfield 29, 3) := by decide +kernel
theorem dX6_choose_120 : decode cX6_choose 120 = .ok (.iload_n 1, 1) := by decide +kernel
theorem dX6_choose_121 : decode cX6_choose 121 = .ok (.iaload, 1) := by decide +kernel
theorem dX6_choose_122 : decode cX6_choose 122 = .ok (.iconst 1, 1) := by decide +kernel
theorem dX6_choose_123 : decode cX6_choose 123 = .ok (.isub, 1) := by decide +kernel
theorem dX6_choose_124 : decode cX6_choose 124 = .ok (.invokevirtual 66, 3) := by decide +kernel
theorem dX6_choose_127 : decode cX6_choose 127 = .ok (.iload 6, 2) := by decide +kernel
theorem dX6_choose_129 : decode cX6_choose 129 = .ok (.ifCond .eq 5, 3) := by decide +kernel
theorem dX6_choose_132 : decode cX6_choose 132 = .ok (.iconst 1, 1) := by decide +kernel
theorem dX6_choose_133 : decode cX6_choose 133 = .ok (.ireturn, 1) := by decide +kernel
theorem dX6_choose_134 : decode cX6_choose 134 = .ok (.iinc 5 1, 3) := by decide +kernel
theorem dX6_choose_137 : decode cX6_choose 137 = .ok (.goto (-102), 3) := by decide +kernel
theorem dX6_choose_140 : decode cX6_choose 140 = .ok (.iconst 0, 1) := by decide +kernel
theorem dX6_choose_141 : decode cX6_choose 141 = .ok (.ireturn, 1) := by decide +kernel
def tX6_choose_0 : Nat → Option am_Act := am_nd 21 (am_nd 10 (am_nd 5 (am_nd 1 (am_lf 0 (a_iload 3 1)) (am_nd 2 (am_lf 1 (a_iload 2 2)) (am_lf 2 (a_cmp (fun x y => y ≤ x) 10 5)))) (am_nd 6 (am_lf 5 (a_iload 3 6)) (am_nd 7 (am_lf 6 (a_const (nI 3) 7)) (am_lf 7 (a_cmp (fun x y => x < y) 31 10))))) (am_nd 15 (am_nd 11 (am_lf 10 (a_aload 0 11)) (am_nd 14 (am_lf 11 (a_get tT 6 1 14)) (am_lf 14 (a_iload 1 15)))) (am_nd 18 (am_lf 15 (a_cvI tT mX9_go 9 1 18)) (am_nd 20 (am_lf 18 (a_istore 5 20)) (am_lf 20 (a_aload 0 21)))))) (am_nd 33 (am_nd 28 (am_nd 24 (am_lf 21 (a_get tT 6 1 24)) (am_nd 25 (am_lf 24 (a_iload 1 25)) (am_lf 25 (a_cvV tT mX9_back 9 1 28)))) (am_nd 30 (am_lf 28 (a_iload 5 30)) (am_nd 31 (am_lf 30 (a_zret)) (am_lf 31 (a_iload 4 33))))) (am_nd 38 (am_nd 35 (am_lf 33 (a_istore 5 35)) (am_nd 37 (am_lf 35 (a_iload 5 37)) (am_lf 37 (a_aload 0 38)))) (am_nd 41 (am_lf 38 (a_get tT 6 0 41)) (am_nd 44 (am_lf 41 (a_get tT 10 4 44)) (am_lf 44 (a_cmp (fun x y => y ≤ x) 140 47))))))
theorem gX6_choose_0 : am_Good tT mX6_choose tX6_choose_0 := am_nd_ok (am_nd_ok (am_nd_ok (am_nd_ok (am_lf_ok (fun _ => ok_iload_n dX6_choose_0 rfl rfl)) (am_nd_ok (am_lf_ok (fun _ => ok_iload_n dX6_choose_1 rfl rfl)) (am_lf_ok (fun _ => ok_cmp_ge dX6_choose_2 rfl rfl)))) (am_nd_ok (am_lf_ok (fun _ => ok_iload_n dX6_choose_5 rfl rfl)) (am_nd_ok (am_lf_ok (fun _ => ok_iconst dX6_choose_6 cv_iconst_3 rfl)) (am_lf_ok (fun _ => ok_cmp_lt dX6_choose_7 rfl rfl))))) (am_nd_ok (am_nd_ok (am_lf_ok (fun _ => ok_aload_n dX6_choose_10 rfl rfl)) (am_nd_ok (am_lf_ok (fun _ => ok_get (C := RX6) (TT := TX6) (N := 3) rfl inw_X6 (Nat.le_of_ble_eq_true rfl) wd_174 dX6_choose_11 rfl)) (am_lf_ok (fun _ => ok_iload_n dX6_choose_14 rfl rfl)))) (am_nd_ok (am_lf_ok (fun _ => ok_cvI rfl mw_X9_go (ci := 9) rfl rfl wd_175 wd_176 wd_177 dX6_choose_15 rfl)) (am_nd_ok (am_lf_ok (fun _ => ok_istore dX6_choose_18 (Nat.le_of_ble_eq_true rfl) rfl)) (am_lf_ok (fun _ => ok_aload_n dX6_choose_20 rfl rfl)))))) (am_nd_ok (am_nd_ok (am_nd_ok (am_lf_ok (fun _ => ok_get (C := RX6) (TT := TX6) (N := 3) rfl inw_X6 (Nat.le_of_ble_eq_true rfl) wd_174 dX6_choose_21 rfl)) (am_nd_ok (am_lf_ok (fun _ => ok_iload_n dX6_choose_24 rfl rfl)) (am_lf_ok (fun _ => ok_cvV rfl mw_X9_back (ci := 9) rfl rfl wd_178 wd_179 wd_180 dX6_choose_25 rfl)))) (am_nd_ok (am_lf_ok (fun _ => ok_iload dX6_choose_28 rfl)) (am_nd_ok (am_lf_ok (fun _ => ok_zret rfl dX6_choose_30)) (am_lf_ok (fun _ => ok_iload dX6_choose_31 rfl))))) (am_nd_ok (am_nd_ok (am_lf_ok (fun _ => ok_istore dX6_choose_33 (Nat.le_of_ble_eq_true rfl) rfl)) (am_nd_ok (am_lf_ok (fun _ => ok_iload dX6_choose_35 rfl)) (am_lf_ok (fun _ => ok_aload_n dX6_choose_37 rfl rfl)))) (am_nd_ok (am_lf_ok (fun _ => ok_get (C := RX6) (TT := TX6) (N := 3) rfl inw_X6 (Nat.le_of_ble_eq_true rfl) wd_166 dX6_choose_38 rfl)) (am_nd_ok (am_lf_ok (fun _ => ok_get (C := RX10) (TT := TX10) (N := 14) rfl inw_X10 (Nat.le_of_ble_eq_true rfl) wd_181 dX6_choose_41 rfl)) (am_lf_ok (fun _ => ok_cmp_ge dX6_choose_44 rfl rfl))))))
def tX6_choose_1 : Nat → Option am_Act := am_nd 73 (am_nd 60 (am_nd 54 (am_nd 48 (am_lf 47 (a_aload 0 48)) (am_nd 51 (am_lf 48 (a_get tT 6 0 51)) (am_lf 51 (a_get tT 10 11 54)))) (am_nd 55 (am_lf 54 (a_iload 1 55)) (am_nd 57 (am_lf 55 (a_iload 5 57)) (am_lf 57 (a_cvI tT mX5_hasName 5 2 60))))) (am_nd 67 (am_nd 63 (am_lf 60 (a_if (fun x => x = nI 0) 66 63)) (am_nd 66 (am_lf 63 (a_goto 134)) (am_lf 66 (a_aload 0 67)))) (am_nd 70 (am_lf 67 (a_get tT 6 2 70)) (am_nd 71 (am_lf 70 (a_iload 3 71)) (am_lf 71 (a_iload 5 73)))))) (am_nd 84 (am_nd 78 (am_nd 74 (am_lf 73 (a_iast tT 74)) (am_nd 75 (am_lf 74 (a_aload 0 75)) (am_lf 75 (a_get tT 6 0 78)))) (am_nd 81 (am_lf 78 (a_get tT 10 11 81)) (am_nd 82 (am_lf 81 (a_iload 1 82)) (am_lf 82 (a_iload 5 84))))) (am_nd 89 (am_nd 87 (am_lf 84 (a_cvV tT mX5_append 5 2 87)) (am_nd 88 (am_lf 87 (a_aload 0 88)) (am_lf 88 (a_iload 1 89)))) (am_nd 90 (am_lf 89 (a_iload 2 90)) (am_nd 91 (am_lf 90 (a_iload 3 91)) (am_lf 91 (a_const (nI 1) 92))))))
theorem gX6_choose_1 : am_Good tT mX6_choose tX6_choose_1 := am_nd_ok (am_nd_ok (am_nd_ok (am_nd_ok (am_lf_ok (fun _ => ok_aload_n dX6_choose_47 rfl rfl)) (am_nd_ok (am_lf_ok (fun _ => ok_get (C := RX6) (TT := TX6) (N := 3) rfl inw_X6 (Nat.le_of_ble_eq_true rfl) wd_166 dX6_choose_48 rfl)) (am_lf_ok (fun _ => ok_get (C := RX10) (TT := TX10) (N := 14) rfl inw_X10 (Nat.le_of_ble_eq_true rfl) wd_167 dX6_choose_51 rfl)))) (am_nd_ok (am_lf_ok (fun _ => ok_iload_n dX6_choose_54 rfl rfl)) (am_nd_ok (am_lf_ok (fun _ => ok_iload dX6_choose_55 rfl)) (am_lf_ok (fun _ => ok_cvI rfl mw_X5_hasName (ci := 5) rfl rfl wd_182 wd_160 wd_161 dX6_choose_57 rfl))))) (am_nd_ok (am_nd_ok (am_lf_ok (fun _ => ok_if_eq dX6_choose_60 rfl rfl)) (am_nd_ok (am_lf_ok (fun _ => ok_goto dX6_choose_63 rfl)) (am_lf_ok (fun _ => ok_aload_n dX6_choose_66 rfl rfl)))) (am_nd_ok (am_lf_ok (fun _ => ok_get (C := RX6) (TT := TX6) (N := 3) rfl inw_X6 (Nat.le_of_ble_eq_true rfl) wd_183 dX6_choose_67 rfl)) (am_nd_ok (am_lf_ok (fun _ => ok_iload_n dX6_choose_70 rfl rfl)) (am_lf_ok (fun _ => ok_iload dX6_choose_71 rfl)))))) (am_nd_ok (am_nd_ok (am_nd_ok (am_lf_ok (fun _ => ok_iast dX6_choose_73 rfl)) (am_nd_ok (am_lf_ok (fun _ => ok_aload_n dX6_choose_74 rfl rfl)) (am_lf_ok (fun _ => ok_get (C := RX6) (TT := TX6) (N := 3) rfl inw_X6 (Nat.le_of_ble_eq_true rfl) wd_166 dX6_choose_75 rfl)))) (am_nd_ok (am_lf_ok (fun _ => ok_get (C := RX10) (TT := TX10) (N := 14) rfl inw_X10 (Nat.le_of_ble_eq_true rfl) wd_167 dX6_choose_78 rfl)) (am_nd_ok (am_lf_ok (fun _ => ok_iload_n dX6_choose_81 rfl rfl)) (am_lf_ok (fun _ => ok_iload dX6_choose_82 rfl))))) (am_nd_ok (am_nd_ok (am_lf_ok (fun _ => ok_cvV rfl mw_X5_append (ci := 5) rfl rfl wd_184 wd_185 wd_186 dX6_choose_84 rfl)) (am_nd_ok (am_lf_ok (fun _ => ok_aload_n dX6_choose_87 rfl rfl)) (am_lf_ok (fun _ => ok_iload_n dX6_choose_88 rfl rfl)))) (am_nd_ok (am_lf_ok (fun _ => ok_iload_n dX6_choose_89 rfl rfl)) (am_nd_ok (am_lf_ok (fun _ => ok_iload_n dX6_choose_90 rfl rfl)) (am_lf_ok (fun _ => ok_iconst dX6_choose_91 cv_iconst_1 rfl))))))
def tX6_choose_2 : Nat → Option am_Act := am_nd 114 (am_nd 102 (am_nd 96 (am_nd 93 (am_lf 92 (a_bin (fun x y => x + y) 93)) (am_nd 95 (am_lf 93 (a_iload 5 95)) (am_lf 95 (a_const (nI 1) 96)))) (am_nd 97 (am_lf 96 (a_bin (fun x y => x + y) 97)) (am_nd 100 (am_lf 97 (a_cvI tT mX6_choose 6 4 100)) (am_lf 100 (a_istore 6 102))))) (am_nd 109 (am_nd 103 (am_lf 102 (a_aload 0 103)) (am_nd 106 (am_lf 103 (a_get tT 6 0 106)) (am_lf 106 (a_get tT 10 11 109)))) (am_nd 110 (am_lf 109 (a_iload 1 110)) (am_nd 111 (am_lf 110 (a_aload 0 111)) (am_lf 111 (a_get tT 6 0 114)))))) (am_nd 124 (am_nd 121 (am_nd 117 (am_lf 114 (a_get tT 10 11 117)) (am_nd 120 (am_lf 117 (a_get tT 5 6 120)) (am_lf 120 (a_iload 1 121)))) (am_nd 122 (am_lf 121 (a_iald tT 122)) (am_nd 123 (am_lf 122 (a_const (nI 1) 123)) (am_lf 123 (a_bin (fun x y => x - y) 124))))) (am_nd 132 (am_nd 127 (am_lf 124 (a_cvV tT mX5_remove 5 2 127)) (am_nd 129 (am_lf 127 (a_iload 6 129)) (am_lf 129 (a_if (fun x => x = nI 0) 134 132)))) (am_nd 133 (am_lf 132 (a_const (nI 1) 133)) (am_nd 134 (am_lf 133 (a_zret)) (am_lf 134 (a_iinc 5 (nI 1) 137))))))
theorem gX6_choose_2 : am_Good tT mX6_choose tX6_choose_2 := am_nd_ok (am_nd_ok (am_nd_ok (am_nd_ok (am_lf_ok (fun _ => ok_iadd dX6_choose_92 rfl)) (am_nd_ok (am_lf_ok (fun _ => ok_iload dX6_choose_93 rfl)) (am_lf_ok (fun _ => ok_iconst dX6_choose_95 cv_iconst_1 rfl)))) (am_nd_ok (am_lf_ok (fun _ => ok_iadd dX6_choose_96 rfl)) (am_nd_ok (am_lf_ok (fun _ => ok_cvI rfl mw_X6_choose (ci := 6) rfl rfl wd_171 wd_172 wd_173 dX6_choose_97 rfl)) (am_lf_ok (fun _ => ok_istore dX6_choose_100 (Nat.le_of_ble_eq_true rfl) rfl))))) (am_nd_ok (am_nd_ok (am_lf_ok (fun _ => ok_aload_n dX6_choose_102 rfl rfl)) (am_nd_ok (am_lf_ok (fun _ => ok_get (C := RX6) (TT := TX6) (N := 3) rfl inw_X6 (Nat.le_of_ble_eq_true rfl) wd_166 dX6_choose_103 rfl)) (am_lf_ok (fun _ => ok_get (C := RX10) (TT := TX10) (N := 14) rfl inw_X10 (Nat.le_of_ble_eq_true rfl) wd_167 dX6_choose_106 rfl)))) (am_nd_ok (am_lf_ok (fun _ => ok_iload_n dX6_choose_109 rfl rfl)) (am_nd_ok (am_lf_ok (fun _ => ok_aload_n dX6_choose_110 rfl rfl)) (am_lf_ok (fun _ => ok_get (C := RX6) (TT := TX6) (N := 3) rfl inw_X6 (Nat.le_of_ble_eq_true rfl) wd_166 dX6_choose_111 rfl)))))) (am_nd_ok (am_nd_ok (am_nd_ok (am_lf_ok (fun _ => ok_get (C := RX10) (TT := TX10) (N := 14) rfl inw_X10 (Nat.le_of_ble_eq_true rfl) wd_167 dX6_choose_114 rfl)) (am_nd_ok (am_lf_ok (fun _ => ok_get (C := RX5) (TT := TX5) (N := 8) rfl inw_X5 (Nat.le_of_ble_eq_true rfl) wd_168 dX6_choose_117 rfl)) (am_lf_ok (fun _ => ok_iload_n dX6_choose_120 rfl rfl)))) (am_nd_ok (am_lf_ok (fun _ => ok_iald dX6_choose_121 rfl)) (am_nd_ok (am_lf_ok (fun _ => ok_iconst dX6_choose_122 cv_iconst_1 rfl)) (am_lf_ok (fun _ => ok_isub dX6_choose_123 rfl))))) (am_nd_ok (am_nd_ok (am_lf_ok (fun _ => ok_cvV rfl mw_X5_remove (ci := 5) rfl rfl wd_187 wd_188 wd_189 dX6_choose_124 rfl)) (am_nd_ok (am_lf_ok (fun _ => ok_iload dX6_choose_127 rfl)) (am_lf_ok (fun _ => ok_if_eq dX6_choose_129 rfl rfl)))) (am_nd_ok (am_lf_ok (fun _ => ok_iconst dX6_choose_132 cv_iconst_1 rfl)) (am_nd_ok (am_lf_ok (fun _ => ok_zret rfl dX6_choose_133)) (am_lf_ok (fun _ => ok_iinc dX6_choose_134 cv_iconst_1 (Nat.le_of_ble_eq_true rfl) rfl))))))
def tX6_choose_3 : Nat → Option am_Act := am_nd 140 (am_lf 137 (a_goto 35)) (am_nd 141 (am_lf 140 (a_const (nI 0) 141)) (am_lf 141 (a_zret)))
theorem gX6_choose_3 : am_Good tT mX6_choose tX6_choose_3 := am_nd_ok (am_lf_ok (fun _ => ok_goto dX6_choose_137 rfl)) (am_nd_ok (am_lf_ok (fun _ => ok_iconst dX6_choose_140 cv_iconst_0 rfl)) (am_lf_ok (fun _ => ok_zret rfl dX6_choose_141)))
def tX6_choose : Nat → Option am_Act := am_nd 92 (am_nd 47 (tX6_choose_0) (tX6_choose_1)) (am_nd 137 (tX6_choose_2) (tX6_choose_3))
theorem gX6_choose : am_Good tT mX6_choose tX6_choose := am_nd_ok (am_nd_ok (gX6_choose_0) (gX6_choose_1)) (am_nd_ok (gX6_choose_2) (gX6_choose_3))
