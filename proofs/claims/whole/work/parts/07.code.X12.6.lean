/-! ===== code of TollOfNamesModel ===== -/
theorem dX12_seeks_0 : decode cX12_seeks 0 = .ok (.aload_n 0, 1) := by decide +kernel
theorem dX12_seeks_1 : decode cX12_seeks 1 = .ok (.iload_n 1, 1) := by decide +kernel
theorem dX12_seeks_2 : decode cX12_seeks 2 = .ok (.iconst 0, 1) := by decide +kernel
theorem dX12_seeks_3 : decode cX12_seeks 3 = .ok (.invokevirtual 76, 3) := by decide +kernel
theorem dX12_seeks_6 : decode cX12_seeks 6 = .ok (.istore 6, 2) := by decide +kernel
theorem dX12_seeks_8 : decode cX12_seeks 8 = .ok (.iload 6, 2) := by decide +kernel
theorem dX12_seeks_10 : decode cX12_seeks 10 = .ok (.iload_n 2, 1) := by decide +kernel
theorem dX12_seeks_11 : decode cX12_seeks 11 = .ok (.if_icmp .ne 82, 3) := by decide +kernel
theorem dX12_seeks_14 : decode cX12_seeks 14 = .ok (.aload_n 0, 1) := by decide +kernel
theorem dX12_seeks_15 : decode cX12_seeks 15 = .ok (.getfield 280, 3) := by decide +kernel
theorem dX12_seeks_18 : decode cX12_seeks 18 = .ok (.iconst (-1), 1) := by decide +kernel
theorem dX12_seeks_19 : decode cX12_seeks 19 = .ok (.if_icmp .eq 31, 3) := by decide +kernel
theorem dX12_seeks_22 : decode cX12_seeks 22 = .ok (.iload 5, 2) := by decide +kernel
theorem dX12_seeks_24 : decode cX12_seeks 24 = .ok (.aload_n 0, 1) := by decide +kernel
theorem dX12_seeks_25 : decode cX12_seeks 25 = .ok (.getfield 280, 3) := by decide +kernel
theorem dX12_seeks_28 : decode cX12_seeks 28 = .ok (.if_icmp .gt 21, 3) := by decide +kernel
theorem dX12_seeks_31 : decode cX12_seeks 31 = .ok (.iload 5, 2) := by decide +kernel
theorem dX12_seeks_33 : decode cX12_seeks 33 = .ok (.aload_n 0, 1) := by decide +kernel
theorem dX12_seeks_34 : decode cX12_seeks 34 = .ok (.getfield 280, 3) := by decide +kernel
theorem dX12_seeks_37 : decode cX12_seeks 37 = .ok (.if_icmp .ne 13, 3) := by decide +kernel
theorem dX12_seeks_40 : decode cX12_seeks 40 = .ok (.iload 4, 2) := by decide +kernel
theorem dX12_seeks_42 : decode cX12_seeks 42 = .ok (.aload_n 0, 1) := by decide +kernel
theorem dX12_seeks_43 : decode cX12_seeks 43 = .ok (.getfield 283, 3) := by decide +kernel
theorem dX12_seeks_46 : decode cX12_seeks 46 = .ok (.if_icmp .lt 4, 3) := by decide +kernel
theorem dX12_seeks_49 : decode cX12_seeks 49 = .ok (.return_, 1) := by decide +kernel
theorem dX12_seeks_50 : decode cX12_seeks 50 = .ok (.aload_n 0, 1) := by decide +kernel
theorem dX12_seeks_51 : decode cX12_seeks 51 = .ok (.iload 5, 2) := by decide +kernel
theorem dX12_seeks_53 : decode cX12_seeks 53 = .ok (.putfield 280, 3) := by decide +kernel
theorem dX12_seeks_56 : decode cX12_seeks 56 = .ok (.aload_n 0, 1) := by decide +kernel
theorem dX12_seeks_57 : decode cX12_seeks 57 = .ok (.iload 4, 2) := by decide +kernel
theorem dX12_seeks_59 : decode cX12_seeks 59 = .ok (.putfield 283, 3) := by decide +kernel
theorem dX12_seeks_62 : decode cX12_seeks 62 = .ok (.iconst 0, 1) := by decide +kernel
theorem dX12_seeks_63 : decode cX12_seeks 63 = .ok (.istore 7, 2) := by decide +kernel
theorem dX12_seeks_65 : decode cX12_seeks 65 = .ok (.iload 7, 2) := by decide +kernel
theorem dX12_seeks_67 : decode cX12_seeks 67 = .ok (.iload 4, 2) := by decide +kernel
theorem dX12_seeks_69 : decode cX12_seeks 69 = .ok (.if_icmp .ge 23, 3) := by decide +kernel
theorem dX12_seeks_72 : decode cX12_seeks 72 = .ok (.aload_n 0, 1) := by decide +kernel
theorem dX12_seeks_73 : decode cX12_seeks 73 = .ok (.getfield 44, 3) := by decide +kernel
theorem dX12_seeks_76 : decode cX12_seeks 76 = .ok (.iload 7, 2) := by decide +kernel
theorem dX12_seeks_78 : decode cX12_seeks 78 = .ok (.aload_n 0, 1) := by decide +kernel
theorem dX12_seeks_79 : decode cX12_seeks 79 = .ok (.getfield 41, 3) := by decide +kernel
theorem dX12_seeks_82 : decode cX12_seeks 82 = .ok (.iload 7, 2) := by decide +kernel
theorem dX12_seeks_84 : decode cX12_seeks 84 = .ok (.iaload, 1) := by decide +kernel
theorem dX12_seeks_85 : decode cX12_seeks 85 = .ok (.iastore, 1) := by decide +kernel
theorem dX12_seeks_86 : decode cX12_seeks 86 = .ok (.iinc 7 1, 3) := by decide +kernel
theorem dX12_seeks_89 : decode cX12_seeks 89 = .ok (.goto (-24), 3) := by decide +kernel
theorem dX12_seeks_92 : decode cX12_seeks 92 = .ok (.return_, 1) := by decide +kernel
theorem dX12_seeks_93 : decode cX12_seeks 93 = .ok (.aload_n 0, 1) := by decide +kernel
theorem dX12_seeks_94 : decode cX12_seeks 94 = .ok (.iload 4, 2) := by decide +kernel
theorem dX12_seeks_96 : decode cX12_seeks 96 = .ok (.invokevirtual 246, 3) := by decide +kernel
theorem dX12_seeks_99 : decode cX12_seeks 99 = .ok (.iconst 0, 1) := by decide +kernel
theorem dX12_seeks_100 : decode cX12_seeks 100 = .ok (.istore 7, 2) := by decide +kernel
theorem dX12_seeks_102 : decode cX12_seeks 102 = .ok (.iload 7, 2) := by decide +kernel
theorem dX12_seeks_104 : decode cX12_seeks 104 = .ok (.aload_n 0, 1) := by decide +kernel
theorem dX12_seeks_105 : decode cX12_seeks 105 = .ok (.getfield 7, 3) := by decide +kernel
theorem dX12_seeks_108 : decode cX12_seeks 108 = .ok (.iconst 2, 1) := by decide +kernel
theorem dX12_seeks_109 : decode cX12_seeks 109 = .ok (.iaload, 1) := by decide +kernel
theorem dX12_seeks_110 : decode cX12_seeks 110 = .ok (.if_icmp .ge 100, 3) := by decide +kernel
theorem dX12_seeks_113 : decode cX12_seeks 113 = .ok (.aload_n 0, 1) := by decide +kernel
theorem dX12_seeks_114 : decode cX12_seeks 114 = .ok (.iload 7, 2) := by decide +kernel
theorem dX12_seeks_116 : decode cX12_seeks 116 = .ok (.iload 6, 2) := by decide +kernel
theorem dX12_seeks_118 : decode cX12_seeks 118 = .ok (.invokevirtual 231, 3) := by decide +kernel
theorem dX12_seeks_121 : decode cX12_seeks 121 = .ok (.istore 8, 2) := by decide +kernel
theorem dX12_seeks_123 : decode cX12_seeks 123 = .ok (.iload 8, 2) := by decide +kernel
theorem dX12_seeks_125 : decode cX12_seeks 125 = .ok (.iconst (-1), 1) := by decide +kernel
theorem dX12_seeks_126 : decode cX12_seeks 126 = .ok (.if_icmp .eq 78, 3) := by decide +kernel
theorem dX12_seeks_129 : decode cX12_seeks 129 = .ok (.iload_n 3, 1) := by decide +kernel
theorem dX12_seeks_130 : decode cX12_seeks 130 = .ok (.iload 8, 2) := by decide +kernel
theorem dX12_seeks_132 : decode cX12_seeks 132 = .ok (.ishr, 1) := by decide +kernel
theorem dX12_seeks_133 : decode cX12_seeks 133 = .ok (.iconst 1, 1) := by decide +kernel
theorem dX12_seeks_134 : decode cX12_seeks 134 = .ok (.iand, 1) := by decide +kernel
theorem dX12_seeks_135 : decode cX12_seeks 135 = .ok (.iconst 1, 1) := by decide +kernel
theorem dX12_seeks_136 : decode cX12_seeks 136 = .ok (.if_icmp .ne 6, 3) := by decide +kernel
theorem dX12_seeks_139 : decode cX12_seeks 139 = .ok (.goto 65, 3) := by decide +kernel
theorem dX12_seeks_142 : decode cX12_seeks 142 = .ok (.aload_n 0, 1) := by decide +kernel
theorem dX12_seeks_143 : decode cX12_seeks 143 = .ok (.iload_n 1, 1) := by decide +kernel
theorem dX12_seeks_144 : decode cX12_seeks 144 = .ok (.iload 7, 2) := by decide +kernel
theorem dX12_seeks_146 : decode cX12_seeks 146 = .ok (.invokevirtual 250, 3) := by decide +kernel
theorem dX12_seeks_149 : decode cX12_seeks 149 = .ok (.istore 9, 2) := by decide +kernel
theorem dX12_seeks_151 : decode cX12_seeks 151 = .ok (.aload_n 0, 1) := by decide +kernel
theorem dX12_seeks_152 : decode cX12_seeks 152 = .ok (.getfield 41, 3) := by decide +kernel
theorem dX12_seeks_155 : decode cX12_seeks 155 = .ok (.iload 4, 2) := by decide +kernel
theorem dX12_seeks_157 : decode cX12_seeks 157 = .ok (.iload 7, 2) := by decide +kernel
theorem dX12_seeks_159 : decode cX12_seeks 159 = .ok (.iastore, 1) := by decide +kernel
theorem dX12_seeks_160 : decode cX12_seeks 160 = .ok (.iload 9, 2) := by decide +kernel
theorem dX12_seeks_162 : decode cX12_seeks 162 = .ok (.bipush (-2), 2) := by decide +kernel
theorem dX12_seeks_164 : decode cX12_seeks 164 = .ok (.if_icmp .eq 34, 3) := by decide +kernel
theorem dX12_seeks_167 : decode cX12_seeks 167 = .ok (.aload_n 0, 1) := by decide +kernel
theorem dX12_seeks_168 : decode cX12_seeks 168 = .ok (.iload_n 1, 1) := by decide +kernel
theorem dX12_seeks_169 : decode cX12_seeks 169 = .ok (.iload_n 2, 1) := by decide +kernel
theorem dX12_seeks_170 : decode cX12_seeks 170 = .ok (.iload_n 3, 1) := by decide +kernel
theorem dX12_seeks_171 : decode cX12_seeks 171 = .ok (.iconst 1, 1) := by decide +kernel
theorem dX12_seeks_172 : decode cX12_seeks 172 = .ok (.iload 8, 2) := by decide +kernel
theorem dX12_seeks_174 : decode cX12_seeks 174 = .ok (.ishl, 1) := by decide +kernel
theorem dX12_seeks_175 : decode cX12_seeks 175 = .ok (.ior, 1) := by decide +kernel
theorem dX12_seeks_176 : decode cX12_seeks 176 = .ok (.iload 4, 2) := by decide +kernel
theorem dX12_seeks_178 : decode cX12_seeks 178 = .ok (.iconst 1, 1) := by decide +kernel
theorem dX12_seeks_179 : decode cX12_seeks 179 = .ok (.iadd, 1) := by decide +kernel
theorem dX12_seeks_180 : decode cX12_seeks 180 = .ok (.iload 5, 2) := by decide +kernel
theorem dX12_seeks_182 : decode cX12_seeks 182 = .ok (.iload 9, 2) := by decide +kernel
theorem dX12_seeks_184 : decode cX12_seeks 184 = .ok (.bipush 100, 2) := by decide +kernel
theorem dX12_seeks_186 : decode cX12_seeks 186 = .ok (.if_icmp .ne 7, 3) := by decide +kernel
theorem dX12_seeks_189 : decode cX12_seeks 189 = .ok (.iconst 0, 1) := by decide +kernel
theorem dX12_seeks_190 : decode cX12_seeks 190 = .ok (.goto 4, 3) := by decide +kernel
theorem dX12_seeks_193 : decode cX12_seeks 193 = .ok (.iconst 1, 1) := by decide +kernel
theorem dX12_seeks_194 : decode cX12_seeks 194 = .ok (.iadd, 1) := by decide +kernel
theorem dX12_seeks_195 : decode cX12_seeks 195 = .ok (.invokevirtual 286, 3) := by decide +kernel
theorem dX12_seeks_198 : decode cX12_seeks 198 = .ok (.aload_n 0, 1) := by decide +kernel
theorem dX12_seeks_199 : decode cX12_seeks 199 = .ok (.iload 4, 2) := by decide +kernel
theorem dX12_seeks_201 : decode cX12_seeks 201 = .ok (.invokevirtual 253, 3) := by decide +kernel
theorem dX12_seeks_204 : decode cX12_seeks 204 = .ok (.iinc 7 1, 3) := by decide +kernel
theorem dX12_seeks_207 : decode cX12_seeks 207 = .ok (.goto (-105), 3) := by decide +kernel
theorem dX12_seeks_210 : decode cX12_seeks 210 = .ok (.return_, 1) := by decide +kernel
def tX12_seeks_0 : Nat → Option am_Act := am_nd 22 (am_nd 10 (am_nd 3 (am_nd 1 (am_lf 0 (a_aload 0 1)) (am_nd 2 (am_lf 1 (a_iload 1 2)) (am_lf 2 (a_const (nI 0) 3)))) (am_nd 6 (am_lf 3 (a_cvI tT mX12_own 12 2 6)) (am_nd 8 (am_lf 6 (a_istore 6 8)) (am_lf 8 (a_iload 6 10))))) (am_nd 15 (am_nd 11 (am_lf 10 (a_iload 2 11)) (am_nd 14 (am_lf 11 (a_cmp (fun x y => x = y) 14 93)) (am_lf 14 (a_aload 0 15)))) (am_nd 18 (am_lf 15 (a_get tT 12 25 18)) (am_nd 19 (am_lf 18 (a_const (-1) 19)) (am_lf 19 (a_cmp (fun x y => x = y) 50 22)))))) (am_nd 34 (am_nd 28 (am_nd 24 (am_lf 22 (a_iload 5 24)) (am_nd 25 (am_lf 24 (a_aload 0 25)) (am_lf 25 (a_get tT 12 25 28)))) (am_nd 31 (am_lf 28 (a_cmp (fun x y => y < x) 49 31)) (am_nd 33 (am_lf 31 (a_iload 5 33)) (am_lf 33 (a_aload 0 34))))) (am_nd 42 (am_nd 37 (am_lf 34 (a_get tT 12 25 37)) (am_nd 40 (am_lf 37 (a_cmp (fun x y => x = y) 40 50)) (am_lf 40 (a_iload 4 42)))) (am_nd 43 (am_lf 42 (a_aload 0 43)) (am_nd 46 (am_lf 43 (a_get tT 12 26 46)) (am_lf 46 (a_cmp (fun x y => x < y) 50 49))))))
theorem gX12_seeks_0 : am_Good tT mX12_seeks tX12_seeks_0 := am_nd_ok (am_nd_ok (am_nd_ok (am_nd_ok (am_lf_ok (fun _ => ok_aload_n dX12_seeks_0 rfl rfl)) (am_nd_ok (am_lf_ok (fun _ => ok_iload_n dX12_seeks_1 rfl rfl)) (am_lf_ok (fun _ => ok_iconst dX12_seeks_2 cv_iconst_0 rfl)))) (am_nd_ok (am_lf_ok (fun _ => ok_cvI rfl mw_X12_own (ci := 12) rfl rfl wd_462 wd_463 wd_464 dX12_seeks_3 rfl)) (am_nd_ok (am_lf_ok (fun _ => ok_istore dX12_seeks_6 (Nat.le_of_ble_eq_true rfl) rfl)) (am_lf_ok (fun _ => ok_iload dX12_seeks_8 rfl))))) (am_nd_ok (am_nd_ok (am_lf_ok (fun _ => ok_iload_n dX12_seeks_10 rfl rfl)) (am_nd_ok (am_lf_ok (fun _ => ok_cmp_ne dX12_seeks_11 rfl rfl)) (am_lf_ok (fun _ => ok_aload_n dX12_seeks_14 rfl rfl)))) (am_nd_ok (am_lf_ok (fun _ => ok_get (C := RX12) (TT := TX12) (N := 31) rfl inw_X12 (Nat.le_of_ble_eq_true rfl) wd_604 dX12_seeks_15 rfl)) (am_nd_ok (am_lf_ok (fun _ => ok_iconst dX12_seeks_18 cv_iconst_m1 rfl)) (am_lf_ok (fun _ => ok_cmp_eq dX12_seeks_19 rfl rfl)))))) (am_nd_ok (am_nd_ok (am_nd_ok (am_lf_ok (fun _ => ok_iload dX12_seeks_22 rfl)) (am_nd_ok (am_lf_ok (fun _ => ok_aload_n dX12_seeks_24 rfl rfl)) (am_lf_ok (fun _ => ok_get (C := RX12) (TT := TX12) (N := 31) rfl inw_X12 (Nat.le_of_ble_eq_true rfl) wd_604 dX12_seeks_25 rfl)))) (am_nd_ok (am_lf_ok (fun _ => ok_cmp_gt dX12_seeks_28 rfl rfl)) (am_nd_ok (am_lf_ok (fun _ => ok_iload dX12_seeks_31 rfl)) (am_lf_ok (fun _ => ok_aload_n dX12_seeks_33 rfl rfl))))) (am_nd_ok (am_nd_ok (am_lf_ok (fun _ => ok_get (C := RX12) (TT := TX12) (N := 31) rfl inw_X12 (Nat.le_of_ble_eq_true rfl) wd_604 dX12_seeks_34 rfl)) (am_nd_ok (am_lf_ok (fun _ => ok_cmp_ne dX12_seeks_37 rfl rfl)) (am_lf_ok (fun _ => ok_iload dX12_seeks_40 rfl)))) (am_nd_ok (am_lf_ok (fun _ => ok_aload_n dX12_seeks_42 rfl rfl)) (am_nd_ok (am_lf_ok (fun _ => ok_get (C := RX12) (TT := TX12) (N := 31) rfl inw_X12 (Nat.le_of_ble_eq_true rfl) wd_605 dX12_seeks_43 rfl)) (am_lf_ok (fun _ => ok_cmp_lt dX12_seeks_46 rfl rfl))))))
def tX12_seeks_1 : Nat → Option am_Act := am_nd 72 (am_nd 59 (am_nd 53 (am_nd 50 (am_lf 49 (a_ret)) (am_nd 51 (am_lf 50 (a_aload 0 51)) (am_lf 51 (a_iload 5 53)))) (am_nd 56 (am_lf 53 (a_put tT 12 25 56)) (am_nd 57 (am_lf 56 (a_aload 0 57)) (am_lf 57 (a_iload 4 59))))) (am_nd 65 (am_nd 62 (am_lf 59 (a_put tT 12 26 62)) (am_nd 63 (am_lf 62 (a_const (nI 0) 63)) (am_lf 63 (a_istore 7 65)))) (am_nd 67 (am_lf 65 (a_iload 7 67)) (am_nd 69 (am_lf 67 (a_iload 4 69)) (am_lf 69 (a_cmp (fun x y => y ≤ x) 92 72)))))) (am_nd 84 (am_nd 78 (am_nd 73 (am_lf 72 (a_aload 0 73)) (am_nd 76 (am_lf 73 (a_get tT 12 24 76)) (am_lf 76 (a_iload 7 78)))) (am_nd 79 (am_lf 78 (a_aload 0 79)) (am_nd 82 (am_lf 79 (a_get tT 12 23 82)) (am_lf 82 (a_iload 7 84))))) (am_nd 89 (am_nd 85 (am_lf 84 (a_iald tT 85)) (am_nd 86 (am_lf 85 (a_iast tT 86)) (am_lf 86 (a_iinc 7 (nI 1) 89)))) (am_nd 92 (am_lf 89 (a_goto 65)) (am_nd 93 (am_lf 92 (a_ret)) (am_lf 93 (a_aload 0 94))))))
theorem gX12_seeks_1 : am_Good tT mX12_seeks tX12_seeks_1 := am_nd_ok (am_nd_ok (am_nd_ok (am_nd_ok (am_lf_ok (fun _ => ok_ret rfl dX12_seeks_49)) (am_nd_ok (am_lf_ok (fun _ => ok_aload_n dX12_seeks_50 rfl rfl)) (am_lf_ok (fun _ => ok_iload dX12_seeks_51 rfl)))) (am_nd_ok (am_lf_ok (fun _ => ok_put (C := RX12) (TT := TX12) (N := 31) (ty0 := tyX12) rfl inw_X12 tyX12_ok nmX12 (Nat.le_of_ble_eq_true rfl) rfl rfl wd_604 dX12_seeks_53 rfl)) (am_nd_ok (am_lf_ok (fun _ => ok_aload_n dX12_seeks_56 rfl rfl)) (am_lf_ok (fun _ => ok_iload dX12_seeks_57 rfl))))) (am_nd_ok (am_nd_ok (am_lf_ok (fun _ => ok_put (C := RX12) (TT := TX12) (N := 31) (ty0 := tyX12) rfl inw_X12 tyX12_ok nmX12 (Nat.le_of_ble_eq_true rfl) rfl rfl wd_605 dX12_seeks_59 rfl)) (am_nd_ok (am_lf_ok (fun _ => ok_iconst dX12_seeks_62 cv_iconst_0 rfl)) (am_lf_ok (fun _ => ok_istore dX12_seeks_63 (Nat.le_of_ble_eq_true rfl) rfl)))) (am_nd_ok (am_lf_ok (fun _ => ok_iload dX12_seeks_65 rfl)) (am_nd_ok (am_lf_ok (fun _ => ok_iload dX12_seeks_67 rfl)) (am_lf_ok (fun _ => ok_cmp_ge dX12_seeks_69 rfl rfl)))))) (am_nd_ok (am_nd_ok (am_nd_ok (am_lf_ok (fun _ => ok_aload_n dX12_seeks_72 rfl rfl)) (am_nd_ok (am_lf_ok (fun _ => ok_get (C := RX12) (TT := TX12) (N := 31) rfl inw_X12 (Nat.le_of_ble_eq_true rfl) wd_606 dX12_seeks_73 rfl)) (am_lf_ok (fun _ => ok_iload dX12_seeks_76 rfl)))) (am_nd_ok (am_lf_ok (fun _ => ok_aload_n dX12_seeks_78 rfl rfl)) (am_nd_ok (am_lf_ok (fun _ => ok_get (C := RX12) (TT := TX12) (N := 31) rfl inw_X12 (Nat.le_of_ble_eq_true rfl) wd_607 dX12_seeks_79 rfl)) (am_lf_ok (fun _ => ok_iload dX12_seeks_82 rfl))))) (am_nd_ok (am_nd_ok (am_lf_ok (fun _ => ok_iald dX12_seeks_84 rfl)) (am_nd_ok (am_lf_ok (fun _ => ok_iast dX12_seeks_85 rfl)) (am_lf_ok (fun _ => ok_iinc dX12_seeks_86 cv_iconst_1 (Nat.le_of_ble_eq_true rfl) rfl)))) (am_nd_ok (am_lf_ok (fun _ => ok_goto dX12_seeks_89 rfl)) (am_nd_ok (am_lf_ok (fun _ => ok_ret rfl dX12_seeks_92)) (am_lf_ok (fun _ => ok_aload_n dX12_seeks_93 rfl rfl))))))
def tX12_seeks_2 : Nat → Option am_Act := am_nd 116 (am_nd 105 (am_nd 100 (am_nd 96 (am_lf 94 (a_iload 4 96)) (am_nd 99 (am_lf 96 (a_cvV tT mX12_laysAside 12 1 99)) (am_lf 99 (a_const (nI 0) 100)))) (am_nd 102 (am_lf 100 (a_istore 7 102)) (am_nd 104 (am_lf 102 (a_iload 7 104)) (am_lf 104 (a_aload 0 105))))) (am_nd 110 (am_nd 108 (am_lf 105 (a_get tT 12 0 108)) (am_nd 109 (am_lf 108 (a_const (nI 2) 109)) (am_lf 109 (a_iald tT 110)))) (am_nd 113 (am_lf 110 (a_cmp (fun x y => y ≤ x) 210 113)) (am_nd 114 (am_lf 113 (a_aload 0 114)) (am_lf 114 (a_iload 7 116)))))) (am_nd 129 (am_nd 123 (am_nd 118 (am_lf 116 (a_iload 6 118)) (am_nd 121 (am_lf 118 (a_cvI tT mX12_otherEnd 12 2 121)) (am_lf 121 (a_istore 8 123)))) (am_nd 125 (am_lf 123 (a_iload 8 125)) (am_nd 126 (am_lf 125 (a_const (-1) 126)) (am_lf 126 (a_cmp (fun x y => x = y) 204 129))))) (am_nd 133 (am_nd 130 (am_lf 129 (a_iload 3 130)) (am_nd 132 (am_lf 130 (a_iload 8 132)) (am_lf 132 (a_bin (fun x y => x >>> (y &&& 31)) 133)))) (am_nd 134 (am_lf 133 (a_const (nI 1) 134)) (am_nd 135 (am_lf 134 (a_bin (fun x y => x &&& y) 135)) (am_lf 135 (a_const (nI 1) 136))))))
theorem gX12_seeks_2 : am_Good tT mX12_seeks tX12_seeks_2 := am_nd_ok (am_nd_ok (am_nd_ok (am_nd_ok (am_lf_ok (fun _ => ok_iload dX12_seeks_94 rfl)) (am_nd_ok (am_lf_ok (fun _ => ok_cvV rfl mw_X12_laysAside (ci := 12) rfl rfl wd_572 wd_573 wd_574 dX12_seeks_96 rfl)) (am_lf_ok (fun _ => ok_iconst dX12_seeks_99 cv_iconst_0 rfl)))) (am_nd_ok (am_lf_ok (fun _ => ok_istore dX12_seeks_100 (Nat.le_of_ble_eq_true rfl) rfl)) (am_nd_ok (am_lf_ok (fun _ => ok_iload dX12_seeks_102 rfl)) (am_lf_ok (fun _ => ok_aload_n dX12_seeks_104 rfl rfl))))) (am_nd_ok (am_nd_ok (am_lf_ok (fun _ => ok_get (C := RX12) (TT := TX12) (N := 31) rfl inw_X12 (Nat.le_of_ble_eq_true rfl) wd_448 dX12_seeks_105 rfl)) (am_nd_ok (am_lf_ok (fun _ => ok_iconst dX12_seeks_108 cv_iconst_2 rfl)) (am_lf_ok (fun _ => ok_iald dX12_seeks_109 rfl)))) (am_nd_ok (am_lf_ok (fun _ => ok_cmp_ge dX12_seeks_110 rfl rfl)) (am_nd_ok (am_lf_ok (fun _ => ok_aload_n dX12_seeks_113 rfl rfl)) (am_lf_ok (fun _ => ok_iload dX12_seeks_114 rfl)))))) (am_nd_ok (am_nd_ok (am_nd_ok (am_lf_ok (fun _ => ok_iload dX12_seeks_116 rfl)) (am_nd_ok (am_lf_ok (fun _ => ok_cvI rfl mw_X12_otherEnd (ci := 12) rfl rfl wd_556 wd_557 wd_558 dX12_seeks_118 rfl)) (am_lf_ok (fun _ => ok_istore dX12_seeks_121 (Nat.le_of_ble_eq_true rfl) rfl)))) (am_nd_ok (am_lf_ok (fun _ => ok_iload dX12_seeks_123 rfl)) (am_nd_ok (am_lf_ok (fun _ => ok_iconst dX12_seeks_125 cv_iconst_m1 rfl)) (am_lf_ok (fun _ => ok_cmp_eq dX12_seeks_126 rfl rfl))))) (am_nd_ok (am_nd_ok (am_lf_ok (fun _ => ok_iload_n dX12_seeks_129 rfl rfl)) (am_nd_ok (am_lf_ok (fun _ => ok_iload dX12_seeks_130 rfl)) (am_lf_ok (fun _ => ok_ishr dX12_seeks_132 rfl)))) (am_nd_ok (am_lf_ok (fun _ => ok_iconst dX12_seeks_133 cv_iconst_1 rfl)) (am_nd_ok (am_lf_ok (fun _ => ok_iand dX12_seeks_134 rfl)) (am_lf_ok (fun _ => ok_iconst dX12_seeks_135 cv_iconst_1 rfl))))))
def tX12_seeks_3 : Nat → Option am_Act := am_nd 160 (am_nd 149 (am_nd 143 (am_nd 139 (am_lf 136 (a_cmp (fun x y => x = y) 139 142)) (am_nd 142 (am_lf 139 (a_goto 204)) (am_lf 142 (a_aload 0 143)))) (am_nd 144 (am_lf 143 (a_iload 1 144)) (am_nd 146 (am_lf 144 (a_iload 7 146)) (am_lf 146 (a_cvI tT mX12_crosses 12 2 149))))) (am_nd 155 (am_nd 151 (am_lf 149 (a_istore 9 151)) (am_nd 152 (am_lf 151 (a_aload 0 152)) (am_lf 152 (a_get tT 12 23 155)))) (am_nd 157 (am_lf 155 (a_iload 4 157)) (am_nd 159 (am_lf 157 (a_iload 7 159)) (am_lf 159 (a_iast tT 160)))))) (am_nd 170 (am_nd 167 (am_nd 162 (am_lf 160 (a_iload 9 162)) (am_nd 164 (am_lf 162 (a_const (-2) 164)) (am_lf 164 (a_cmp (fun x y => x = y) 198 167)))) (am_nd 168 (am_lf 167 (a_aload 0 168)) (am_nd 169 (am_lf 168 (a_iload 1 169)) (am_lf 169 (a_iload 2 170))))) (am_nd 174 (am_nd 171 (am_lf 170 (a_iload 3 171)) (am_nd 172 (am_lf 171 (a_const (nI 1) 172)) (am_lf 172 (a_iload 8 174)))) (am_nd 175 (am_lf 174 (a_bin (fun x y => x <<< (y &&& 31)) 175)) (am_nd 176 (am_lf 175 (a_bin (fun x y => x ||| y) 176)) (am_lf 176 (a_iload 4 178))))))
theorem gX12_seeks_3 : am_Good tT mX12_seeks tX12_seeks_3 := am_nd_ok (am_nd_ok (am_nd_ok (am_nd_ok (am_lf_ok (fun _ => ok_cmp_ne dX12_seeks_136 rfl rfl)) (am_nd_ok (am_lf_ok (fun _ => ok_goto dX12_seeks_139 rfl)) (am_lf_ok (fun _ => ok_aload_n dX12_seeks_142 rfl rfl)))) (am_nd_ok (am_lf_ok (fun _ => ok_iload_n dX12_seeks_143 rfl rfl)) (am_nd_ok (am_lf_ok (fun _ => ok_iload dX12_seeks_144 rfl)) (am_lf_ok (fun _ => ok_cvI rfl mw_X12_crosses (ci := 12) rfl rfl wd_575 wd_576 wd_577 dX12_seeks_146 rfl))))) (am_nd_ok (am_nd_ok (am_lf_ok (fun _ => ok_istore dX12_seeks_149 (Nat.le_of_ble_eq_true rfl) rfl)) (am_nd_ok (am_lf_ok (fun _ => ok_aload_n dX12_seeks_151 rfl rfl)) (am_lf_ok (fun _ => ok_get (C := RX12) (TT := TX12) (N := 31) rfl inw_X12 (Nat.le_of_ble_eq_true rfl) wd_607 dX12_seeks_152 rfl)))) (am_nd_ok (am_lf_ok (fun _ => ok_iload dX12_seeks_155 rfl)) (am_nd_ok (am_lf_ok (fun _ => ok_iload dX12_seeks_157 rfl)) (am_lf_ok (fun _ => ok_iast dX12_seeks_159 rfl)))))) (am_nd_ok (am_nd_ok (am_nd_ok (am_lf_ok (fun _ => ok_iload dX12_seeks_160 rfl)) (am_nd_ok (am_lf_ok (fun _ => ok_bipush dX12_seeks_162 cv_bipush_m2 rfl)) (am_lf_ok (fun _ => ok_cmp_eq dX12_seeks_164 rfl rfl)))) (am_nd_ok (am_lf_ok (fun _ => ok_aload_n dX12_seeks_167 rfl rfl)) (am_nd_ok (am_lf_ok (fun _ => ok_iload_n dX12_seeks_168 rfl rfl)) (am_lf_ok (fun _ => ok_iload_n dX12_seeks_169 rfl rfl))))) (am_nd_ok (am_nd_ok (am_lf_ok (fun _ => ok_iload_n dX12_seeks_170 rfl rfl)) (am_nd_ok (am_lf_ok (fun _ => ok_iconst dX12_seeks_171 cv_iconst_1 rfl)) (am_lf_ok (fun _ => ok_iload dX12_seeks_172 rfl)))) (am_nd_ok (am_lf_ok (fun _ => ok_ishl dX12_seeks_174 rfl)) (am_nd_ok (am_lf_ok (fun _ => ok_ior dX12_seeks_175 rfl)) (am_lf_ok (fun _ => ok_iload dX12_seeks_176 rfl))))))
def tX12_seeks_4 : Nat → Option am_Act := am_nd 193 (am_nd 184 (am_nd 180 (am_nd 179 (am_lf 178 (a_const (nI 1) 179)) (am_lf 179 (a_bin (fun x y => x + y) 180))) (am_nd 182 (am_lf 180 (a_iload 5 182)) (am_lf 182 (a_iload 9 184)))) (am_nd 189 (am_nd 186 (am_lf 184 (a_const (nI 100) 186)) (am_lf 186 (a_cmp (fun x y => x = y) 189 193))) (am_nd 190 (am_lf 189 (a_const (nI 0) 190)) (am_lf 190 (a_goto 194))))) (am_nd 199 (am_nd 195 (am_nd 194 (am_lf 193 (a_const (nI 1) 194)) (am_lf 194 (a_bin (fun x y => x + y) 195))) (am_nd 198 (am_lf 195 (a_cvV tT mX12_seeks 12 5 198)) (am_lf 198 (a_aload 0 199)))) (am_nd 204 (am_nd 201 (am_lf 199 (a_iload 4 201)) (am_lf 201 (a_cvV tT mX12_putsBack 12 1 204))) (am_nd 207 (am_lf 204 (a_iinc 7 (nI 1) 207)) (am_nd 210 (am_lf 207 (a_goto 102)) (am_lf 210 (a_ret))))))
theorem gX12_seeks_4 : am_Good tT mX12_seeks tX12_seeks_4 := am_nd_ok (am_nd_ok (am_nd_ok (am_nd_ok (am_lf_ok (fun _ => ok_iconst dX12_seeks_178 cv_iconst_1 rfl)) (am_lf_ok (fun _ => ok_iadd dX12_seeks_179 rfl))) (am_nd_ok (am_lf_ok (fun _ => ok_iload dX12_seeks_180 rfl)) (am_lf_ok (fun _ => ok_iload dX12_seeks_182 rfl)))) (am_nd_ok (am_nd_ok (am_lf_ok (fun _ => ok_bipush dX12_seeks_184 cv_bipush_100 rfl)) (am_lf_ok (fun _ => ok_cmp_ne dX12_seeks_186 rfl rfl))) (am_nd_ok (am_lf_ok (fun _ => ok_iconst dX12_seeks_189 cv_iconst_0 rfl)) (am_lf_ok (fun _ => ok_goto dX12_seeks_190 rfl))))) (am_nd_ok (am_nd_ok (am_nd_ok (am_lf_ok (fun _ => ok_iconst dX12_seeks_193 cv_iconst_1 rfl)) (am_lf_ok (fun _ => ok_iadd dX12_seeks_194 rfl))) (am_nd_ok (am_lf_ok (fun _ => ok_cvV rfl mw_X12_seeks (ci := 12) rfl rfl wd_608 wd_609 wd_610 dX12_seeks_195 rfl)) (am_lf_ok (fun _ => ok_aload_n dX12_seeks_198 rfl rfl)))) (am_nd_ok (am_nd_ok (am_lf_ok (fun _ => ok_iload dX12_seeks_199 rfl)) (am_lf_ok (fun _ => ok_cvV rfl mw_X12_putsBack (ci := 12) rfl rfl wd_578 wd_579 wd_580 dX12_seeks_201 rfl))) (am_nd_ok (am_lf_ok (fun _ => ok_iinc dX12_seeks_204 cv_iconst_1 (Nat.le_of_ble_eq_true rfl) rfl)) (am_nd_ok (am_lf_ok (fun _ => ok_goto dX12_seeks_207 rfl)) (am_lf_ok (fun _ => ok_ret rfl dX12_seeks_210))))))
def tX12_seeks : Nat → Option am_Act := am_nd 94 (am_nd 49 (tX12_seeks_0) (tX12_seeks_1)) (am_nd 136 (tX12_seeks_2) (am_nd 178 (tX12_seeks_3) (tX12_seeks_4)))
theorem gX12_seeks : am_Good tT mX12_seeks tX12_seeks := am_nd_ok (am_nd_ok (gX12_seeks_0) (gX12_seeks_1)) (am_nd_ok (gX12_seeks_2) (am_nd_ok (gX12_seeks_3) (gX12_seeks_4)))
theorem dX12_best_0 : decode cX12_best 0 = .ok (.aload_n 0, 1) := by decide +kernel
theorem dX12_best_1 : decode cX12_best 1 = .ok (.iload_n 1, 1) := by decide +kernel
theorem dX12_best_2 : decode cX12_best 2 = .ok (.invokevirtual 84, 3) := by decide +kernel
theorem dX12_best_5 : decode cX12_best 5 = .ok (.ifCond .eq 40, 3) := by decide +kernel
theorem dX12_best_8 : decode cX12_best 8 = .ok (.iload_n 2, 1) := by decide +kernel
theorem dX12_best_9 : decode cX12_best 9 = .ok (.invokestatic 68, 3) := by decide +kernel
theorem dX12_best_12 : decode cX12_best 12 = .ok (.ifCond .eq 33, 3) := by decide +kernel
theorem dX12_best_15 : decode cX12_best 15 = .ok (.aload_n 0, 1) := by decide +kernel
theorem dX12_best_16 : decode cX12_best 16 = .ok (.iload_n 1, 1) := by decide +kernel
theorem dX12_best_17 : decode cX12_best 17 = .ok (.iconst 0, 1) := by decide +kernel
theorem dX12_best_18 : decode cX12_best 18 = .ok (.invokevirtual 76, 3) := by decide +kernel
theorem dX12_best_21 : decode cX12_best 21 = .ok (.iload_n 2, 1) := by decide +kernel
theorem dX12_best_22 : decode cX12_best 22 = .ok (.if_icmp .eq 23, 3) := by decide +kernel
theorem dX12_best_25 : decode cX12_best 25 = .ok (.iload_n 3, 1) := by decide +kernel
theorem dX12_best_26 : decode cX12_best 26 = .ok (.iconst 0, 1) := by decide +kernel
theorem dX12_best_27 : decode cX12_best 27 = .ok (.iconst 1, 1) := by decide +kernel
theorem dX12_best_28 : decode cX12_best 28 = .ok (.invokestatic 56, 3) := by decide +kernel
theorem dX12_best_31 : decode cX12_best 31 = .ok (.ifCond .ne 16, 3) := by decide +kernel
theorem dX12_best_34 : decode cX12_best 34 = .ok (.iload_n 3, 1) := by decide +kernel
theorem dX12_best_35 : decode cX12_best 35 = .ok (.bipush 10, 2) := by decide +kernel
theorem dX12_best_37 : decode cX12_best 37 = .ok (.bipush 16, 2) := by decide +kernel
theorem dX12_best_39 : decode cX12_best 39 = .ok (.invokestatic 56, 3) := by decide +kernel
theorem dX12_best_42 : decode cX12_best 42 = .ok (.ifCond .ne 5, 3) := by decide +kernel
theorem dX12_best_45 : decode cX12_best 45 = .ok (.iconst (-1), 1) := by decide +kernel
theorem dX12_best_46 : decode cX12_best 46 = .ok (.ireturn, 1) := by decide +kernel
theorem dX12_best_47 : decode cX12_best 47 = .ok (.aload_n 0, 1) := by decide +kernel
theorem dX12_best_48 : decode cX12_best 48 = .ok (.iconst (-1), 1) := by decide +kernel
theorem dX12_best_49 : decode cX12_best 49 = .ok (.putfield 280, 3) := by decide +kernel
theorem dX12_best_52 : decode cX12_best 52 = .ok (.aload_n 0, 1) := by decide +kernel
theorem dX12_best_53 : decode cX12_best 53 = .ok (.iconst 0, 1) := by decide +kernel
theorem dX12_best_54 : decode cX12_best 54 = .ok (.putfield 283, 3) := by decide +kernel
theorem dX12_best_57 : decode cX12_best 57 = .ok (.aload_n 0, 1) := by decide +kernel
theorem dX12_best_58 : decode cX12_best 58 = .ok (.iload_n 1, 1) := by decide +kernel
theorem dX12_best_59 : decode cX12_best 59 = .ok (.iload_n 2, 1) := by decide +kernel
theorem dX12_best_60 : decode cX12_best 60 = .ok (.iconst 1, 1) := by decide +kernel
theorem dX12_best_61 : decode cX12_best 61 = .ok (.aload_n 0, 1) := by decide +kernel
theorem dX12_best_62 : decode cX12_best 62 = .ok (.iload_n 1, 1) := by decide +kernel
theorem dX12_best_63 : decode cX12_best 63 = .ok (.iconst 0, 1) := by decide +kernel
theorem dX12_best_64 : decode cX12_best 64 = .ok (.invokevirtual 76, 3) := by decide +kernel
theorem dX12_best_67 : decode cX12_best 67 = .ok (.ishl, 1) := by decide +kernel
theorem dX12_best_68 : decode cX12_best 68 = .ok (.iconst 0, 1) := by decide +kernel
theorem dX12_best_69 : decode cX12_best 69 = .ok (.iconst 0, 1) := by decide +kernel
theorem dX12_best_70 : decode cX12_best 70 = .ok (.invokevirtual 286, 3) := by decide +kernel
theorem dX12_best_73 : decode cX12_best 73 = .ok (.aload_n 0, 1) := by decide +kernel
theorem dX12_best_74 : decode cX12_best 74 = .ok (.getfield 280, 3) := by decide +kernel
theorem dX12_best_77 : decode cX12_best 77 = .ok (.iconst (-1), 1) := by decide +kernel
theorem dX12_best_78 : decode cX12_best 78 = .ok (.if_icmp .eq 7, 3) := by decide +kernel
theorem dX12_best_81 : decode cX12_best 81 = .ok (.iload_n 3, 1) := by decide +kernel
theorem dX12_best_82 : decode cX12_best 82 = .ok (.ifCond .ne 8, 3) := by decide +kernel
theorem dX12_best_85 : decode cX12_best 85 = .ok (.aload_n 0, 1) := by decide +kernel
theorem dX12_best_86 : decode cX12_best 86 = .ok (.getfield 280, 3) := by decide +kernel
theorem dX12_best_89 : decode cX12_best 89 = .ok (.ireturn, 1) := by decide +kernel
theorem dX12_best_90 : decode cX12_best 90 = .ok (.iload_n 3, 1) := by decide +kernel
theorem dX12_best_91 : decode cX12_best 91 = .ok (.iconst 1, 1) := by decide +kernel
theorem dX12_best_92 : decode cX12_best 92 = .ok (.if_icmp .ne 10, 3) := by decide +kernel
theorem dX12_best_95 : decode cX12_best 95 = .ok (.aload_n 0, 1) := by decide +kernel
theorem dX12_best_96 : decode cX12_best 96 = .ok (.getfield 283, 3) := by decide +kernel
theorem dX12_best_99 : decode cX12_best 99 = .ok (.goto 32, 3) := by decide +kernel
theorem dX12_best_102 : decode cX12_best 102 = .ok (.iload_n 3, 1) := by decide +kernel
theorem dX12_best_103 : decode cX12_best 103 = .ok (.bipush 10, 2) := by decide +kernel
theorem dX12_best_105 : decode cX12_best 105 = .ok (.bipush 9, 2) := by decide +kernel
theorem dX12_best_107 : decode cX12_best 107 = .ok (.aload_n 0, 1) := by decide +kernel
theorem dX12_best_108 : decode cX12_best 108 = .ok (.getfield 283, 3) := by decide +kernel
theorem dX12_best_111 : decode cX12_best 111 = .ok (.iadd, 1) := by decide +kernel
theorem dX12_best_112 : decode cX12_best 112 = .ok (.invokestatic 56, 3) := by decide +kernel
theorem dX12_best_115 : decode cX12_best 115 = .ok (.ifCond .eq 15, 3) := by decide +kernel
theorem dX12_best_118 : decode cX12_best 118 = .ok (.aload_n 0, 1) := by decide +kernel
theorem dX12_best_119 : decode cX12_best 119 = .ok (.getfield 44, 3) := by decide +kernel
theorem dX12_best_122 : decode cX12_best 122 = .ok (.iload_n 3, 1) := by decide +kernel
theorem dX12_best_123 : decode cX12_best 123 = .ok (.bipush 10, 2) := by decide +kernel
theorem dX12_best_125 : decode cX12_best 125 = .ok (.isub, 1) := by decide +kernel
theorem dX12_best_126 : decode cX12_best 126 = .ok (.iaload, 1) := by decide +kernel
theorem dX12_best_127 : decode cX12_best 127 = .ok (.goto 4, 3) := by decide +kernel
theorem dX12_best_130 : decode cX12_best 130 = .ok (.iconst (-1), 1) := by decide +kernel
theorem dX12_best_131 : decode cX12_best 131 = .ok (.ireturn, 1) := by decide +kernel
def tX12_best_0 : Nat → Option am_Act := am_nd 22 (am_nd 12 (am_nd 5 (am_nd 1 (am_lf 0 (a_aload 0 1)) (am_nd 2 (am_lf 1 (a_iload 1 2)) (am_lf 2 (a_cvI tT mX12_isPerson 12 1 5)))) (am_nd 8 (am_lf 5 (a_if (fun x => x = nI 0) 45 8)) (am_nd 9 (am_lf 8 (a_iload 2 9)) (am_lf 9 (a_csI mX12_isPlace 1 12))))) (am_nd 17 (am_nd 15 (am_lf 12 (a_if (fun x => x = nI 0) 45 15)) (am_nd 16 (am_lf 15 (a_aload 0 16)) (am_lf 16 (a_iload 1 17)))) (am_nd 18 (am_lf 17 (a_const (nI 0) 18)) (am_nd 21 (am_lf 18 (a_cvI tT mX12_own 12 2 21)) (am_lf 21 (a_iload 2 22)))))) (am_nd 34 (am_nd 27 (am_nd 25 (am_lf 22 (a_cmp (fun x y => x = y) 45 25)) (am_nd 26 (am_lf 25 (a_iload 3 26)) (am_lf 26 (a_const (nI 0) 27)))) (am_nd 28 (am_lf 27 (a_const (nI 1) 28)) (am_nd 31 (am_lf 28 (a_csI mX12_isIn 3 31)) (am_lf 31 (a_if (fun x => x = nI 0) 34 47))))) (am_nd 39 (am_nd 35 (am_lf 34 (a_iload 3 35)) (am_nd 37 (am_lf 35 (a_const (nI 10) 37)) (am_lf 37 (a_const (nI 16) 39)))) (am_nd 42 (am_lf 39 (a_csI mX12_isIn 3 42)) (am_nd 45 (am_lf 42 (a_if (fun x => x = nI 0) 45 47)) (am_lf 45 (a_const (-1) 46))))))
theorem gX12_best_0 : am_Good tT mX12_best tX12_best_0 := am_nd_ok (am_nd_ok (am_nd_ok (am_nd_ok (am_lf_ok (fun _ => ok_aload_n dX12_best_0 rfl rfl)) (am_nd_ok (am_lf_ok (fun _ => ok_iload_n dX12_best_1 rfl rfl)) (am_lf_ok (fun _ => ok_cvI rfl mw_X12_isPerson (ci := 12) rfl rfl wd_468 wd_469 wd_470 dX12_best_2 rfl)))) (am_nd_ok (am_lf_ok (fun _ => ok_if_eq dX12_best_5 rfl rfl)) (am_nd_ok (am_lf_ok (fun _ => ok_iload_n dX12_best_8 rfl rfl)) (am_lf_ok (fun _ => ok_csI rfl mw_X12_isPlace wd_457 wd_458 dX12_best_9 rfl))))) (am_nd_ok (am_nd_ok (am_lf_ok (fun _ => ok_if_eq dX12_best_12 rfl rfl)) (am_nd_ok (am_lf_ok (fun _ => ok_aload_n dX12_best_15 rfl rfl)) (am_lf_ok (fun _ => ok_iload_n dX12_best_16 rfl rfl)))) (am_nd_ok (am_lf_ok (fun _ => ok_iconst dX12_best_17 cv_iconst_0 rfl)) (am_nd_ok (am_lf_ok (fun _ => ok_cvI rfl mw_X12_own (ci := 12) rfl rfl wd_462 wd_463 wd_464 dX12_best_18 rfl)) (am_lf_ok (fun _ => ok_iload_n dX12_best_21 rfl rfl)))))) (am_nd_ok (am_nd_ok (am_nd_ok (am_lf_ok (fun _ => ok_cmp_eq dX12_best_22 rfl rfl)) (am_nd_ok (am_lf_ok (fun _ => ok_iload_n dX12_best_25 rfl rfl)) (am_lf_ok (fun _ => ok_iconst dX12_best_26 cv_iconst_0 rfl)))) (am_nd_ok (am_lf_ok (fun _ => ok_iconst dX12_best_27 cv_iconst_1 rfl)) (am_nd_ok (am_lf_ok (fun _ => ok_csI rfl mw_X12_isIn wd_449 wd_450 dX12_best_28 rfl)) (am_lf_ok (fun _ => ok_if_ne dX12_best_31 rfl rfl))))) (am_nd_ok (am_nd_ok (am_lf_ok (fun _ => ok_iload_n dX12_best_34 rfl rfl)) (am_nd_ok (am_lf_ok (fun _ => ok_bipush dX12_best_35 cv_bipush_10 rfl)) (am_lf_ok (fun _ => ok_bipush dX12_best_37 cv_bipush_16 rfl)))) (am_nd_ok (am_lf_ok (fun _ => ok_csI rfl mw_X12_isIn wd_449 wd_450 dX12_best_39 rfl)) (am_nd_ok (am_lf_ok (fun _ => ok_if_ne dX12_best_42 rfl rfl)) (am_lf_ok (fun _ => ok_iconst dX12_best_45 cv_iconst_m1 rfl))))))
def tX12_best_1 : Nat → Option am_Act := am_nd 62 (am_nd 54 (am_nd 49 (am_nd 47 (am_lf 46 (a_iret)) (am_nd 48 (am_lf 47 (a_aload 0 48)) (am_lf 48 (a_const (-1) 49)))) (am_nd 52 (am_lf 49 (a_put tT 12 25 52)) (am_nd 53 (am_lf 52 (a_aload 0 53)) (am_lf 53 (a_const (nI 0) 54))))) (am_nd 59 (am_nd 57 (am_lf 54 (a_put tT 12 26 57)) (am_nd 58 (am_lf 57 (a_aload 0 58)) (am_lf 58 (a_iload 1 59)))) (am_nd 60 (am_lf 59 (a_iload 2 60)) (am_nd 61 (am_lf 60 (a_const (nI 1) 61)) (am_lf 61 (a_aload 0 62)))))) (am_nd 70 (am_nd 67 (am_nd 63 (am_lf 62 (a_iload 1 63)) (am_nd 64 (am_lf 63 (a_const (nI 0) 64)) (am_lf 64 (a_cvI tT mX12_own 12 2 67)))) (am_nd 68 (am_lf 67 (a_bin (fun x y => x <<< (y &&& 31)) 68)) (am_nd 69 (am_lf 68 (a_const (nI 0) 69)) (am_lf 69 (a_const (nI 0) 70))))) (am_nd 77 (am_nd 73 (am_lf 70 (a_cvV tT mX12_seeks 12 5 73)) (am_nd 74 (am_lf 73 (a_aload 0 74)) (am_lf 74 (a_get tT 12 25 77)))) (am_nd 78 (am_lf 77 (a_const (-1) 78)) (am_nd 81 (am_lf 78 (a_cmp (fun x y => x = y) 85 81)) (am_lf 81 (a_iload 3 82))))))
theorem gX12_best_1 : am_Good tT mX12_best tX12_best_1 := am_nd_ok (am_nd_ok (am_nd_ok (am_nd_ok (am_lf_ok (fun _ => ok_iret rfl dX12_best_46)) (am_nd_ok (am_lf_ok (fun _ => ok_aload_n dX12_best_47 rfl rfl)) (am_lf_ok (fun _ => ok_iconst dX12_best_48 cv_iconst_m1 rfl)))) (am_nd_ok (am_lf_ok (fun _ => ok_put (C := RX12) (TT := TX12) (N := 31) (ty0 := tyX12) rfl inw_X12 tyX12_ok nmX12 (Nat.le_of_ble_eq_true rfl) rfl rfl wd_604 dX12_best_49 rfl)) (am_nd_ok (am_lf_ok (fun _ => ok_aload_n dX12_best_52 rfl rfl)) (am_lf_ok (fun _ => ok_iconst dX12_best_53 cv_iconst_0 rfl))))) (am_nd_ok (am_nd_ok (am_lf_ok (fun _ => ok_put (C := RX12) (TT := TX12) (N := 31) (ty0 := tyX12) rfl inw_X12 tyX12_ok nmX12 (Nat.le_of_ble_eq_true rfl) rfl rfl wd_605 dX12_best_54 rfl)) (am_nd_ok (am_lf_ok (fun _ => ok_aload_n dX12_best_57 rfl rfl)) (am_lf_ok (fun _ => ok_iload_n dX12_best_58 rfl rfl)))) (am_nd_ok (am_lf_ok (fun _ => ok_iload_n dX12_best_59 rfl rfl)) (am_nd_ok (am_lf_ok (fun _ => ok_iconst dX12_best_60 cv_iconst_1 rfl)) (am_lf_ok (fun _ => ok_aload_n dX12_best_61 rfl rfl)))))) (am_nd_ok (am_nd_ok (am_nd_ok (am_lf_ok (fun _ => ok_iload_n dX12_best_62 rfl rfl)) (am_nd_ok (am_lf_ok (fun _ => ok_iconst dX12_best_63 cv_iconst_0 rfl)) (am_lf_ok (fun _ => ok_cvI rfl mw_X12_own (ci := 12) rfl rfl wd_462 wd_463 wd_464 dX12_best_64 rfl)))) (am_nd_ok (am_lf_ok (fun _ => ok_ishl dX12_best_67 rfl)) (am_nd_ok (am_lf_ok (fun _ => ok_iconst dX12_best_68 cv_iconst_0 rfl)) (am_lf_ok (fun _ => ok_iconst dX12_best_69 cv_iconst_0 rfl))))) (am_nd_ok (am_nd_ok (am_lf_ok (fun _ => ok_cvV rfl mw_X12_seeks (ci := 12) rfl rfl wd_608 wd_609 wd_610 dX12_best_70 rfl)) (am_nd_ok (am_lf_ok (fun _ => ok_aload_n dX12_best_73 rfl rfl)) (am_lf_ok (fun _ => ok_get (C := RX12) (TT := TX12) (N := 31) rfl inw_X12 (Nat.le_of_ble_eq_true rfl) wd_604 dX12_best_74 rfl)))) (am_nd_ok (am_lf_ok (fun _ => ok_iconst dX12_best_77 cv_iconst_m1 rfl)) (am_nd_ok (am_lf_ok (fun _ => ok_cmp_eq dX12_best_78 rfl rfl)) (am_lf_ok (fun _ => ok_iload_n dX12_best_81 rfl rfl))))))
def tX12_best_2 : Nat → Option am_Act := am_nd 105 (am_nd 92 (am_nd 89 (am_nd 85 (am_lf 82 (a_if (fun x => x = nI 0) 85 90)) (am_nd 86 (am_lf 85 (a_aload 0 86)) (am_lf 86 (a_get tT 12 25 89)))) (am_nd 90 (am_lf 89 (a_iret)) (am_nd 91 (am_lf 90 (a_iload 3 91)) (am_lf 91 (a_const (nI 1) 92))))) (am_nd 99 (am_nd 95 (am_lf 92 (a_cmp (fun x y => x = y) 95 102)) (am_nd 96 (am_lf 95 (a_aload 0 96)) (am_lf 96 (a_get tT 12 26 99)))) (am_nd 102 (am_lf 99 (a_goto 131)) (am_nd 103 (am_lf 102 (a_iload 3 103)) (am_lf 103 (a_const (nI 10) 105)))))) (am_nd 118 (am_nd 111 (am_nd 107 (am_lf 105 (a_const (nI 9) 107)) (am_nd 108 (am_lf 107 (a_aload 0 108)) (am_lf 108 (a_get tT 12 26 111)))) (am_nd 112 (am_lf 111 (a_bin (fun x y => x + y) 112)) (am_nd 115 (am_lf 112 (a_csI mX12_isIn 3 115)) (am_lf 115 (a_if (fun x => x = nI 0) 130 118))))) (am_nd 123 (am_nd 119 (am_lf 118 (a_aload 0 119)) (am_nd 122 (am_lf 119 (a_get tT 12 24 122)) (am_lf 122 (a_iload 3 123)))) (am_nd 125 (am_lf 123 (a_const (nI 10) 125)) (am_nd 126 (am_lf 125 (a_bin (fun x y => x - y) 126)) (am_lf 126 (a_iald tT 127))))))
theorem gX12_best_2 : am_Good tT mX12_best tX12_best_2 := am_nd_ok (am_nd_ok (am_nd_ok (am_nd_ok (am_lf_ok (fun _ => ok_if_ne dX12_best_82 rfl rfl)) (am_nd_ok (am_lf_ok (fun _ => ok_aload_n dX12_best_85 rfl rfl)) (am_lf_ok (fun _ => ok_get (C := RX12) (TT := TX12) (N := 31) rfl inw_X12 (Nat.le_of_ble_eq_true rfl) wd_604 dX12_best_86 rfl)))) (am_nd_ok (am_lf_ok (fun _ => ok_iret rfl dX12_best_89)) (am_nd_ok (am_lf_ok (fun _ => ok_iload_n dX12_best_90 rfl rfl)) (am_lf_ok (fun _ => ok_iconst dX12_best_91 cv_iconst_1 rfl))))) (am_nd_ok (am_nd_ok (am_lf_ok (fun _ => ok_cmp_ne dX12_best_92 rfl rfl)) (am_nd_ok (am_lf_ok (fun _ => ok_aload_n dX12_best_95 rfl rfl)) (am_lf_ok (fun _ => ok_get (C := RX12) (TT := TX12) (N := 31) rfl inw_X12 (Nat.le_of_ble_eq_true rfl) wd_605 dX12_best_96 rfl)))) (am_nd_ok (am_lf_ok (fun _ => ok_goto dX12_best_99 rfl)) (am_nd_ok (am_lf_ok (fun _ => ok_iload_n dX12_best_102 rfl rfl)) (am_lf_ok (fun _ => ok_bipush dX12_best_103 cv_bipush_10 rfl)))))) (am_nd_ok (am_nd_ok (am_nd_ok (am_lf_ok (fun _ => ok_bipush dX12_best_105 cv_bipush_9 rfl)) (am_nd_ok (am_lf_ok (fun _ => ok_aload_n dX12_best_107 rfl rfl)) (am_lf_ok (fun _ => ok_get (C := RX12) (TT := TX12) (N := 31) rfl inw_X12 (Nat.le_of_ble_eq_true rfl) wd_605 dX12_best_108 rfl)))) (am_nd_ok (am_lf_ok (fun _ => ok_iadd dX12_best_111 rfl)) (am_nd_ok (am_lf_ok (fun _ => ok_csI rfl mw_X12_isIn wd_449 wd_450 dX12_best_112 rfl)) (am_lf_ok (fun _ => ok_if_eq dX12_best_115 rfl rfl))))) (am_nd_ok (am_nd_ok (am_lf_ok (fun _ => ok_aload_n dX12_best_118 rfl rfl)) (am_nd_ok (am_lf_ok (fun _ => ok_get (C := RX12) (TT := TX12) (N := 31) rfl inw_X12 (Nat.le_of_ble_eq_true rfl) wd_606 dX12_best_119 rfl)) (am_lf_ok (fun _ => ok_iload_n dX12_best_122 rfl rfl)))) (am_nd_ok (am_lf_ok (fun _ => ok_bipush dX12_best_123 cv_bipush_10 rfl)) (am_nd_ok (am_lf_ok (fun _ => ok_isub dX12_best_125 rfl)) (am_lf_ok (fun _ => ok_iald dX12_best_126 rfl))))))
def tX12_best_3 : Nat → Option am_Act := am_nd 130 (am_lf 127 (a_goto 131)) (am_nd 131 (am_lf 130 (a_const (-1) 131)) (am_lf 131 (a_iret)))
theorem gX12_best_3 : am_Good tT mX12_best tX12_best_3 := am_nd_ok (am_lf_ok (fun _ => ok_goto dX12_best_127 rfl)) (am_nd_ok (am_lf_ok (fun _ => ok_iconst dX12_best_130 cv_iconst_m1 rfl)) (am_lf_ok (fun _ => ok_iret rfl dX12_best_131)))
def tX12_best : Nat → Option am_Act := am_nd 82 (am_nd 46 (tX12_best_0) (tX12_best_1)) (am_nd 127 (tX12_best_2) (tX12_best_3))
theorem gX12_best : am_Good tT mX12_best tX12_best := am_nd_ok (am_nd_ok (gX12_best_0) (gX12_best_1)) (am_nd_ok (gX12_best_2) (gX12_best_3))
theorem dX12_round_0 : decode cX12_round 0 = .ok (.iload_n 1, 1) := by decide +kernel
theorem dX12_round_1 : decode cX12_round 1 = .ok (.iconst (-1), 1) := by decide +kernel
theorem dX12_round_2 : decode cX12_round 2 = .ok (.if_icmp .ne 13, 3) := by decide +kernel
theorem dX12_round_5 : decode cX12_round 5 = .ok (.aload_n 0, 1) := by decide +kernel
theorem dX12_round_6 : decode cX12_round 6 = .ok (.getfield 7, 3) := by decide +kernel
theorem dX12_round_9 : decode cX12_round 9 = .ok (.bipush 8, 2) := by decide +kernel
theorem dX12_round_11 : decode cX12_round 11 = .ok (.iconst 0, 1) := by decide +kernel
theorem dX12_round_12 : decode cX12_round 12 = .ok (.iastore, 1) := by decide +kernel
theorem dX12_round_13 : decode cX12_round 13 = .ok (.iconst 0, 1) := by decide +kernel
theorem dX12_round_14 : decode cX12_round 14 = .ok (.ireturn, 1) := by decide +kernel
theorem dX12_round_15 : decode cX12_round 15 = .ok (.aload_n 0, 1) := by decide +kernel
theorem dX12_round_16 : decode cX12_round 16 = .ok (.iload_n 1, 1) := by decide +kernel
theorem dX12_round_17 : decode cX12_round 17 = .ok (.invokevirtual 243, 3) := by decide +kernel
theorem dX12_round_20 : decode cX12_round 20 = .ok (.ifCond .eq 15, 3) := by decide +kernel
theorem dX12_round_23 : decode cX12_round 23 = .ok (.aload_n 0, 1) := by decide +kernel
theorem dX12_round_24 : decode cX12_round 24 = .ok (.getfield 7, 3) := by decide +kernel
theorem dX12_round_27 : decode cX12_round 27 = .ok (.bipush 8, 2) := by decide +kernel
theorem dX12_round_29 : decode cX12_round 29 = .ok (.iaload, 1) := by decide +kernel
theorem dX12_round_30 : decode cX12_round 30 = .ok (.bipush 12, 2) := by decide +kernel
theorem dX12_round_32 : decode cX12_round 32 = .ok (.if_icmp .ne 5, 3) := by decide +kernel
theorem dX12_round_35 : decode cX12_round 35 = .ok (.iconst (-1), 1) := by decide +kernel
theorem dX12_round_36 : decode cX12_round 36 = .ok (.ireturn, 1) := by decide +kernel
theorem dX12_round_37 : decode cX12_round 37 = .ok (.aload_n 0, 1) := by decide +kernel
theorem dX12_round_38 : decode cX12_round 38 = .ok (.getfield 7, 3) := by decide +kernel
theorem dX12_round_41 : decode cX12_round 41 = .ok (.bipush 75, 2) := by decide +kernel
theorem dX12_round_43 : decode cX12_round 43 = .ok (.aload_n 0, 1) := by decide +kernel
theorem dX12_round_44 : decode cX12_round 44 = .ok (.getfield 7, 3) := by decide +kernel
theorem dX12_round_47 : decode cX12_round 47 = .ok (.bipush 8, 2) := by decide +kernel
theorem dX12_round_49 : decode cX12_round 49 = .ok (.iaload, 1) := by decide +kernel
theorem dX12_round_50 : decode cX12_round 50 = .ok (.iadd, 1) := by decide +kernel
theorem dX12_round_51 : decode cX12_round 51 = .ok (.iload_n 1, 1) := by decide +kernel
theorem dX12_round_52 : decode cX12_round 52 = .ok (.iastore, 1) := by decide +kernel
theorem dX12_round_53 : decode cX12_round 53 = .ok (.aload_n 0, 1) := by decide +kernel
theorem dX12_round_54 : decode cX12_round 54 = .ok (.getfield 7, 3) := by decide +kernel
theorem dX12_round_57 : decode cX12_round 57 = .ok (.bipush 8, 2) := by decide +kernel
theorem dX12_round_59 : decode cX12_round 59 = .ok (.dup2, 1) := by decide +kernel
theorem dX12_round_60 : decode cX12_round 60 = .ok (.iaload, 1) := by decide +kernel
theorem dX12_round_61 : decode cX12_round 61 = .ok (.iconst 1, 1) := by decide +kernel
theorem dX12_round_62 : decode cX12_round 62 = .ok (.iadd, 1) := by decide +kernel
theorem dX12_round_63 : decode cX12_round 63 = .ok (.iastore, 1) := by decide +kernel
theorem dX12_round_64 : decode cX12_round 64 = .ok (.aload_n 0, 1) := by decide +kernel
theorem dX12_round_65 : decode cX12_round 65 = .ok (.getfield 7, 3) := by decide +kernel
theorem dX12_round_68 : decode cX12_round 68 = .ok (.bipush 8, 2) := by decide +kernel
theorem dX12_round_70 : decode cX12_round 70 = .ok (.iaload, 1) := by decide +kernel
theorem dX12_round_71 : decode cX12_round 71 = .ok (.ireturn, 1) := by decide +kernel
def tX12_round_0 : Nat → Option am_Act := am_nd 17 (am_nd 11 (am_nd 5 (am_nd 1 (am_lf 0 (a_iload 1 1)) (am_nd 2 (am_lf 1 (a_const (-1) 2)) (am_lf 2 (a_cmp (fun x y => x = y) 5 15)))) (am_nd 6 (am_lf 5 (a_aload 0 6)) (am_nd 9 (am_lf 6 (a_get tT 12 0 9)) (am_lf 9 (a_const (nI 8) 11))))) (am_nd 14 (am_nd 12 (am_lf 11 (a_const (nI 0) 12)) (am_nd 13 (am_lf 12 (a_iast tT 13)) (am_lf 13 (a_const (nI 0) 14)))) (am_nd 15 (am_lf 14 (a_iret)) (am_nd 16 (am_lf 15 (a_aload 0 16)) (am_lf 16 (a_iload 1 17)))))) (am_nd 30 (am_nd 24 (am_nd 20 (am_lf 17 (a_cvI tT mX12_isBridge 12 1 20)) (am_nd 23 (am_lf 20 (a_if (fun x => x = nI 0) 35 23)) (am_lf 23 (a_aload 0 24)))) (am_nd 27 (am_lf 24 (a_get tT 12 0 27)) (am_nd 29 (am_lf 27 (a_const (nI 8) 29)) (am_lf 29 (a_iald tT 30))))) (am_nd 36 (am_nd 32 (am_lf 30 (a_const (nI 12) 32)) (am_nd 35 (am_lf 32 (a_cmp (fun x y => x = y) 35 37)) (am_lf 35 (a_const (-1) 36)))) (am_nd 37 (am_lf 36 (a_iret)) (am_nd 38 (am_lf 37 (a_aload 0 38)) (am_lf 38 (a_get tT 12 0 41))))))
theorem gX12_round_0 : am_Good tT mX12_round tX12_round_0 := am_nd_ok (am_nd_ok (am_nd_ok (am_nd_ok (am_lf_ok (fun _ => ok_iload_n dX12_round_0 rfl rfl)) (am_nd_ok (am_lf_ok (fun _ => ok_iconst dX12_round_1 cv_iconst_m1 rfl)) (am_lf_ok (fun _ => ok_cmp_ne dX12_round_2 rfl rfl)))) (am_nd_ok (am_lf_ok (fun _ => ok_aload_n dX12_round_5 rfl rfl)) (am_nd_ok (am_lf_ok (fun _ => ok_get (C := RX12) (TT := TX12) (N := 31) rfl inw_X12 (Nat.le_of_ble_eq_true rfl) wd_448 dX12_round_6 rfl)) (am_lf_ok (fun _ => ok_bipush dX12_round_9 cv_bipush_8 rfl))))) (am_nd_ok (am_nd_ok (am_lf_ok (fun _ => ok_iconst dX12_round_11 cv_iconst_0 rfl)) (am_nd_ok (am_lf_ok (fun _ => ok_iast dX12_round_12 rfl)) (am_lf_ok (fun _ => ok_iconst dX12_round_13 cv_iconst_0 rfl)))) (am_nd_ok (am_lf_ok (fun _ => ok_iret rfl dX12_round_14)) (am_nd_ok (am_lf_ok (fun _ => ok_aload_n dX12_round_15 rfl rfl)) (am_lf_ok (fun _ => ok_iload_n dX12_round_16 rfl rfl)))))) (am_nd_ok (am_nd_ok (am_nd_ok (am_lf_ok (fun _ => ok_cvI rfl mw_X12_isBridge (ci := 12) rfl rfl wd_569 wd_570 wd_571 dX12_round_17 rfl)) (am_nd_ok (am_lf_ok (fun _ => ok_if_eq dX12_round_20 rfl rfl)) (am_lf_ok (fun _ => ok_aload_n dX12_round_23 rfl rfl)))) (am_nd_ok (am_lf_ok (fun _ => ok_get (C := RX12) (TT := TX12) (N := 31) rfl inw_X12 (Nat.le_of_ble_eq_true rfl) wd_448 dX12_round_24 rfl)) (am_nd_ok (am_lf_ok (fun _ => ok_bipush dX12_round_27 cv_bipush_8 rfl)) (am_lf_ok (fun _ => ok_iald dX12_round_29 rfl))))) (am_nd_ok (am_nd_ok (am_lf_ok (fun _ => ok_bipush dX12_round_30 cv_bipush_12 rfl)) (am_nd_ok (am_lf_ok (fun _ => ok_cmp_ne dX12_round_32 rfl rfl)) (am_lf_ok (fun _ => ok_iconst dX12_round_35 cv_iconst_m1 rfl)))) (am_nd_ok (am_lf_ok (fun _ => ok_iret rfl dX12_round_36)) (am_nd_ok (am_lf_ok (fun _ => ok_aload_n dX12_round_37 rfl rfl)) (am_lf_ok (fun _ => ok_get (C := RX12) (TT := TX12) (N := 31) rfl inw_X12 (Nat.le_of_ble_eq_true rfl) wd_448 dX12_round_38 rfl))))))
def tX12_round_1 : Nat → Option am_Act := am_nd 57 (am_nd 50 (am_nd 44 (am_nd 43 (am_lf 41 (a_const (nI 75) 43)) (am_lf 43 (a_aload 0 44))) (am_nd 47 (am_lf 44 (a_get tT 12 0 47)) (am_nd 49 (am_lf 47 (a_const (nI 8) 49)) (am_lf 49 (a_iald tT 50))))) (am_nd 52 (am_nd 51 (am_lf 50 (a_bin (fun x y => x + y) 51)) (am_lf 51 (a_iload 1 52))) (am_nd 53 (am_lf 52 (a_iast tT 53)) (am_nd 54 (am_lf 53 (a_aload 0 54)) (am_lf 54 (a_get tT 12 0 57)))))) (am_nd 63 (am_nd 60 (am_nd 59 (am_lf 57 (a_const (nI 8) 59)) (am_lf 59 (a_dup2 60))) (am_nd 61 (am_lf 60 (a_iald tT 61)) (am_nd 62 (am_lf 61 (a_const (nI 1) 62)) (am_lf 62 (a_bin (fun x y => x + y) 63))))) (am_nd 68 (am_nd 64 (am_lf 63 (a_iast tT 64)) (am_nd 65 (am_lf 64 (a_aload 0 65)) (am_lf 65 (a_get tT 12 0 68)))) (am_nd 70 (am_lf 68 (a_const (nI 8) 70)) (am_nd 71 (am_lf 70 (a_iald tT 71)) (am_lf 71 (a_iret))))))
theorem gX12_round_1 : am_Good tT mX12_round tX12_round_1 := am_nd_ok (am_nd_ok (am_nd_ok (am_nd_ok (am_lf_ok (fun _ => ok_bipush dX12_round_41 cv_bipush_75 rfl)) (am_lf_ok (fun _ => ok_aload_n dX12_round_43 rfl rfl))) (am_nd_ok (am_lf_ok (fun _ => ok_get (C := RX12) (TT := TX12) (N := 31) rfl inw_X12 (Nat.le_of_ble_eq_true rfl) wd_448 dX12_round_44 rfl)) (am_nd_ok (am_lf_ok (fun _ => ok_bipush dX12_round_47 cv_bipush_8 rfl)) (am_lf_ok (fun _ => ok_iald dX12_round_49 rfl))))) (am_nd_ok (am_nd_ok (am_lf_ok (fun _ => ok_iadd dX12_round_50 rfl)) (am_lf_ok (fun _ => ok_iload_n dX12_round_51 rfl rfl))) (am_nd_ok (am_lf_ok (fun _ => ok_iast dX12_round_52 rfl)) (am_nd_ok (am_lf_ok (fun _ => ok_aload_n dX12_round_53 rfl rfl)) (am_lf_ok (fun _ => ok_get (C := RX12) (TT := TX12) (N := 31) rfl inw_X12 (Nat.le_of_ble_eq_true rfl) wd_448 dX12_round_54 rfl)))))) (am_nd_ok (am_nd_ok (am_nd_ok (am_lf_ok (fun _ => ok_bipush dX12_round_57 cv_bipush_8 rfl)) (am_lf_ok (fun _ => ok_dup2 dX12_round_59 rfl))) (am_nd_ok (am_lf_ok (fun _ => ok_iald dX12_round_60 rfl)) (am_nd_ok (am_lf_ok (fun _ => ok_iconst dX12_round_61 cv_iconst_1 rfl)) (am_lf_ok (fun _ => ok_iadd dX12_round_62 rfl))))) (am_nd_ok (am_nd_ok (am_lf_ok (fun _ => ok_iast dX12_round_63 rfl)) (am_nd_ok (am_lf_ok (fun _ => ok_aload_n dX12_round_64 rfl rfl)) (am_lf_ok (fun _ => ok_get (C := RX12) (TT := TX12) (N := 31) rfl inw_X12 (Nat.le_of_ble_eq_true rfl) wd_448 dX12_round_65 rfl)))) (am_nd_ok (am_lf_ok (fun _ => ok_bipush dX12_round_68 cv_bipush_8 rfl)) (am_nd_ok (am_lf_ok (fun _ => ok_iald dX12_round_70 rfl)) (am_lf_ok (fun _ => ok_iret rfl dX12_round_71))))))
def tX12_round : Nat → Option am_Act := am_nd 41 (tX12_round_0) (tX12_round_1)
theorem gX12_round : am_Good tT mX12_round tX12_round := am_nd_ok (gX12_round_0) (gX12_round_1)
theorem dX12_isRound_0 : decode cX12_isRound 0 = .ok (.aload_n 0, 1) := by decide +kernel
theorem dX12_isRound_1 : decode cX12_isRound 1 = .ok (.iload_n 1, 1) := by decide +kernel
theorem dX12_isRound_2 : decode cX12_isRound 2 = .ok (.iconst 0, 1) := by decide +kernel
theorem dX12_isRound_3 : decode cX12_isRound 3 = .ok (.invokevirtual 76, 3) := by decide +kernel
theorem dX12_isRound_6 : decode cX12_isRound 6 = .ok (.istore_n 2, 1) := by decide +kernel
theorem dX12_isRound_7 : decode cX12_isRound 7 = .ok (.iconst 0, 1) := by decide +kernel
theorem dX12_isRound_8 : decode cX12_isRound 8 = .ok (.istore_n 3, 1) := by decide +kernel
theorem dX12_isRound_9 : decode cX12_isRound 9 = .ok (.iload_n 3, 1) := by decide +kernel
theorem dX12_isRound_10 : decode cX12_isRound 10 = .ok (.aload_n 0, 1) := by decide +kernel
theorem dX12_isRound_11 : decode cX12_isRound 11 = .ok (.getfield 7, 3) := by decide +kernel
theorem dX12_isRound_14 : decode cX12_isRound 14 = .ok (.bipush 8, 2) := by decide +kernel
theorem dX12_isRound_16 : decode cX12_isRound 16 = .ok (.iaload, 1) := by decide +kernel
theorem dX12_isRound_17 : decode cX12_isRound 17 = .ok (.if_icmp .ge 31, 3) := by decide +kernel
theorem dX12_isRound_20 : decode cX12_isRound 20 = .ok (.aload_n 0, 1) := by decide +kernel
theorem dX12_isRound_21 : decode cX12_isRound 21 = .ok (.aload_n 0, 1) := by decide +kernel
theorem dX12_isRound_22 : decode cX12_isRound 22 = .ok (.getfield 7, 3) := by decide +kernel
theorem dX12_isRound_25 : decode cX12_isRound 25 = .ok (.bipush 75, 2) := by decide +kernel
theorem dX12_isRound_27 : decode cX12_isRound 27 = .ok (.iload_n 3, 1) := by decide +kernel
theorem dX12_isRound_28 : decode cX12_isRound 28 = .ok (.iadd, 1) := by decide +kernel
theorem dX12_isRound_29 : decode cX12_isRound 29 = .ok (.iaload, 1) := by decide +kernel
theorem dX12_isRound_30 : decode cX12_isRound 30 = .ok (.iload_n 2, 1) := by decide +kernel
theorem dX12_isRound_31 : decode cX12_isRound 31 = .ok (.invokevirtual 231, 3) := by decide +kernel
theorem dX12_isRound_34 : decode cX12_isRound 34 = .ok (.istore_n 2, 1) := by decide +kernel
theorem dX12_isRound_35 : decode cX12_isRound 35 = .ok (.iload_n 2, 1) := by decide +kernel
theorem dX12_isRound_36 : decode cX12_isRound 36 = .ok (.iconst (-1), 1) := by decide +kernel
theorem dX12_isRound_37 : decode cX12_isRound 37 = .ok (.if_icmp .ne 5, 3) := by decide +kernel
theorem dX12_isRound_40 : decode cX12_isRound 40 = .ok (.iconst 0, 1) := by decide +kernel
theorem dX12_isRound_41 : decode cX12_isRound 41 = .ok (.ireturn, 1) := by decide +kernel
theorem dX12_isRound_42 : decode cX12_isRound 42 = .ok (.iinc 3 1, 3) := by decide +kernel
theorem dX12_isRound_45 : decode cX12_isRound 45 = .ok (.goto (-36), 3) := by decide +kernel
theorem dX12_isRound_48 : decode cX12_isRound 48 = .ok (.aload_n 0, 1) := by decide +kernel
theorem dX12_isRound_49 : decode cX12_isRound 49 = .ok (.getfield 7, 3) := by decide +kernel
theorem dX12_isRound_52 : decode cX12_isRound 52 = .ok (.bipush 8, 2) := by decide +kernel
theorem dX12_isRound_54 : decode cX12_isRound 54 = .ok (.iaload, 1) := by decide +kernel
theorem dX12_isRound_55 : decode cX12_isRound 55 = .ok (.ifCond .le 7, 3) := by decide +kernel
theorem dX12_isRound_58 : decode cX12_isRound 58 = .ok (.iconst 1, 1) := by decide +kernel
theorem dX12_isRound_59 : decode cX12_isRound 59 = .ok (.goto 4, 3) := by decide +kernel
theorem dX12_isRound_62 : decode cX12_isRound 62 = .ok (.iconst 0, 1) := by decide +kernel
theorem dX12_isRound_63 : decode cX12_isRound 63 = .ok (.ireturn, 1) := by decide +kernel
def tX12_isRound_0 : Nat → Option am_Act := am_nd 17 (am_nd 8 (am_nd 3 (am_nd 1 (am_lf 0 (a_aload 0 1)) (am_nd 2 (am_lf 1 (a_iload 1 2)) (am_lf 2 (a_const (nI 0) 3)))) (am_nd 6 (am_lf 3 (a_cvI tT mX12_own 12 2 6)) (am_nd 7 (am_lf 6 (a_istore 2 7)) (am_lf 7 (a_const (nI 0) 8))))) (am_nd 11 (am_nd 9 (am_lf 8 (a_istore 3 9)) (am_nd 10 (am_lf 9 (a_iload 3 10)) (am_lf 10 (a_aload 0 11)))) (am_nd 14 (am_lf 11 (a_get tT 12 0 14)) (am_nd 16 (am_lf 14 (a_const (nI 8) 16)) (am_lf 16 (a_iald tT 17)))))) (am_nd 28 (am_nd 22 (am_nd 20 (am_lf 17 (a_cmp (fun x y => y ≤ x) 48 20)) (am_nd 21 (am_lf 20 (a_aload 0 21)) (am_lf 21 (a_aload 0 22)))) (am_nd 25 (am_lf 22 (a_get tT 12 0 25)) (am_nd 27 (am_lf 25 (a_const (nI 75) 27)) (am_lf 27 (a_iload 3 28))))) (am_nd 31 (am_nd 29 (am_lf 28 (a_bin (fun x y => x + y) 29)) (am_nd 30 (am_lf 29 (a_iald tT 30)) (am_lf 30 (a_iload 2 31)))) (am_nd 34 (am_lf 31 (a_cvI tT mX12_otherEnd 12 2 34)) (am_nd 35 (am_lf 34 (a_istore 2 35)) (am_lf 35 (a_iload 2 36))))))
theorem gX12_isRound_0 : am_Good tT mX12_isRound tX12_isRound_0 := am_nd_ok (am_nd_ok (am_nd_ok (am_nd_ok (am_lf_ok (fun _ => ok_aload_n dX12_isRound_0 rfl rfl)) (am_nd_ok (am_lf_ok (fun _ => ok_iload_n dX12_isRound_1 rfl rfl)) (am_lf_ok (fun _ => ok_iconst dX12_isRound_2 cv_iconst_0 rfl)))) (am_nd_ok (am_lf_ok (fun _ => ok_cvI rfl mw_X12_own (ci := 12) rfl rfl wd_462 wd_463 wd_464 dX12_isRound_3 rfl)) (am_nd_ok (am_lf_ok (fun _ => ok_istore_n dX12_isRound_6 rfl (Nat.le_of_ble_eq_true rfl) rfl)) (am_lf_ok (fun _ => ok_iconst dX12_isRound_7 cv_iconst_0 rfl))))) (am_nd_ok (am_nd_ok (am_lf_ok (fun _ => ok_istore_n dX12_isRound_8 rfl (Nat.le_of_ble_eq_true rfl) rfl)) (am_nd_ok (am_lf_ok (fun _ => ok_iload_n dX12_isRound_9 rfl rfl)) (am_lf_ok (fun _ => ok_aload_n dX12_isRound_10 rfl rfl)))) (am_nd_ok (am_lf_ok (fun _ => ok_get (C := RX12) (TT := TX12) (N := 31) rfl inw_X12 (Nat.le_of_ble_eq_true rfl) wd_448 dX12_isRound_11 rfl)) (am_nd_ok (am_lf_ok (fun _ => ok_bipush dX12_isRound_14 cv_bipush_8 rfl)) (am_lf_ok (fun _ => ok_iald dX12_isRound_16 rfl)))))) (am_nd_ok (am_nd_ok (am_nd_ok (am_lf_ok (fun _ => ok_cmp_ge dX12_isRound_17 rfl rfl)) (am_nd_ok (am_lf_ok (fun _ => ok_aload_n dX12_isRound_20 rfl rfl)) (am_lf_ok (fun _ => ok_aload_n dX12_isRound_21 rfl rfl)))) (am_nd_ok (am_lf_ok (fun _ => ok_get (C := RX12) (TT := TX12) (N := 31) rfl inw_X12 (Nat.le_of_ble_eq_true rfl) wd_448 dX12_isRound_22 rfl)) (am_nd_ok (am_lf_ok (fun _ => ok_bipush dX12_isRound_25 cv_bipush_75 rfl)) (am_lf_ok (fun _ => ok_iload_n dX12_isRound_27 rfl rfl))))) (am_nd_ok (am_nd_ok (am_lf_ok (fun _ => ok_iadd dX12_isRound_28 rfl)) (am_nd_ok (am_lf_ok (fun _ => ok_iald dX12_isRound_29 rfl)) (am_lf_ok (fun _ => ok_iload_n dX12_isRound_30 rfl rfl)))) (am_nd_ok (am_lf_ok (fun _ => ok_cvI rfl mw_X12_otherEnd (ci := 12) rfl rfl wd_556 wd_557 wd_558 dX12_isRound_31 rfl)) (am_nd_ok (am_lf_ok (fun _ => ok_istore_n dX12_isRound_34 rfl (Nat.le_of_ble_eq_true rfl) rfl)) (am_lf_ok (fun _ => ok_iload_n dX12_isRound_35 rfl rfl))))))
def tX12_isRound_1 : Nat → Option am_Act := am_nd 49 (am_nd 41 (am_nd 37 (am_lf 36 (a_const (-1) 37)) (am_nd 40 (am_lf 37 (a_cmp (fun x y => x = y) 40 42)) (am_lf 40 (a_const (nI 0) 41)))) (am_nd 45 (am_nd 42 (am_lf 41 (a_zret)) (am_lf 42 (a_iinc 3 (nI 1) 45))) (am_nd 48 (am_lf 45 (a_goto 9)) (am_lf 48 (a_aload 0 49))))) (am_nd 58 (am_nd 54 (am_nd 52 (am_lf 49 (a_get tT 12 0 52)) (am_lf 52 (a_const (nI 8) 54))) (am_nd 55 (am_lf 54 (a_iald tT 55)) (am_lf 55 (a_if (fun x => x ≤ nI 0) 62 58)))) (am_nd 62 (am_nd 59 (am_lf 58 (a_const (nI 1) 59)) (am_lf 59 (a_goto 63))) (am_nd 63 (am_lf 62 (a_const (nI 0) 63)) (am_lf 63 (a_zret)))))
theorem gX12_isRound_1 : am_Good tT mX12_isRound tX12_isRound_1 := am_nd_ok (am_nd_ok (am_nd_ok (am_lf_ok (fun _ => ok_iconst dX12_isRound_36 cv_iconst_m1 rfl)) (am_nd_ok (am_lf_ok (fun _ => ok_cmp_ne dX12_isRound_37 rfl rfl)) (am_lf_ok (fun _ => ok_iconst dX12_isRound_40 cv_iconst_0 rfl)))) (am_nd_ok (am_nd_ok (am_lf_ok (fun _ => ok_zret rfl dX12_isRound_41)) (am_lf_ok (fun _ => ok_iinc dX12_isRound_42 cv_iconst_1 (Nat.le_of_ble_eq_true rfl) rfl))) (am_nd_ok (am_lf_ok (fun _ => ok_goto dX12_isRound_45 rfl)) (am_lf_ok (fun _ => ok_aload_n dX12_isRound_48 rfl rfl))))) (am_nd_ok (am_nd_ok (am_nd_ok (am_lf_ok (fun _ => ok_get (C := RX12) (TT := TX12) (N := 31) rfl inw_X12 (Nat.le_of_ble_eq_true rfl) wd_448 dX12_isRound_49 rfl)) (am_lf_ok (fun _ => ok_bipush dX12_isRound_52 cv_bipush_8 rfl))) (am_nd_ok (am_lf_ok (fun _ => ok_iald dX12_isRound_54 rfl)) (am_lf_ok (fun _ => ok_if_le dX12_isRound_55 rfl rfl)))) (am_nd_ok (am_nd_ok (am_lf_ok (fun _ => ok_iconst dX12_isRound_58 cv_iconst_1 rfl)) (am_lf_ok (fun _ => ok_goto dX12_isRound_59 rfl))) (am_nd_ok (am_lf_ok (fun _ => ok_iconst dX12_isRound_62 cv_iconst_0 rfl)) (am_lf_ok (fun _ => ok_zret rfl dX12_isRound_63)))))
def tX12_isRound : Nat → Option am_Act := am_nd 36 (tX12_isRound_0) (tX12_isRound_1)
theorem gX12_isRound : am_Good tT mX12_isRound tX12_isRound := am_nd_ok (gX12_isRound_0) (gX12_isRound_1)
theorem dX12_getsRound_0 : decode cX12_getsRound 0 = .ok (.iconst 0, 1) := by decide +kernel
theorem dX12_getsRound_1 : decode cX12_getsRound 1 = .ok (.istore_n 2, 1) := by decide +kernel
theorem dX12_getsRound_2 : decode cX12_getsRound 2 = .ok (.iload_n 2, 1) := by decide +kernel
theorem dX12_getsRound_3 : decode cX12_getsRound 3 = .ok (.aload_n 0, 1) := by decide +kernel
theorem dX12_getsRound_4 : decode cX12_getsRound 4 = .ok (.getfield 7, 3) := by decide +kernel
theorem dX12_getsRound_7 : decode cX12_getsRound 7 = .ok (.bipush 8, 2) := by decide +kernel
theorem dX12_getsRound_9 : decode cX12_getsRound 9 = .ok (.iaload, 1) := by decide +kernel
theorem dX12_getsRound_10 : decode cX12_getsRound 10 = .ok (.if_icmp .ge 30, 3) := by decide +kernel
theorem dX12_getsRound_13 : decode cX12_getsRound 13 = .ok (.aload_n 0, 1) := by decide +kernel
theorem dX12_getsRound_14 : decode cX12_getsRound 14 = .ok (.iload_n 1, 1) := by decide +kernel
theorem dX12_getsRound_15 : decode cX12_getsRound 15 = .ok (.aload_n 0, 1) := by decide +kernel
theorem dX12_getsRound_16 : decode cX12_getsRound 16 = .ok (.getfield 7, 3) := by decide +kernel
theorem dX12_getsRound_19 : decode cX12_getsRound 19 = .ok (.bipush 75, 2) := by decide +kernel
theorem dX12_getsRound_21 : decode cX12_getsRound 21 = .ok (.iload_n 2, 1) := by decide +kernel
theorem dX12_getsRound_22 : decode cX12_getsRound 22 = .ok (.iadd, 1) := by decide +kernel
theorem dX12_getsRound_23 : decode cX12_getsRound 23 = .ok (.iaload, 1) := by decide +kernel
theorem dX12_getsRound_24 : decode cX12_getsRound 24 = .ok (.invokevirtual 250, 3) := by decide +kernel
theorem dX12_getsRound_27 : decode cX12_getsRound 27 = .ok (.bipush (-2), 2) := by decide +kernel
theorem dX12_getsRound_29 : decode cX12_getsRound 29 = .ok (.if_icmp .ne 5, 3) := by decide +kernel
theorem dX12_getsRound_32 : decode cX12_getsRound 32 = .ok (.iconst 0, 1) := by decide +kernel
theorem dX12_getsRound_33 : decode cX12_getsRound 33 = .ok (.ireturn, 1) := by decide +kernel
theorem dX12_getsRound_34 : decode cX12_getsRound 34 = .ok (.iinc 2 1, 3) := by decide +kernel
theorem dX12_getsRound_37 : decode cX12_getsRound 37 = .ok (.goto (-35), 3) := by decide +kernel
theorem dX12_getsRound_40 : decode cX12_getsRound 40 = .ok (.iconst 1, 1) := by decide +kernel
theorem dX12_getsRound_41 : decode cX12_getsRound 41 = .ok (.ireturn, 1) := by decide +kernel
def tX12_getsRound_0 : Nat → Option am_Act := am_nd 19 (am_nd 9 (am_nd 3 (am_nd 1 (am_lf 0 (a_const (nI 0) 1)) (am_nd 2 (am_lf 1 (a_istore 2 2)) (am_lf 2 (a_iload 2 3)))) (am_nd 4 (am_lf 3 (a_aload 0 4)) (am_nd 7 (am_lf 4 (a_get tT 12 0 7)) (am_lf 7 (a_const (nI 8) 9))))) (am_nd 14 (am_nd 10 (am_lf 9 (a_iald tT 10)) (am_nd 13 (am_lf 10 (a_cmp (fun x y => y ≤ x) 40 13)) (am_lf 13 (a_aload 0 14)))) (am_nd 15 (am_lf 14 (a_iload 1 15)) (am_nd 16 (am_lf 15 (a_aload 0 16)) (am_lf 16 (a_get tT 12 0 19)))))) (am_nd 29 (am_nd 23 (am_nd 21 (am_lf 19 (a_const (nI 75) 21)) (am_nd 22 (am_lf 21 (a_iload 2 22)) (am_lf 22 (a_bin (fun x y => x + y) 23)))) (am_nd 24 (am_lf 23 (a_iald tT 24)) (am_nd 27 (am_lf 24 (a_cvI tT mX12_crosses 12 2 27)) (am_lf 27 (a_const (-2) 29))))) (am_nd 34 (am_nd 32 (am_lf 29 (a_cmp (fun x y => x = y) 32 34)) (am_nd 33 (am_lf 32 (a_const (nI 0) 33)) (am_lf 33 (a_zret)))) (am_nd 37 (am_lf 34 (a_iinc 2 (nI 1) 37)) (am_nd 40 (am_lf 37 (a_goto 2)) (am_lf 40 (a_const (nI 1) 41))))))
theorem gX12_getsRound_0 : am_Good tT mX12_getsRound tX12_getsRound_0 := am_nd_ok (am_nd_ok (am_nd_ok (am_nd_ok (am_lf_ok (fun _ => ok_iconst dX12_getsRound_0 cv_iconst_0 rfl)) (am_nd_ok (am_lf_ok (fun _ => ok_istore_n dX12_getsRound_1 rfl (Nat.le_of_ble_eq_true rfl) rfl)) (am_lf_ok (fun _ => ok_iload_n dX12_getsRound_2 rfl rfl)))) (am_nd_ok (am_lf_ok (fun _ => ok_aload_n dX12_getsRound_3 rfl rfl)) (am_nd_ok (am_lf_ok (fun _ => ok_get (C := RX12) (TT := TX12) (N := 31) rfl inw_X12 (Nat.le_of_ble_eq_true rfl) wd_448 dX12_getsRound_4 rfl)) (am_lf_ok (fun _ => ok_bipush dX12_getsRound_7 cv_bipush_8 rfl))))) (am_nd_ok (am_nd_ok (am_lf_ok (fun _ => ok_iald dX12_getsRound_9 rfl)) (am_nd_ok (am_lf_ok (fun _ => ok_cmp_ge dX12_getsRound_10 rfl rfl)) (am_lf_ok (fun _ => ok_aload_n dX12_getsRound_13 rfl rfl)))) (am_nd_ok (am_lf_ok (fun _ => ok_iload_n dX12_getsRound_14 rfl rfl)) (am_nd_ok (am_lf_ok (fun _ => ok_aload_n dX12_getsRound_15 rfl rfl)) (am_lf_ok (fun _ => ok_get (C := RX12) (TT := TX12) (N := 31) rfl inw_X12 (Nat.le_of_ble_eq_true rfl) wd_448 dX12_getsRound_16 rfl)))))) (am_nd_ok (am_nd_ok (am_nd_ok (am_lf_ok (fun _ => ok_bipush dX12_getsRound_19 cv_bipush_75 rfl)) (am_nd_ok (am_lf_ok (fun _ => ok_iload_n dX12_getsRound_21 rfl rfl)) (am_lf_ok (fun _ => ok_iadd dX12_getsRound_22 rfl)))) (am_nd_ok (am_lf_ok (fun _ => ok_iald dX12_getsRound_23 rfl)) (am_nd_ok (am_lf_ok (fun _ => ok_cvI rfl mw_X12_crosses (ci := 12) rfl rfl wd_575 wd_576 wd_577 dX12_getsRound_24 rfl)) (am_lf_ok (fun _ => ok_bipush dX12_getsRound_27 cv_bipush_m2 rfl))))) (am_nd_ok (am_nd_ok (am_lf_ok (fun _ => ok_cmp_ne dX12_getsRound_29 rfl rfl)) (am_nd_ok (am_lf_ok (fun _ => ok_iconst dX12_getsRound_32 cv_iconst_0 rfl)) (am_lf_ok (fun _ => ok_zret rfl dX12_getsRound_33)))) (am_nd_ok (am_lf_ok (fun _ => ok_iinc dX12_getsRound_34 cv_iconst_1 (Nat.le_of_ble_eq_true rfl) rfl)) (am_nd_ok (am_lf_ok (fun _ => ok_goto dX12_getsRound_37 rfl)) (am_lf_ok (fun _ => ok_iconst dX12_getsRound_40 cv_iconst_1 rfl))))))
def tX12_getsRound_1 : Nat → Option am_Act := am_lf 41 (a_zret)
theorem gX12_getsRound_1 : am_Good tT mX12_getsRound tX12_getsRound_1 := am_lf_ok (fun _ => ok_zret rfl dX12_getsRound_41)
def tX12_getsRound : Nat → Option am_Act := am_nd 41 (tX12_getsRound_0) (tX12_getsRound_1)
theorem gX12_getsRound : am_Good tT mX12_getsRound tX12_getsRound := am_nd_ok (gX12_getsRound_0) (gX12_getsRound_1)
theorem dX12_isPlanned_0 : decode cX12_isPlanned 0 = .ok (.iload_n 2, 1) := by decide +kernel
theorem dX12_isPlanned_1 : decode cX12_isPlanned 1 = .ok (.iload_n 3, 1) := by decide +kernel
theorem dX12_isPlanned_2 : decode cX12_isPlanned 2 = .ok (.if_icmp .ne 50, 3) := by decide +kernel
theorem dX12_isPlanned_5 : decode cX12_isPlanned 5 = .ok (.aload_n 0, 1) := by decide +kernel
theorem dX12_isPlanned_6 : decode cX12_isPlanned 6 = .ok (.iconst 0, 1) := by decide +kernel
theorem dX12_isPlanned_7 : decode cX12_isPlanned 7 = .ok (.invokevirtual 246, 3) := by decide +kernel
theorem dX12_isPlanned_10 : decode cX12_isPlanned 10 = .ok (.iconst 0, 1) := by decide +kernel
theorem dX12_isPlanned_11 : decode cX12_isPlanned 11 = .ok (.istore 5, 2) := by decide +kernel
theorem dX12_isPlanned_13 : decode cX12_isPlanned 13 = .ok (.iload 5, 2) := by decide +kernel
theorem dX12_isPlanned_15 : decode cX12_isPlanned 15 = .ok (.iload_n 3, 1) := by decide +kernel
theorem dX12_isPlanned_16 : decode cX12_isPlanned 16 = .ok (.if_icmp .ge 21, 3) := by decide +kernel
theorem dX12_isPlanned_19 : decode cX12_isPlanned 19 = .ok (.aload_n 0, 1) := by decide +kernel
theorem dX12_isPlanned_20 : decode cX12_isPlanned 20 = .ok (.iload_n 1, 1) := by decide +kernel
theorem dX12_isPlanned_21 : decode cX12_isPlanned 21 = .ok (.aload_n 0, 1) := by decide +kernel
theorem dX12_isPlanned_22 : decode cX12_isPlanned 22 = .ok (.getfield 47, 3) := by decide +kernel
theorem dX12_isPlanned_25 : decode cX12_isPlanned 25 = .ok (.iload 5, 2) := by decide +kernel
theorem dX12_isPlanned_27 : decode cX12_isPlanned 27 = .ok (.iaload, 1) := by decide +kernel
theorem dX12_isPlanned_28 : decode cX12_isPlanned 28 = .ok (.invokevirtual 93, 3) := by decide +kernel
theorem dX12_isPlanned_31 : decode cX12_isPlanned 31 = .ok (.iinc 5 1, 3) := by decide +kernel
theorem dX12_isPlanned_34 : decode cX12_isPlanned 34 = .ok (.goto (-21), 3) := by decide +kernel
theorem dX12_isPlanned_37 : decode cX12_isPlanned 37 = .ok (.aload_n 0, 1) := by decide +kernel
theorem dX12_isPlanned_38 : decode cX12_isPlanned 38 = .ok (.iload_n 1, 1) := by decide +kernel
theorem dX12_isPlanned_39 : decode cX12_isPlanned 39 = .ok (.invokevirtual 290, 3) := by decide +kernel
theorem dX12_isPlanned_42 : decode cX12_isPlanned 42 = .ok (.istore 5, 2) := by decide +kernel
theorem dX12_isPlanned_44 : decode cX12_isPlanned 44 = .ok (.aload_n 0, 1) := by decide +kernel
theorem dX12_isPlanned_45 : decode cX12_isPlanned 45 = .ok (.iconst 0, 1) := by decide +kernel
theorem dX12_isPlanned_46 : decode cX12_isPlanned 46 = .ok (.invokevirtual 253, 3) := by decide +kernel
theorem dX12_isPlanned_49 : decode cX12_isPlanned 49 = .ok (.iload 5, 2) := by decide +kernel
theorem dX12_isPlanned_51 : decode cX12_isPlanned 51 = .ok (.ireturn, 1) := by decide +kernel
theorem dX12_isPlanned_52 : decode cX12_isPlanned 52 = .ok (.iload 4, 2) := by decide +kernel
theorem dX12_isPlanned_54 : decode cX12_isPlanned 54 = .ok (.istore 5, 2) := by decide +kernel
theorem dX12_isPlanned_56 : decode cX12_isPlanned 56 = .ok (.iload 5, 2) := by decide +kernel
theorem dX12_isPlanned_58 : decode cX12_isPlanned 58 = .ok (.aload_n 0, 1) := by decide +kernel
theorem dX12_isPlanned_59 : decode cX12_isPlanned 59 = .ok (.getfield 7, 3) := by decide +kernel
theorem dX12_isPlanned_62 : decode cX12_isPlanned 62 = .ok (.iconst 0, 1) := by decide +kernel
theorem dX12_isPlanned_63 : decode cX12_isPlanned 63 = .ok (.iaload, 1) := by decide +kernel
theorem dX12_isPlanned_64 : decode cX12_isPlanned 64 = .ok (.if_icmp .ge 48, 3) := by decide +kernel
theorem dX12_isPlanned_67 : decode cX12_isPlanned 67 = .ok (.aload_n 0, 1) := by decide +kernel
theorem dX12_isPlanned_68 : decode cX12_isPlanned 68 = .ok (.iload_n 1, 1) := by decide +kernel
theorem dX12_isPlanned_69 : decode cX12_isPlanned 69 = .ok (.iload 5, 2) := by decide +kernel
theorem dX12_isPlanned_71 : decode cX12_isPlanned 71 = .ok (.invokevirtual 80, 3) := by decide +kernel
theorem dX12_isPlanned_74 : decode cX12_isPlanned 74 = .ok (.ifCond .eq 6, 3) := by decide +kernel
theorem dX12_isPlanned_77 : decode cX12_isPlanned 77 = .ok (.goto 29, 3) := by decide +kernel
theorem dX12_isPlanned_80 : decode cX12_isPlanned 80 = .ok (.aload_n 0, 1) := by decide +kernel
theorem dX12_isPlanned_81 : decode cX12_isPlanned 81 = .ok (.getfield 47, 3) := by decide +kernel
theorem dX12_isPlanned_84 : decode cX12_isPlanned 84 = .ok (.iload_n 2, 1) := by decide +kernel
theorem dX12_isPlanned_85 : decode cX12_isPlanned 85 = .ok (.iload 5, 2) := by decide +kernel
theorem dX12_isPlanned_87 : decode cX12_isPlanned 87 = .ok (.iastore, 1) := by decide +kernel
theorem dX12_isPlanned_88 : decode cX12_isPlanned 88 = .ok (.aload_n 0, 1) := by decide +kernel
theorem dX12_isPlanned_89 : decode cX12_isPlanned 89 = .ok (.iload_n 1, 1) := by decide +kernel
theorem dX12_isPlanned_90 : decode cX12_isPlanned 90 = .ok (.iload_n 2, 1) := by decide +kernel
theorem dX12_isPlanned_91 : decode cX12_isPlanned 91 = .ok (.iconst 1, 1) := by decide +kernel
theorem dX12_isPlanned_92 : decode cX12_isPlanned 92 = .ok (.iadd, 1) := by decide +kernel
theorem dX12_isPlanned_93 : decode cX12_isPlanned 93 = .ok (.iload_n 3, 1) := by decide +kernel
theorem dX12_isPlanned_94 : decode cX12_isPlanned 94 = .ok (.iload 5, 2) := by decide +kernel
theorem dX12_isPlanned_96 : decode cX12_isPlanned 96 = .ok (.iconst 1, 1) := by decide +kernel
theorem dX12_isPlanned_97 : decode cX12_isPlanned 97 = .ok (.iadd, 1) := by decide +kernel
theorem dX12_isPlanned_98 : decode cX12_isPlanned 98 = .ok (.invokevirtual 293, 3) := by decide +kernel
theorem dX12_isPlanned_101 : decode cX12_isPlanned 101 = .ok (.ifCond .eq 5, 3) := by decide +kernel
theorem dX12_isPlanned_104 : decode cX12_isPlanned 104 = .ok (.iconst 1, 1) := by decide +kernel
theorem dX12_isPlanned_105 : decode cX12_isPlanned 105 = .ok (.ireturn, 1) := by decide +kernel
theorem dX12_isPlanned_106 : decode cX12_isPlanned 106 = .ok (.iinc 5 1, 3) := by decide +kernel
theorem dX12_isPlanned_109 : decode cX12_isPlanned 109 = .ok (.goto (-53), 3) := by decide +kernel
theorem dX12_isPlanned_112 : decode cX12_isPlanned 112 = .ok (.iconst 0, 1) := by decide +kernel
theorem dX12_isPlanned_113 : decode cX12_isPlanned 113 = .ok (.ireturn, 1) := by decide +kernel
def tX12_isPlanned_0 : Nat → Option am_Act := am_nd 20 (am_nd 10 (am_nd 5 (am_nd 1 (am_lf 0 (a_iload 2 1)) (am_nd 2 (am_lf 1 (a_iload 3 2)) (am_lf 2 (a_cmp (fun x y => x = y) 5 52)))) (am_nd 6 (am_lf 5 (a_aload 0 6)) (am_nd 7 (am_lf 6 (a_const (nI 0) 7)) (am_lf 7 (a_cvV tT mX12_laysAside 12 1 10))))) (am_nd 15 (am_nd 11 (am_lf 10 (a_const (nI 0) 11)) (am_nd 13 (am_lf 11 (a_istore 5 13)) (am_lf 13 (a_iload 5 15)))) (am_nd 16 (am_lf 15 (a_iload 3 16)) (am_nd 19 (am_lf 16 (a_cmp (fun x y => y ≤ x) 37 19)) (am_lf 19 (a_aload 0 20)))))) (am_nd 31 (am_nd 25 (am_nd 21 (am_lf 20 (a_iload 1 21)) (am_nd 22 (am_lf 21 (a_aload 0 22)) (am_lf 22 (a_get tT 12 27 25)))) (am_nd 27 (am_lf 25 (a_iload 5 27)) (am_nd 28 (am_lf 27 (a_iald tT 28)) (am_lf 28 (a_cvV tT mX12_comes 12 2 31))))) (am_nd 38 (am_nd 34 (am_lf 31 (a_iinc 5 (nI 1) 34)) (am_nd 37 (am_lf 34 (a_goto 13)) (am_lf 37 (a_aload 0 38)))) (am_nd 39 (am_lf 38 (a_iload 1 39)) (am_nd 42 (am_lf 39 (a_cvI tT mX12_getsRound 12 1 42)) (am_lf 42 (a_istore 5 44))))))
theorem gX12_isPlanned_0 : am_Good tT mX12_isPlanned tX12_isPlanned_0 := am_nd_ok (am_nd_ok (am_nd_ok (am_nd_ok (am_lf_ok (fun _ => ok_iload_n dX12_isPlanned_0 rfl rfl)) (am_nd_ok (am_lf_ok (fun _ => ok_iload_n dX12_isPlanned_1 rfl rfl)) (am_lf_ok (fun _ => ok_cmp_ne dX12_isPlanned_2 rfl rfl)))) (am_nd_ok (am_lf_ok (fun _ => ok_aload_n dX12_isPlanned_5 rfl rfl)) (am_nd_ok (am_lf_ok (fun _ => ok_iconst dX12_isPlanned_6 cv_iconst_0 rfl)) (am_lf_ok (fun _ => ok_cvV rfl mw_X12_laysAside (ci := 12) rfl rfl wd_572 wd_573 wd_574 dX12_isPlanned_7 rfl))))) (am_nd_ok (am_nd_ok (am_lf_ok (fun _ => ok_iconst dX12_isPlanned_10 cv_iconst_0 rfl)) (am_nd_ok (am_lf_ok (fun _ => ok_istore dX12_isPlanned_11 (Nat.le_of_ble_eq_true rfl) rfl)) (am_lf_ok (fun _ => ok_iload dX12_isPlanned_13 rfl)))) (am_nd_ok (am_lf_ok (fun _ => ok_iload_n dX12_isPlanned_15 rfl rfl)) (am_nd_ok (am_lf_ok (fun _ => ok_cmp_ge dX12_isPlanned_16 rfl rfl)) (am_lf_ok (fun _ => ok_aload_n dX12_isPlanned_19 rfl rfl)))))) (am_nd_ok (am_nd_ok (am_nd_ok (am_lf_ok (fun _ => ok_iload_n dX12_isPlanned_20 rfl rfl)) (am_nd_ok (am_lf_ok (fun _ => ok_aload_n dX12_isPlanned_21 rfl rfl)) (am_lf_ok (fun _ => ok_get (C := RX12) (TT := TX12) (N := 31) rfl inw_X12 (Nat.le_of_ble_eq_true rfl) wd_611 dX12_isPlanned_22 rfl)))) (am_nd_ok (am_lf_ok (fun _ => ok_iload dX12_isPlanned_25 rfl)) (am_nd_ok (am_lf_ok (fun _ => ok_iald dX12_isPlanned_27 rfl)) (am_lf_ok (fun _ => ok_cvV rfl mw_X12_comes (ci := 12) rfl rfl wd_477 wd_478 wd_479 dX12_isPlanned_28 rfl))))) (am_nd_ok (am_nd_ok (am_lf_ok (fun _ => ok_iinc dX12_isPlanned_31 cv_iconst_1 (Nat.le_of_ble_eq_true rfl) rfl)) (am_nd_ok (am_lf_ok (fun _ => ok_goto dX12_isPlanned_34 rfl)) (am_lf_ok (fun _ => ok_aload_n dX12_isPlanned_37 rfl rfl)))) (am_nd_ok (am_lf_ok (fun _ => ok_iload_n dX12_isPlanned_38 rfl rfl)) (am_nd_ok (am_lf_ok (fun _ => ok_cvI rfl mw_X12_getsRound (ci := 12) rfl rfl wd_612 wd_613 wd_614 dX12_isPlanned_39 rfl)) (am_lf_ok (fun _ => ok_istore dX12_isPlanned_42 (Nat.le_of_ble_eq_true rfl) rfl))))))
def tX12_isPlanned_1 : Nat → Option am_Act := am_nd 64 (am_nd 54 (am_nd 49 (am_nd 45 (am_lf 44 (a_aload 0 45)) (am_nd 46 (am_lf 45 (a_const (nI 0) 46)) (am_lf 46 (a_cvV tT mX12_putsBack 12 1 49)))) (am_nd 51 (am_lf 49 (a_iload 5 51)) (am_nd 52 (am_lf 51 (a_zret)) (am_lf 52 (a_iload 4 54))))) (am_nd 59 (am_nd 56 (am_lf 54 (a_istore 5 56)) (am_nd 58 (am_lf 56 (a_iload 5 58)) (am_lf 58 (a_aload 0 59)))) (am_nd 62 (am_lf 59 (a_get tT 12 0 62)) (am_nd 63 (am_lf 62 (a_const (nI 0) 63)) (am_lf 63 (a_iald tT 64)))))) (am_nd 77 (am_nd 69 (am_nd 67 (am_lf 64 (a_cmp (fun x y => y ≤ x) 112 67)) (am_nd 68 (am_lf 67 (a_aload 0 68)) (am_lf 68 (a_iload 1 69)))) (am_nd 71 (am_lf 69 (a_iload 5 71)) (am_nd 74 (am_lf 71 (a_cvI tT mX12_has 12 2 74)) (am_lf 74 (a_if (fun x => x = nI 0) 80 77))))) (am_nd 84 (am_nd 80 (am_lf 77 (a_goto 106)) (am_nd 81 (am_lf 80 (a_aload 0 81)) (am_lf 81 (a_get tT 12 27 84)))) (am_nd 85 (am_lf 84 (a_iload 2 85)) (am_nd 87 (am_lf 85 (a_iload 5 87)) (am_lf 87 (a_iast tT 88))))))
theorem gX12_isPlanned_1 : am_Good tT mX12_isPlanned tX12_isPlanned_1 := am_nd_ok (am_nd_ok (am_nd_ok (am_nd_ok (am_lf_ok (fun _ => ok_aload_n dX12_isPlanned_44 rfl rfl)) (am_nd_ok (am_lf_ok (fun _ => ok_iconst dX12_isPlanned_45 cv_iconst_0 rfl)) (am_lf_ok (fun _ => ok_cvV rfl mw_X12_putsBack (ci := 12) rfl rfl wd_578 wd_579 wd_580 dX12_isPlanned_46 rfl)))) (am_nd_ok (am_lf_ok (fun _ => ok_iload dX12_isPlanned_49 rfl)) (am_nd_ok (am_lf_ok (fun _ => ok_zret rfl dX12_isPlanned_51)) (am_lf_ok (fun _ => ok_iload dX12_isPlanned_52 rfl))))) (am_nd_ok (am_nd_ok (am_lf_ok (fun _ => ok_istore dX12_isPlanned_54 (Nat.le_of_ble_eq_true rfl) rfl)) (am_nd_ok (am_lf_ok (fun _ => ok_iload dX12_isPlanned_56 rfl)) (am_lf_ok (fun _ => ok_aload_n dX12_isPlanned_58 rfl rfl)))) (am_nd_ok (am_lf_ok (fun _ => ok_get (C := RX12) (TT := TX12) (N := 31) rfl inw_X12 (Nat.le_of_ble_eq_true rfl) wd_448 dX12_isPlanned_59 rfl)) (am_nd_ok (am_lf_ok (fun _ => ok_iconst dX12_isPlanned_62 cv_iconst_0 rfl)) (am_lf_ok (fun _ => ok_iald dX12_isPlanned_63 rfl)))))) (am_nd_ok (am_nd_ok (am_nd_ok (am_lf_ok (fun _ => ok_cmp_ge dX12_isPlanned_64 rfl rfl)) (am_nd_ok (am_lf_ok (fun _ => ok_aload_n dX12_isPlanned_67 rfl rfl)) (am_lf_ok (fun _ => ok_iload_n dX12_isPlanned_68 rfl rfl)))) (am_nd_ok (am_lf_ok (fun _ => ok_iload dX12_isPlanned_69 rfl)) (am_nd_ok (am_lf_ok (fun _ => ok_cvI rfl mw_X12_has (ci := 12) rfl rfl wd_465 wd_466 wd_467 dX12_isPlanned_71 rfl)) (am_lf_ok (fun _ => ok_if_eq dX12_isPlanned_74 rfl rfl))))) (am_nd_ok (am_nd_ok (am_lf_ok (fun _ => ok_goto dX12_isPlanned_77 rfl)) (am_nd_ok (am_lf_ok (fun _ => ok_aload_n dX12_isPlanned_80 rfl rfl)) (am_lf_ok (fun _ => ok_get (C := RX12) (TT := TX12) (N := 31) rfl inw_X12 (Nat.le_of_ble_eq_true rfl) wd_611 dX12_isPlanned_81 rfl)))) (am_nd_ok (am_lf_ok (fun _ => ok_iload_n dX12_isPlanned_84 rfl rfl)) (am_nd_ok (am_lf_ok (fun _ => ok_iload dX12_isPlanned_85 rfl)) (am_lf_ok (fun _ => ok_iast dX12_isPlanned_87 rfl))))))
def tX12_isPlanned_2 : Nat → Option am_Act := am_nd 97 (am_nd 92 (am_nd 90 (am_nd 89 (am_lf 88 (a_aload 0 89)) (am_lf 89 (a_iload 1 90))) (am_nd 91 (am_lf 90 (a_iload 2 91)) (am_lf 91 (a_const (nI 1) 92)))) (am_nd 94 (am_nd 93 (am_lf 92 (a_bin (fun x y => x + y) 93)) (am_lf 93 (a_iload 3 94))) (am_nd 96 (am_lf 94 (a_iload 5 96)) (am_lf 96 (a_const (nI 1) 97))))) (am_nd 105 (am_nd 101 (am_nd 98 (am_lf 97 (a_bin (fun x y => x + y) 98)) (am_lf 98 (a_cvI tT mX12_isPlanned 12 4 101))) (am_nd 104 (am_lf 101 (a_if (fun x => x = nI 0) 106 104)) (am_lf 104 (a_const (nI 1) 105)))) (am_nd 109 (am_nd 106 (am_lf 105 (a_zret)) (am_lf 106 (a_iinc 5 (nI 1) 109))) (am_nd 112 (am_lf 109 (a_goto 56)) (am_nd 113 (am_lf 112 (a_const (nI 0) 113)) (am_lf 113 (a_zret))))))
theorem gX12_isPlanned_2 : am_Good tT mX12_isPlanned tX12_isPlanned_2 := am_nd_ok (am_nd_ok (am_nd_ok (am_nd_ok (am_lf_ok (fun _ => ok_aload_n dX12_isPlanned_88 rfl rfl)) (am_lf_ok (fun _ => ok_iload_n dX12_isPlanned_89 rfl rfl))) (am_nd_ok (am_lf_ok (fun _ => ok_iload_n dX12_isPlanned_90 rfl rfl)) (am_lf_ok (fun _ => ok_iconst dX12_isPlanned_91 cv_iconst_1 rfl)))) (am_nd_ok (am_nd_ok (am_lf_ok (fun _ => ok_iadd dX12_isPlanned_92 rfl)) (am_lf_ok (fun _ => ok_iload_n dX12_isPlanned_93 rfl rfl))) (am_nd_ok (am_lf_ok (fun _ => ok_iload dX12_isPlanned_94 rfl)) (am_lf_ok (fun _ => ok_iconst dX12_isPlanned_96 cv_iconst_1 rfl))))) (am_nd_ok (am_nd_ok (am_nd_ok (am_lf_ok (fun _ => ok_iadd dX12_isPlanned_97 rfl)) (am_lf_ok (fun _ => ok_cvI rfl mw_X12_isPlanned (ci := 12) rfl rfl wd_615 wd_616 wd_617 dX12_isPlanned_98 rfl))) (am_nd_ok (am_lf_ok (fun _ => ok_if_eq dX12_isPlanned_101 rfl rfl)) (am_lf_ok (fun _ => ok_iconst dX12_isPlanned_104 cv_iconst_1 rfl)))) (am_nd_ok (am_nd_ok (am_lf_ok (fun _ => ok_zret rfl dX12_isPlanned_105)) (am_lf_ok (fun _ => ok_iinc dX12_isPlanned_106 cv_iconst_1 (Nat.le_of_ble_eq_true rfl) rfl))) (am_nd_ok (am_lf_ok (fun _ => ok_goto dX12_isPlanned_109 rfl)) (am_nd_ok (am_lf_ok (fun _ => ok_iconst dX12_isPlanned_112 cv_iconst_0 rfl)) (am_lf_ok (fun _ => ok_zret rfl dX12_isPlanned_113))))))
def tX12_isPlanned : Nat → Option am_Act := am_nd 44 (tX12_isPlanned_0) (am_nd 88 (tX12_isPlanned_1) (tX12_isPlanned_2))
theorem gX12_isPlanned : am_Good tT mX12_isPlanned tX12_isPlanned := am_nd_ok (gX12_isPlanned_0) (am_nd_ok (gX12_isPlanned_1) (gX12_isPlanned_2))
theorem dX12_plan_0 : decode cX12_plan 0 = .ok (.aload_n 0, 1) := by decide +kernel
theorem dX12_plan_1 : decode cX12_plan 1 = .ok (.iload_n 1, 1) := by decide +kernel
theorem dX12_plan_2 : decode cX12_plan 2 = .ok (.invokevirtual 84, 3) := by decide +kernel
theorem dX12_plan_5 : decode cX12_plan 5 = .ok (.ifCond .eq 26, 3) := by decide +kernel
theorem dX12_plan_8 : decode cX12_plan 8 = .ok (.iload_n 2, 1) := by decide +kernel
theorem dX12_plan_9 : decode cX12_plan 9 = .ok (.ifCond .eq 14, 3) := by decide +kernel
theorem dX12_plan_12 : decode cX12_plan 12 = .ok (.iload_n 2, 1) := by decide +kernel
theorem dX12_plan_13 : decode cX12_plan 13 = .ok (.bipush 10, 2) := by decide +kernel
theorem dX12_plan_15 : decode cX12_plan 15 = .ok (.bipush 12, 2) := by decide +kernel
theorem dX12_plan_17 : decode cX12_plan 17 = .ok (.invokestatic 56, 3) := by decide +kernel
theorem dX12_plan_20 : decode cX12_plan 20 = .ok (.ifCond .eq 11, 3) := by decide +kernel
theorem dX12_plan_23 : decode cX12_plan 23 = .ok (.aload_n 0, 1) := by decide +kernel
theorem dX12_plan_24 : decode cX12_plan 24 = .ok (.iload_n 1, 1) := by decide +kernel
theorem dX12_plan_25 : decode cX12_plan 25 = .ok (.invokevirtual 297, 3) := by decide +kernel
theorem dX12_plan_28 : decode cX12_plan 28 = .ok (.ifCond .ne 5, 3) := by decide +kernel
theorem dX12_plan_31 : decode cX12_plan 31 = .ok (.iconst (-1), 1) := by decide +kernel
theorem dX12_plan_32 : decode cX12_plan 32 = .ok (.ireturn, 1) := by decide +kernel
theorem dX12_plan_33 : decode cX12_plan 33 = .ok (.iconst 0, 1) := by decide +kernel
theorem dX12_plan_34 : decode cX12_plan 34 = .ok (.istore_n 3, 1) := by decide +kernel
theorem dX12_plan_35 : decode cX12_plan 35 = .ok (.iload_n 3, 1) := by decide +kernel
theorem dX12_plan_36 : decode cX12_plan 36 = .ok (.iconst 4, 1) := by decide +kernel
theorem dX12_plan_37 : decode cX12_plan 37 = .ok (.if_icmp .ge 63, 3) := by decide +kernel
theorem dX12_plan_40 : decode cX12_plan 40 = .ok (.aload_n 0, 1) := by decide +kernel
theorem dX12_plan_41 : decode cX12_plan 41 = .ok (.iload_n 1, 1) := by decide +kernel
theorem dX12_plan_42 : decode cX12_plan 42 = .ok (.iconst 2, 1) := by decide +kernel
theorem dX12_plan_43 : decode cX12_plan 43 = .ok (.invokevirtual 76, 3) := by decide +kernel
theorem dX12_plan_46 : decode cX12_plan 46 = .ok (.iload_n 3, 1) := by decide +kernel
theorem dX12_plan_47 : decode cX12_plan 47 = .ok (.iadd, 1) := by decide +kernel
theorem dX12_plan_48 : decode cX12_plan 48 = .ok (.bipush 9, 2) := by decide +kernel
theorem dX12_plan_50 : decode cX12_plan 50 = .ok (.if_icmp .gt 50, 3) := by decide +kernel
theorem dX12_plan_53 : decode cX12_plan 53 = .ok (.aload_n 0, 1) := by decide +kernel
theorem dX12_plan_54 : decode cX12_plan 54 = .ok (.iload_n 1, 1) := by decide +kernel
theorem dX12_plan_55 : decode cX12_plan 55 = .ok (.iconst 0, 1) := by decide +kernel
theorem dX12_plan_56 : decode cX12_plan 56 = .ok (.iload_n 3, 1) := by decide +kernel
theorem dX12_plan_57 : decode cX12_plan 57 = .ok (.iconst 0, 1) := by decide +kernel
theorem dX12_plan_58 : decode cX12_plan 58 = .ok (.invokevirtual 293, 3) := by decide +kernel
theorem dX12_plan_61 : decode cX12_plan 61 = .ok (.ifCond .eq 33, 3) := by decide +kernel
theorem dX12_plan_64 : decode cX12_plan 64 = .ok (.iload_n 2, 1) := by decide +kernel
theorem dX12_plan_65 : decode cX12_plan 65 = .ok (.ifCond .ne 7, 3) := by decide +kernel
theorem dX12_plan_68 : decode cX12_plan 68 = .ok (.iload_n 3, 1) := by decide +kernel
theorem dX12_plan_69 : decode cX12_plan 69 = .ok (.goto 24, 3) := by decide +kernel
theorem dX12_plan_72 : decode cX12_plan 72 = .ok (.iload_n 2, 1) := by decide +kernel
theorem dX12_plan_73 : decode cX12_plan 73 = .ok (.bipush 10, 2) := by decide +kernel
theorem dX12_plan_75 : decode cX12_plan 75 = .ok (.isub, 1) := by decide +kernel
theorem dX12_plan_76 : decode cX12_plan 76 = .ok (.iload_n 3, 1) := by decide +kernel
theorem dX12_plan_77 : decode cX12_plan 77 = .ok (.if_icmp .ge 15, 3) := by decide +kernel
theorem dX12_plan_80 : decode cX12_plan 80 = .ok (.aload_n 0, 1) := by decide +kernel
theorem dX12_plan_81 : decode cX12_plan 81 = .ok (.getfield 47, 3) := by decide +kernel
theorem dX12_plan_84 : decode cX12_plan 84 = .ok (.iload_n 2, 1) := by decide +kernel
theorem dX12_plan_85 : decode cX12_plan 85 = .ok (.bipush 10, 2) := by decide +kernel
theorem dX12_plan_87 : decode cX12_plan 87 = .ok (.isub, 1) := by decide +kernel
theorem dX12_plan_88 : decode cX12_plan 88 = .ok (.iaload, 1) := by decide +kernel
theorem dX12_plan_89 : decode cX12_plan 89 = .ok (.goto 4, 3) := by decide +kernel
theorem dX12_plan_92 : decode cX12_plan 92 = .ok (.iconst (-1), 1) := by decide +kernel
theorem dX12_plan_93 : decode cX12_plan 93 = .ok (.ireturn, 1) := by decide +kernel
theorem dX12_plan_94 : decode cX12_plan 94 = .ok (.iinc 3 1, 3) := by decide +kernel
theorem dX12_plan_97 : decode cX12_plan 97 = .ok (.goto (-62), 3) := by decide +kernel
theorem dX12_plan_100 : decode cX12_plan 100 = .ok (.iconst (-1), 1) := by decide +kernel
theorem dX12_plan_101 : decode cX12_plan 101 = .ok (.ireturn, 1) := by decide +kernel
def tX12_plan_0 : Nat → Option am_Act := am_nd 24 (am_nd 12 (am_nd 5 (am_nd 1 (am_lf 0 (a_aload 0 1)) (am_nd 2 (am_lf 1 (a_iload 1 2)) (am_lf 2 (a_cvI tT mX12_isPerson 12 1 5)))) (am_nd 8 (am_lf 5 (a_if (fun x => x = nI 0) 31 8)) (am_nd 9 (am_lf 8 (a_iload 2 9)) (am_lf 9 (a_if (fun x => x = nI 0) 23 12))))) (am_nd 17 (am_nd 13 (am_lf 12 (a_iload 2 13)) (am_nd 15 (am_lf 13 (a_const (nI 10) 15)) (am_lf 15 (a_const (nI 12) 17)))) (am_nd 20 (am_lf 17 (a_csI mX12_isIn 3 20)) (am_nd 23 (am_lf 20 (a_if (fun x => x = nI 0) 31 23)) (am_lf 23 (a_aload 0 24)))))) (am_nd 34 (am_nd 31 (am_nd 25 (am_lf 24 (a_iload 1 25)) (am_nd 28 (am_lf 25 (a_cvI tT mX12_isRound 12 1 28)) (am_lf 28 (a_if (fun x => x = nI 0) 31 33)))) (am_nd 32 (am_lf 31 (a_const (-1) 32)) (am_nd 33 (am_lf 32 (a_iret)) (am_lf 33 (a_const (nI 0) 34))))) (am_nd 37 (am_nd 35 (am_lf 34 (a_istore 3 35)) (am_nd 36 (am_lf 35 (a_iload 3 36)) (am_lf 36 (a_const (nI 4) 37)))) (am_nd 40 (am_lf 37 (a_cmp (fun x y => y ≤ x) 100 40)) (am_nd 41 (am_lf 40 (a_aload 0 41)) (am_lf 41 (a_iload 1 42))))))
theorem gX12_plan_0 : am_Good tT mX12_plan tX12_plan_0 := am_nd_ok (am_nd_ok (am_nd_ok (am_nd_ok (am_lf_ok (fun _ => ok_aload_n dX12_plan_0 rfl rfl)) (am_nd_ok (am_lf_ok (fun _ => ok_iload_n dX12_plan_1 rfl rfl)) (am_lf_ok (fun _ => ok_cvI rfl mw_X12_isPerson (ci := 12) rfl rfl wd_468 wd_469 wd_470 dX12_plan_2 rfl)))) (am_nd_ok (am_lf_ok (fun _ => ok_if_eq dX12_plan_5 rfl rfl)) (am_nd_ok (am_lf_ok (fun _ => ok_iload_n dX12_plan_8 rfl rfl)) (am_lf_ok (fun _ => ok_if_eq dX12_plan_9 rfl rfl))))) (am_nd_ok (am_nd_ok (am_lf_ok (fun _ => ok_iload_n dX12_plan_12 rfl rfl)) (am_nd_ok (am_lf_ok (fun _ => ok_bipush dX12_plan_13 cv_bipush_10 rfl)) (am_lf_ok (fun _ => ok_bipush dX12_plan_15 cv_bipush_12 rfl)))) (am_nd_ok (am_lf_ok (fun _ => ok_csI rfl mw_X12_isIn wd_449 wd_450 dX12_plan_17 rfl)) (am_nd_ok (am_lf_ok (fun _ => ok_if_eq dX12_plan_20 rfl rfl)) (am_lf_ok (fun _ => ok_aload_n dX12_plan_23 rfl rfl)))))) (am_nd_ok (am_nd_ok (am_nd_ok (am_lf_ok (fun _ => ok_iload_n dX12_plan_24 rfl rfl)) (am_nd_ok (am_lf_ok (fun _ => ok_cvI rfl mw_X12_isRound (ci := 12) rfl rfl wd_618 wd_619 wd_620 dX12_plan_25 rfl)) (am_lf_ok (fun _ => ok_if_ne dX12_plan_28 rfl rfl)))) (am_nd_ok (am_lf_ok (fun _ => ok_iconst dX12_plan_31 cv_iconst_m1 rfl)) (am_nd_ok (am_lf_ok (fun _ => ok_iret rfl dX12_plan_32)) (am_lf_ok (fun _ => ok_iconst dX12_plan_33 cv_iconst_0 rfl))))) (am_nd_ok (am_nd_ok (am_lf_ok (fun _ => ok_istore_n dX12_plan_34 rfl (Nat.le_of_ble_eq_true rfl) rfl)) (am_nd_ok (am_lf_ok (fun _ => ok_iload_n dX12_plan_35 rfl rfl)) (am_lf_ok (fun _ => ok_iconst dX12_plan_36 cv_iconst_4 rfl)))) (am_nd_ok (am_lf_ok (fun _ => ok_cmp_ge dX12_plan_37 rfl rfl)) (am_nd_ok (am_lf_ok (fun _ => ok_aload_n dX12_plan_40 rfl rfl)) (am_lf_ok (fun _ => ok_iload_n dX12_plan_41 rfl rfl))))))
def tX12_plan_1 : Nat → Option am_Act := am_nd 61 (am_nd 53 (am_nd 47 (am_nd 43 (am_lf 42 (a_const (nI 2) 43)) (am_nd 46 (am_lf 43 (a_cvI tT mX12_own 12 2 46)) (am_lf 46 (a_iload 3 47)))) (am_nd 48 (am_lf 47 (a_bin (fun x y => x + y) 48)) (am_nd 50 (am_lf 48 (a_const (nI 9) 50)) (am_lf 50 (a_cmp (fun x y => y < x) 100 53))))) (am_nd 56 (am_nd 54 (am_lf 53 (a_aload 0 54)) (am_nd 55 (am_lf 54 (a_iload 1 55)) (am_lf 55 (a_const (nI 0) 56)))) (am_nd 57 (am_lf 56 (a_iload 3 57)) (am_nd 58 (am_lf 57 (a_const (nI 0) 58)) (am_lf 58 (a_cvI tT mX12_isPlanned 12 4 61)))))) (am_nd 73 (am_nd 68 (am_nd 64 (am_lf 61 (a_if (fun x => x = nI 0) 94 64)) (am_nd 65 (am_lf 64 (a_iload 2 65)) (am_lf 65 (a_if (fun x => x = nI 0) 68 72)))) (am_nd 69 (am_lf 68 (a_iload 3 69)) (am_nd 72 (am_lf 69 (a_goto 93)) (am_lf 72 (a_iload 2 73))))) (am_nd 77 (am_nd 75 (am_lf 73 (a_const (nI 10) 75)) (am_nd 76 (am_lf 75 (a_bin (fun x y => x - y) 76)) (am_lf 76 (a_iload 3 77)))) (am_nd 80 (am_lf 77 (a_cmp (fun x y => y ≤ x) 92 80)) (am_nd 81 (am_lf 80 (a_aload 0 81)) (am_lf 81 (a_get tT 12 27 84))))))
theorem gX12_plan_1 : am_Good tT mX12_plan tX12_plan_1 := am_nd_ok (am_nd_ok (am_nd_ok (am_nd_ok (am_lf_ok (fun _ => ok_iconst dX12_plan_42 cv_iconst_2 rfl)) (am_nd_ok (am_lf_ok (fun _ => ok_cvI rfl mw_X12_own (ci := 12) rfl rfl wd_462 wd_463 wd_464 dX12_plan_43 rfl)) (am_lf_ok (fun _ => ok_iload_n dX12_plan_46 rfl rfl)))) (am_nd_ok (am_lf_ok (fun _ => ok_iadd dX12_plan_47 rfl)) (am_nd_ok (am_lf_ok (fun _ => ok_bipush dX12_plan_48 cv_bipush_9 rfl)) (am_lf_ok (fun _ => ok_cmp_gt dX12_plan_50 rfl rfl))))) (am_nd_ok (am_nd_ok (am_lf_ok (fun _ => ok_aload_n dX12_plan_53 rfl rfl)) (am_nd_ok (am_lf_ok (fun _ => ok_iload_n dX12_plan_54 rfl rfl)) (am_lf_ok (fun _ => ok_iconst dX12_plan_55 cv_iconst_0 rfl)))) (am_nd_ok (am_lf_ok (fun _ => ok_iload_n dX12_plan_56 rfl rfl)) (am_nd_ok (am_lf_ok (fun _ => ok_iconst dX12_plan_57 cv_iconst_0 rfl)) (am_lf_ok (fun _ => ok_cvI rfl mw_X12_isPlanned (ci := 12) rfl rfl wd_615 wd_616 wd_617 dX12_plan_58 rfl)))))) (am_nd_ok (am_nd_ok (am_nd_ok (am_lf_ok (fun _ => ok_if_eq dX12_plan_61 rfl rfl)) (am_nd_ok (am_lf_ok (fun _ => ok_iload_n dX12_plan_64 rfl rfl)) (am_lf_ok (fun _ => ok_if_ne dX12_plan_65 rfl rfl)))) (am_nd_ok (am_lf_ok (fun _ => ok_iload_n dX12_plan_68 rfl rfl)) (am_nd_ok (am_lf_ok (fun _ => ok_goto dX12_plan_69 rfl)) (am_lf_ok (fun _ => ok_iload_n dX12_plan_72 rfl rfl))))) (am_nd_ok (am_nd_ok (am_lf_ok (fun _ => ok_bipush dX12_plan_73 cv_bipush_10 rfl)) (am_nd_ok (am_lf_ok (fun _ => ok_isub dX12_plan_75 rfl)) (am_lf_ok (fun _ => ok_iload_n dX12_plan_76 rfl rfl)))) (am_nd_ok (am_lf_ok (fun _ => ok_cmp_ge dX12_plan_77 rfl rfl)) (am_nd_ok (am_lf_ok (fun _ => ok_aload_n dX12_plan_80 rfl rfl)) (am_lf_ok (fun _ => ok_get (C := RX12) (TT := TX12) (N := 31) rfl inw_X12 (Nat.le_of_ble_eq_true rfl) wd_611 dX12_plan_81 rfl))))))
def tX12_plan_2 : Nat → Option am_Act := am_nd 92 (am_nd 87 (am_nd 85 (am_lf 84 (a_iload 2 85)) (am_lf 85 (a_const (nI 10) 87))) (am_nd 88 (am_lf 87 (a_bin (fun x y => x - y) 88)) (am_nd 89 (am_lf 88 (a_iald tT 89)) (am_lf 89 (a_goto 93))))) (am_nd 97 (am_nd 93 (am_lf 92 (a_const (-1) 93)) (am_nd 94 (am_lf 93 (a_iret)) (am_lf 94 (a_iinc 3 (nI 1) 97)))) (am_nd 100 (am_lf 97 (a_goto 35)) (am_nd 101 (am_lf 100 (a_const (-1) 101)) (am_lf 101 (a_iret)))))
theorem gX12_plan_2 : am_Good tT mX12_plan tX12_plan_2 := am_nd_ok (am_nd_ok (am_nd_ok (am_lf_ok (fun _ => ok_iload_n dX12_plan_84 rfl rfl)) (am_lf_ok (fun _ => ok_bipush dX12_plan_85 cv_bipush_10 rfl))) (am_nd_ok (am_lf_ok (fun _ => ok_isub dX12_plan_87 rfl)) (am_nd_ok (am_lf_ok (fun _ => ok_iald dX12_plan_88 rfl)) (am_lf_ok (fun _ => ok_goto dX12_plan_89 rfl))))) (am_nd_ok (am_nd_ok (am_lf_ok (fun _ => ok_iconst dX12_plan_92 cv_iconst_m1 rfl)) (am_nd_ok (am_lf_ok (fun _ => ok_iret rfl dX12_plan_93)) (am_lf_ok (fun _ => ok_iinc dX12_plan_94 cv_iconst_1 (Nat.le_of_ble_eq_true rfl) rfl)))) (am_nd_ok (am_lf_ok (fun _ => ok_goto dX12_plan_97 rfl)) (am_nd_ok (am_lf_ok (fun _ => ok_iconst dX12_plan_100 cv_iconst_m1 rfl)) (am_lf_ok (fun _ => ok_iret rfl dX12_plan_101)))))
def tX12_plan : Nat → Option am_Act := am_nd 42 (tX12_plan_0) (am_nd 84 (tX12_plan_1) (tX12_plan_2))
theorem gX12_plan : am_Good tT mX12_plan tX12_plan := am_nd_ok (gX12_plan_0) (am_nd_ok (gX12_plan_1) (gX12_plan_2))
