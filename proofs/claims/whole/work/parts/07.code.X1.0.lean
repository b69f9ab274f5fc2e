/-! ===== code of TollOfNames$BestWay ===== -/
theorem dX1_find_0 : decode cX1_find 0 = .ok (.aload_n 0, 1) := by decide +kernel
theorem dX1_find_1 : decode cX1_find 1 = .ok (.iload_n 1, 1) := by decide +kernel
theorem dX1_find_2 : decode cX1_find 2 = .ok (.putfield 26, 3) := by decide +kernel
theorem dX1_find_5 : decode cX1_find 5 = .ok (.aload_n 0, 1) := by decide +kernel
theorem dX1_find_6 : decode cX1_find 6 = .ok (.iload_n 2, 1) := by decide +kernel
theorem dX1_find_7 : decode cX1_find 7 = .ok (.putfield 30, 3) := by decide +kernel
theorem dX1_find_10 : decode cX1_find 10 = .ok (.aload_n 0, 1) := by decide +kernel
theorem dX1_find_11 : decode cX1_find 11 = .ok (.bipush 10, 2) := by decide +kernel
theorem dX1_find_13 : decode cX1_find 13 = .ok (.putfield 33, 3) := by decide +kernel
theorem dX1_find_16 : decode cX1_find 16 = .ok (.aload_n 0, 1) := by decide +kernel
theorem dX1_find_17 : decode cX1_find 17 = .ok (.iconst 0, 1) := by decide +kernel
theorem dX1_find_18 : decode cX1_find 18 = .ok (.putfield 36, 3) := by decide +kernel
theorem dX1_find_21 : decode cX1_find 21 = .ok (.aload_n 0, 1) := by decide +kernel
theorem dX1_find_22 : decode cX1_find 22 = .ok (.iconst 1, 1) := by decide +kernel
theorem dX1_find_23 : decode cX1_find 23 = .ok (.aload_n 0, 1) := by decide +kernel
theorem dX1_find_24 : decode cX1_find 24 = .ok (.getfield 18, 3) := by decide +kernel
theorem dX1_find_27 : decode cX1_find 27 = .ok (.getfield 39, 3) := by decide +kernel
theorem dX1_find_30 : decode cX1_find 30 = .ok (.getfield 45, 3) := by decide +kernel
theorem dX1_find_33 : decode cX1_find 33 = .ok (.iload_n 1, 1) := by decide +kernel
theorem dX1_find_34 : decode cX1_find 34 = .ok (.iaload, 1) := by decide +kernel
theorem dX1_find_35 : decode cX1_find 35 = .ok (.ishl, 1) := by decide +kernel
theorem dX1_find_36 : decode cX1_find 36 = .ok (.iconst 0, 1) := by decide +kernel
theorem dX1_find_37 : decode cX1_find 37 = .ok (.iconst 0, 1) := by decide +kernel
theorem dX1_find_38 : decode cX1_find 38 = .ok (.invokevirtual 50, 3) := by decide +kernel
theorem dX1_find_41 : decode cX1_find 41 = .ok (.aload_n 0, 1) := by decide +kernel
theorem dX1_find_42 : decode cX1_find 42 = .ok (.getfield 36, 3) := by decide +kernel
theorem dX1_find_45 : decode cX1_find 45 = .ok (.ifCond .le 7, 3) := by decide +kernel
theorem dX1_find_48 : decode cX1_find 48 = .ok (.iconst 1, 1) := by decide +kernel
theorem dX1_find_49 : decode cX1_find 49 = .ok (.goto 4, 3) := by decide +kernel
theorem dX1_find_52 : decode cX1_find 52 = .ok (.iconst 0, 1) := by decide +kernel
theorem dX1_find_53 : decode cX1_find 53 = .ok (.ireturn, 1) := by decide +kernel
def tX1_find_0 : Nat → Option am_Act := am_nd 21 (am_nd 10 (am_nd 5 (am_nd 1 (am_lf 0 (a_aload 0 1)) (am_nd 2 (am_lf 1 (a_iload 1 2)) (am_lf 2 (a_put tT 1 2 5)))) (am_nd 6 (am_lf 5 (a_aload 0 6)) (am_nd 7 (am_lf 6 (a_iload 2 7)) (am_lf 7 (a_put tT 1 3 10))))) (am_nd 16 (am_nd 11 (am_lf 10 (a_aload 0 11)) (am_nd 13 (am_lf 11 (a_const (nI 10) 13)) (am_lf 13 (a_put tT 1 4 16)))) (am_nd 17 (am_lf 16 (a_aload 0 17)) (am_nd 18 (am_lf 17 (a_const (nI 0) 18)) (am_lf 18 (a_put tT 1 5 21)))))) (am_nd 33 (am_nd 24 (am_nd 22 (am_lf 21 (a_aload 0 22)) (am_nd 23 (am_lf 22 (a_const (nI 1) 23)) (am_lf 23 (a_aload 0 24)))) (am_nd 27 (am_lf 24 (a_get tT 1 0 27)) (am_nd 30 (am_lf 27 (a_get tT 10 11 30)) (am_lf 30 (a_get tT 5 1 33))))) (am_nd 36 (am_nd 34 (am_lf 33 (a_iload 1 34)) (am_nd 35 (am_lf 34 (a_iald tT 35)) (am_lf 35 (a_bin (fun x y => x <<< (y &&& 31)) 36)))) (am_nd 37 (am_lf 36 (a_const (nI 0) 37)) (am_nd 38 (am_lf 37 (a_const (nI 0) 38)) (am_lf 38 (a_cvV tT mX1_seek 1 3 41))))))
theorem gX1_find_0 : am_Good tT mX1_find tX1_find_0 := am_nd_ok (am_nd_ok (am_nd_ok (am_nd_ok (am_lf_ok (fun _ => ok_aload_n dX1_find_0 rfl rfl)) (am_nd_ok (am_lf_ok (fun _ => ok_iload_n dX1_find_1 rfl rfl)) (am_lf_ok (fun _ => ok_put (C := RX1) (TT := TX1) (N := 8) (ty0 := tyX1) rfl inw_X1 tyX1_ok nmX1 (Nat.le_of_ble_eq_true rfl) rfl rfl wd_34 dX1_find_2 rfl)))) (am_nd_ok (am_lf_ok (fun _ => ok_aload_n dX1_find_5 rfl rfl)) (am_nd_ok (am_lf_ok (fun _ => ok_iload_n dX1_find_6 rfl rfl)) (am_lf_ok (fun _ => ok_put (C := RX1) (TT := TX1) (N := 8) (ty0 := tyX1) rfl inw_X1 tyX1_ok nmX1 (Nat.le_of_ble_eq_true rfl) rfl rfl wd_35 dX1_find_7 rfl))))) (am_nd_ok (am_nd_ok (am_lf_ok (fun _ => ok_aload_n dX1_find_10 rfl rfl)) (am_nd_ok (am_lf_ok (fun _ => ok_bipush dX1_find_11 cv_bipush_10 rfl)) (am_lf_ok (fun _ => ok_put (C := RX1) (TT := TX1) (N := 8) (ty0 := tyX1) rfl inw_X1 tyX1_ok nmX1 (Nat.le_of_ble_eq_true rfl) rfl rfl wd_36 dX1_find_13 rfl)))) (am_nd_ok (am_lf_ok (fun _ => ok_aload_n dX1_find_16 rfl rfl)) (am_nd_ok (am_lf_ok (fun _ => ok_iconst dX1_find_17 cv_iconst_0 rfl)) (am_lf_ok (fun _ => ok_put (C := RX1) (TT := TX1) (N := 8) (ty0 := tyX1) rfl inw_X1 tyX1_ok nmX1 (Nat.le_of_ble_eq_true rfl) rfl rfl wd_37 dX1_find_18 rfl)))))) (am_nd_ok (am_nd_ok (am_nd_ok (am_lf_ok (fun _ => ok_aload_n dX1_find_21 rfl rfl)) (am_nd_ok (am_lf_ok (fun _ => ok_iconst dX1_find_22 cv_iconst_1 rfl)) (am_lf_ok (fun _ => ok_aload_n dX1_find_23 rfl rfl)))) (am_nd_ok (am_lf_ok (fun _ => ok_get (C := RX1) (TT := TX1) (N := 8) rfl inw_X1 (Nat.le_of_ble_eq_true rfl) wd_38 dX1_find_24 rfl)) (am_nd_ok (am_lf_ok (fun _ => ok_get (C := RX10) (TT := TX10) (N := 14) rfl inw_X10 (Nat.le_of_ble_eq_true rfl) wd_39 dX1_find_27 rfl)) (am_lf_ok (fun _ => ok_get (C := RX5) (TT := TX5) (N := 8) rfl inw_X5 (Nat.le_of_ble_eq_true rfl) wd_40 dX1_find_30 rfl))))) (am_nd_ok (am_nd_ok (am_lf_ok (fun _ => ok_iload_n dX1_find_33 rfl rfl)) (am_nd_ok (am_lf_ok (fun _ => ok_iald dX1_find_34 rfl)) (am_lf_ok (fun _ => ok_ishl dX1_find_35 rfl)))) (am_nd_ok (am_lf_ok (fun _ => ok_iconst dX1_find_36 cv_iconst_0 rfl)) (am_nd_ok (am_lf_ok (fun _ => ok_iconst dX1_find_37 cv_iconst_0 rfl)) (am_lf_ok (fun _ => ok_cvV rfl mw_X1_seek (ci := 1) rfl rfl wd_41 wd_42 wd_43 dX1_find_38 rfl))))))
def tX1_find_1 : Nat → Option am_Act := am_nd 48 (am_nd 42 (am_lf 41 (a_aload 0 42)) (am_nd 45 (am_lf 42 (a_get tT 1 5 45)) (am_lf 45 (a_if (fun x => x ≤ nI 0) 52 48)))) (am_nd 52 (am_nd 49 (am_lf 48 (a_const (nI 1) 49)) (am_lf 49 (a_goto 53))) (am_nd 53 (am_lf 52 (a_const (nI 0) 53)) (am_lf 53 (a_zret))))
theorem gX1_find_1 : am_Good tT mX1_find tX1_find_1 := am_nd_ok (am_nd_ok (am_lf_ok (fun _ => ok_aload_n dX1_find_41 rfl rfl)) (am_nd_ok (am_lf_ok (fun _ => ok_get (C := RX1) (TT := TX1) (N := 8) rfl inw_X1 (Nat.le_of_ble_eq_true rfl) wd_37 dX1_find_42 rfl)) (am_lf_ok (fun _ => ok_if_le dX1_find_45 rfl rfl)))) (am_nd_ok (am_nd_ok (am_lf_ok (fun _ => ok_iconst dX1_find_48 cv_iconst_1 rfl)) (am_lf_ok (fun _ => ok_goto dX1_find_49 rfl))) (am_nd_ok (am_lf_ok (fun _ => ok_iconst dX1_find_52 cv_iconst_0 rfl)) (am_lf_ok (fun _ => ok_zret rfl dX1_find_53))))
def tX1_find : Nat → Option am_Act := am_nd 41 (tX1_find_0) (tX1_find_1)
theorem gX1_find : am_Good tT mX1_find tX1_find := am_nd_ok (gX1_find_0) (gX1_find_1)
theorem dX1_seek_0 : decode cX1_seek 0 = .ok (.iload_n 2, 1) := by decide +kernel
theorem dX1_seek_1 : decode cX1_seek 1 = .ok (.bipush 7, 2) := by decide +kernel
theorem dX1_seek_3 : decode cX1_seek 3 = .ok (.if_icmp .lt 4, 3) := by decide +kernel
theorem dX1_seek_6 : decode cX1_seek 6 = .ok (.return_, 1) := by decide +kernel
theorem dX1_seek_7 : decode cX1_seek 7 = .ok (.aload_n 0, 1) := by decide +kernel
theorem dX1_seek_8 : decode cX1_seek 8 = .ok (.getfield 18, 3) := by decide +kernel
theorem dX1_seek_11 : decode cX1_seek 11 = .ok (.getfield 39, 3) := by decide +kernel
theorem dX1_seek_14 : decode cX1_seek 14 = .ok (.getfield 45, 3) := by decide +kernel
theorem dX1_seek_17 : decode cX1_seek 17 = .ok (.aload_n 0, 1) := by decide +kernel
theorem dX1_seek_18 : decode cX1_seek 18 = .ok (.getfield 26, 3) := by decide +kernel
theorem dX1_seek_21 : decode cX1_seek 21 = .ok (.iaload, 1) := by decide +kernel
theorem dX1_seek_22 : decode cX1_seek 22 = .ok (.istore 4, 2) := by decide +kernel
theorem dX1_seek_24 : decode cX1_seek 24 = .ok (.iconst 0, 1) := by decide +kernel
theorem dX1_seek_25 : decode cX1_seek 25 = .ok (.istore 5, 2) := by decide +kernel
theorem dX1_seek_27 : decode cX1_seek 27 = .ok (.iload 5, 2) := by decide +kernel
theorem dX1_seek_29 : decode cX1_seek 29 = .ok (.aload_n 0, 1) := by decide +kernel
theorem dX1_seek_30 : decode cX1_seek 30 = .ok (.getfield 18, 3) := by decide +kernel
theorem dX1_seek_33 : decode cX1_seek 33 = .ok (.getfield 54, 3) := by decide +kernel
theorem dX1_seek_36 : decode cX1_seek 36 = .ok (.getfield 58, 3) := by decide +kernel
theorem dX1_seek_39 : decode cX1_seek 39 = .ok (.if_icmp .ge 182, 3) := by decide +kernel
theorem dX1_seek_42 : decode cX1_seek 42 = .ok (.aload_n 0, 1) := by decide +kernel
theorem dX1_seek_43 : decode cX1_seek 43 = .ok (.getfield 18, 3) := by decide +kernel
theorem dX1_seek_46 : decode cX1_seek 46 = .ok (.getfield 54, 3) := by decide +kernel
theorem dX1_seek_49 : decode cX1_seek 49 = .ok (.iload 5, 2) := by decide +kernel
theorem dX1_seek_51 : decode cX1_seek 51 = .ok (.iload 4, 2) := by decide +kernel
theorem dX1_seek_53 : decode cX1_seek 53 = .ok (.invokevirtual 63, 3) := by decide +kernel
theorem dX1_seek_56 : decode cX1_seek 56 = .ok (.istore 6, 2) := by decide +kernel
theorem dX1_seek_58 : decode cX1_seek 58 = .ok (.aload_n 0, 1) := by decide +kernel
theorem dX1_seek_59 : decode cX1_seek 59 = .ok (.getfield 18, 3) := by decide +kernel
theorem dX1_seek_62 : decode cX1_seek 62 = .ok (.getfield 54, 3) := by decide +kernel
theorem dX1_seek_65 : decode cX1_seek 65 = .ok (.iload 5, 2) := by decide +kernel
theorem dX1_seek_67 : decode cX1_seek 67 = .ok (.iload 4, 2) := by decide +kernel
theorem dX1_seek_69 : decode cX1_seek 69 = .ok (.invokevirtual 67, 3) := by decide +kernel
theorem dX1_seek_72 : decode cX1_seek 72 = .ok (.ifCond .eq 143, 3) := by decide +kernel
theorem dX1_seek_75 : decode cX1_seek 75 = .ok (.iload_n 1, 1) := by decide +kernel
theorem dX1_seek_76 : decode cX1_seek 76 = .ok (.iload 6, 2) := by decide +kernel
theorem dX1_seek_78 : decode cX1_seek 78 = .ok (.ishr, 1) := by decide +kernel
theorem dX1_seek_79 : decode cX1_seek 79 = .ok (.iconst 1, 1) := by decide +kernel
theorem dX1_seek_80 : decode cX1_seek 80 = .ok (.iand, 1) := by decide +kernel
theorem dX1_seek_81 : decode cX1_seek 81 = .ok (.ifCond .eq 6, 3) := by decide +kernel
theorem dX1_seek_84 : decode cX1_seek 84 = .ok (.goto 131, 3) := by decide +kernel
theorem dX1_seek_87 : decode cX1_seek 87 = .ok (.aload_n 0, 1) := by decide +kernel
theorem dX1_seek_88 : decode cX1_seek 88 = .ok (.getfield 22, 3) := by decide +kernel
theorem dX1_seek_91 : decode cX1_seek 91 = .ok (.aload_n 0, 1) := by decide +kernel
theorem dX1_seek_92 : decode cX1_seek 92 = .ok (.getfield 26, 3) := by decide +kernel
theorem dX1_seek_95 : decode cX1_seek 95 = .ok (.iload 5, 2) := by decide +kernel
theorem dX1_seek_97 : decode cX1_seek 97 = .ok (.invokevirtual 71, 3) := by decide +kernel
theorem dX1_seek_100 : decode cX1_seek 100 = .ok (.istore 7, 2) := by decide +kernel
theorem dX1_seek_102 : decode cX1_seek 102 = .ok (.iload 7, 2) := by decide +kernel
theorem dX1_seek_104 : decode cX1_seek 104 = .ok (.bipush 100, 2) := by decide +kernel
theorem dX1_seek_106 : decode cX1_seek 106 = .ok (.if_icmp .ne 7, 3) := by decide +kernel
theorem dX1_seek_109 : decode cX1_seek 109 = .ok (.iload_n 3, 1) := by decide +kernel
theorem dX1_seek_110 : decode cX1_seek 110 = .ok (.goto 6, 3) := by decide +kernel
theorem dX1_seek_113 : decode cX1_seek 113 = .ok (.iload_n 3, 1) := by decide +kernel
theorem dX1_seek_114 : decode cX1_seek 114 = .ok (.iconst 1, 1) := by decide +kernel
theorem dX1_seek_115 : decode cX1_seek 115 = .ok (.iadd, 1) := by decide +kernel
theorem dX1_seek_116 : decode cX1_seek 116 = .ok (.istore 8, 2) := by decide +kernel
theorem dX1_seek_118 : decode cX1_seek 118 = .ok (.iload 7, 2) := by decide +kernel
theorem dX1_seek_120 : decode cX1_seek 120 = .ok (.bipush (-2), 2) := by decide +kernel
theorem dX1_seek_122 : decode cX1_seek 122 = .ok (.if_icmp .eq 93, 3) := by decide +kernel
theorem dX1_seek_125 : decode cX1_seek 125 = .ok (.iload 8, 2) := by decide +kernel
theorem dX1_seek_127 : decode cX1_seek 127 = .ok (.aload_n 0, 1) := by decide +kernel
theorem dX1_seek_128 : decode cX1_seek 128 = .ok (.getfield 33, 3) := by decide +kernel
theorem dX1_seek_131 : decode cX1_seek 131 = .ok (.if_icmp .le 6, 3) := by decide +kernel
theorem dX1_seek_134 : decode cX1_seek 134 = .ok (.goto 81, 3) := by decide +kernel
theorem dX1_seek_137 : decode cX1_seek 137 = .ok (.aload_n 0, 1) := by decide +kernel
theorem dX1_seek_138 : decode cX1_seek 138 = .ok (.getfield 15, 3) := by decide +kernel
theorem dX1_seek_141 : decode cX1_seek 141 = .ok (.iload_n 2, 1) := by decide +kernel
theorem dX1_seek_142 : decode cX1_seek 142 = .ok (.iload 5, 2) := by decide +kernel
theorem dX1_seek_144 : decode cX1_seek 144 = .ok (.iastore, 1) := by decide +kernel
theorem dX1_seek_145 : decode cX1_seek 145 = .ok (.iload 6, 2) := by decide +kernel
theorem dX1_seek_147 : decode cX1_seek 147 = .ok (.aload_n 0, 1) := by decide +kernel
theorem dX1_seek_148 : decode cX1_seek 148 = .ok (.getfield 30, 3) := by decide +kernel
theorem dX1_seek_151 : decode cX1_seek 151 = .ok (.if_icmp .ne 15, 3) := by decide +kernel
theorem dX1_seek_154 : decode cX1_seek 154 = .ok (.aload_n 0, 1) := by decide +kernel
theorem dX1_seek_155 : decode cX1_seek 155 = .ok (.iload_n 2, 1) := by decide +kernel
theorem dX1_seek_156 : decode cX1_seek 156 = .ok (.iconst 1, 1) := by decide +kernel
theorem dX1_seek_157 : decode cX1_seek 157 = .ok (.iadd, 1) := by decide +kernel
theorem dX1_seek_158 : decode cX1_seek 158 = .ok (.iload 8, 2) := by decide +kernel
theorem dX1_seek_160 : decode cX1_seek 160 = .ok (.invokevirtual 76, 3) := by decide +kernel
theorem dX1_seek_163 : decode cX1_seek 163 = .ok (.goto 52, 3) := by decide +kernel
theorem dX1_seek_166 : decode cX1_seek 166 = .ok (.aload_n 0, 1) := by decide +kernel
theorem dX1_seek_167 : decode cX1_seek 167 = .ok (.getfield 22, 3) := by decide +kernel
theorem dX1_seek_170 : decode cX1_seek 170 = .ok (.aload_n 0, 1) := by decide +kernel
theorem dX1_seek_171 : decode cX1_seek 171 = .ok (.getfield 26, 3) := by decide +kernel
theorem dX1_seek_174 : decode cX1_seek 174 = .ok (.iload 5, 2) := by decide +kernel
theorem dX1_seek_176 : decode cX1_seek 176 = .ok (.iload 7, 2) := by decide +kernel
theorem dX1_seek_178 : decode cX1_seek 178 = .ok (.invokevirtual 80, 3) := by decide +kernel
theorem dX1_seek_181 : decode cX1_seek 181 = .ok (.istore 9, 2) := by decide +kernel
theorem dX1_seek_183 : decode cX1_seek 183 = .ok (.aload_n 0, 1) := by decide +kernel
theorem dX1_seek_184 : decode cX1_seek 184 = .ok (.iload_n 1, 1) := by decide +kernel
theorem dX1_seek_185 : decode cX1_seek 185 = .ok (.iconst 1, 1) := by decide +kernel
theorem dX1_seek_186 : decode cX1_seek 186 = .ok (.iload 6, 2) := by decide +kernel
theorem dX1_seek_188 : decode cX1_seek 188 = .ok (.ishl, 1) := by decide +kernel
theorem dX1_seek_189 : decode cX1_seek 189 = .ok (.ior, 1) := by decide +kernel
theorem dX1_seek_190 : decode cX1_seek 190 = .ok (.iload_n 2, 1) := by decide +kernel
theorem dX1_seek_191 : decode cX1_seek 191 = .ok (.iconst 1, 1) := by decide +kernel
theorem dX1_seek_192 : decode cX1_seek 192 = .ok (.iadd, 1) := by decide +kernel
theorem dX1_seek_193 : decode cX1_seek 193 = .ok (.iload 8, 2) := by decide +kernel
theorem dX1_seek_195 : decode cX1_seek 195 = .ok (.invokevirtual 50, 3) := by decide +kernel
theorem dX1_seek_198 : decode cX1_seek 198 = .ok (.aload_n 0, 1) := by decide +kernel
theorem dX1_seek_199 : decode cX1_seek 199 = .ok (.getfield 22, 3) := by decide +kernel
theorem dX1_seek_202 : decode cX1_seek 202 = .ok (.aload_n 0, 1) := by decide +kernel
theorem dX1_seek_203 : decode cX1_seek 203 = .ok (.getfield 26, 3) := by decide +kernel
theorem dX1_seek_206 : decode cX1_seek 206 = .ok (.iload 5, 2) := by decide +kernel
theorem dX1_seek_208 : decode cX1_seek 208 = .ok (.iload 7, 2) := by decide +kernel
theorem dX1_seek_210 : decode cX1_seek 210 = .ok (.iload 9, 2) := by decide +kernel
theorem dX1_seek_212 : decode cX1_seek 212 = .ok (.invokevirtual 84, 3) := by decide +kernel
theorem dX1_seek_215 : decode cX1_seek 215 = .ok (.iinc 5 1, 3) := by decide +kernel
theorem dX1_seek_218 : decode cX1_seek 218 = .ok (.goto (-191), 3) := by decide +kernel
theorem dX1_seek_221 : decode cX1_seek 221 = .ok (.return_, 1) := by decide +kernel
def tX1_seek_0 : Nat → Option am_Act := am_nd 24 (am_nd 11 (am_nd 6 (am_nd 1 (am_lf 0 (a_iload 2 1)) (am_nd 3 (am_lf 1 (a_const (nI 7) 3)) (am_lf 3 (a_cmp (fun x y => x < y) 7 6)))) (am_nd 7 (am_lf 6 (a_ret)) (am_nd 8 (am_lf 7 (a_aload 0 8)) (am_lf 8 (a_get tT 1 0 11))))) (am_nd 18 (am_nd 14 (am_lf 11 (a_get tT 10 11 14)) (am_nd 17 (am_lf 14 (a_get tT 5 1 17)) (am_lf 17 (a_aload 0 18)))) (am_nd 21 (am_lf 18 (a_get tT 1 2 21)) (am_nd 22 (am_lf 21 (a_iald tT 22)) (am_lf 22 (a_istore 4 24)))))) (am_nd 36 (am_nd 29 (am_nd 25 (am_lf 24 (a_const (nI 0) 25)) (am_nd 27 (am_lf 25 (a_istore 5 27)) (am_lf 27 (a_iload 5 29)))) (am_nd 30 (am_lf 29 (a_aload 0 30)) (am_nd 33 (am_lf 30 (a_get tT 1 0 33)) (am_lf 33 (a_get tT 10 12 36))))) (am_nd 43 (am_nd 39 (am_lf 36 (a_get tT 2 0 39)) (am_nd 42 (am_lf 39 (a_cmp (fun x y => y ≤ x) 221 42)) (am_lf 42 (a_aload 0 43)))) (am_nd 46 (am_lf 43 (a_get tT 1 0 46)) (am_nd 49 (am_lf 46 (a_get tT 10 12 49)) (am_lf 49 (a_iload 5 51))))))
theorem gX1_seek_0 : am_Good tT mX1_seek tX1_seek_0 := am_nd_ok (am_nd_ok (am_nd_ok (am_nd_ok (am_lf_ok (fun _ => ok_iload_n dX1_seek_0 rfl rfl)) (am_nd_ok (am_lf_ok (fun _ => ok_bipush dX1_seek_1 cv_bipush_7 rfl)) (am_lf_ok (fun _ => ok_cmp_lt dX1_seek_3 rfl rfl)))) (am_nd_ok (am_lf_ok (fun _ => ok_ret rfl dX1_seek_6)) (am_nd_ok (am_lf_ok (fun _ => ok_aload_n dX1_seek_7 rfl rfl)) (am_lf_ok (fun _ => ok_get (C := RX1) (TT := TX1) (N := 8) rfl inw_X1 (Nat.le_of_ble_eq_true rfl) wd_38 dX1_seek_8 rfl))))) (am_nd_ok (am_nd_ok (am_lf_ok (fun _ => ok_get (C := RX10) (TT := TX10) (N := 14) rfl inw_X10 (Nat.le_of_ble_eq_true rfl) wd_39 dX1_seek_11 rfl)) (am_nd_ok (am_lf_ok (fun _ => ok_get (C := RX5) (TT := TX5) (N := 8) rfl inw_X5 (Nat.le_of_ble_eq_true rfl) wd_40 dX1_seek_14 rfl)) (am_lf_ok (fun _ => ok_aload_n dX1_seek_17 rfl rfl)))) (am_nd_ok (am_lf_ok (fun _ => ok_get (C := RX1) (TT := TX1) (N := 8) rfl inw_X1 (Nat.le_of_ble_eq_true rfl) wd_34 dX1_seek_18 rfl)) (am_nd_ok (am_lf_ok (fun _ => ok_iald dX1_seek_21 rfl)) (am_lf_ok (fun _ => ok_istore dX1_seek_22 (Nat.le_of_ble_eq_true rfl) rfl)))))) (am_nd_ok (am_nd_ok (am_nd_ok (am_lf_ok (fun _ => ok_iconst dX1_seek_24 cv_iconst_0 rfl)) (am_nd_ok (am_lf_ok (fun _ => ok_istore dX1_seek_25 (Nat.le_of_ble_eq_true rfl) rfl)) (am_lf_ok (fun _ => ok_iload dX1_seek_27 rfl)))) (am_nd_ok (am_lf_ok (fun _ => ok_aload_n dX1_seek_29 rfl rfl)) (am_nd_ok (am_lf_ok (fun _ => ok_get (C := RX1) (TT := TX1) (N := 8) rfl inw_X1 (Nat.le_of_ble_eq_true rfl) wd_38 dX1_seek_30 rfl)) (am_lf_ok (fun _ => ok_get (C := RX10) (TT := TX10) (N := 14) rfl inw_X10 (Nat.le_of_ble_eq_true rfl) wd_44 dX1_seek_33 rfl))))) (am_nd_ok (am_nd_ok (am_lf_ok (fun _ => ok_get (C := RX2) (TT := TX2) (N := 3) rfl inw_X2 (Nat.le_of_ble_eq_true rfl) wd_45 dX1_seek_36 rfl)) (am_nd_ok (am_lf_ok (fun _ => ok_cmp_ge dX1_seek_39 rfl rfl)) (am_lf_ok (fun _ => ok_aload_n dX1_seek_42 rfl rfl)))) (am_nd_ok (am_lf_ok (fun _ => ok_get (C := RX1) (TT := TX1) (N := 8) rfl inw_X1 (Nat.le_of_ble_eq_true rfl) wd_38 dX1_seek_43 rfl)) (am_nd_ok (am_lf_ok (fun _ => ok_get (C := RX10) (TT := TX10) (N := 14) rfl inw_X10 (Nat.le_of_ble_eq_true rfl) wd_44 dX1_seek_46 rfl)) (am_lf_ok (fun _ => ok_iload dX1_seek_49 rfl))))))
def tX1_seek_1 : Nat → Option am_Act := am_nd 78 (am_nd 65 (am_nd 58 (am_nd 53 (am_lf 51 (a_iload 4 53)) (am_nd 56 (am_lf 53 (a_cvI tT mX2_across 2 2 56)) (am_lf 56 (a_istore 6 58)))) (am_nd 59 (am_lf 58 (a_aload 0 59)) (am_nd 62 (am_lf 59 (a_get tT 1 0 62)) (am_lf 62 (a_get tT 10 12 65))))) (am_nd 72 (am_nd 67 (am_lf 65 (a_iload 5 67)) (am_nd 69 (am_lf 67 (a_iload 4 69)) (am_lf 69 (a_cvI tT mX2_touches 2 2 72)))) (am_nd 75 (am_lf 72 (a_if (fun x => x = nI 0) 215 75)) (am_nd 76 (am_lf 75 (a_iload 1 76)) (am_lf 76 (a_iload 6 78)))))) (am_nd 88 (am_nd 81 (am_nd 79 (am_lf 78 (a_bin (fun x y => x >>> (y &&& 31)) 79)) (am_nd 80 (am_lf 79 (a_const (nI 1) 80)) (am_lf 80 (a_bin (fun x y => x &&& y) 81)))) (am_nd 84 (am_lf 81 (a_if (fun x => x = nI 0) 87 84)) (am_nd 87 (am_lf 84 (a_goto 215)) (am_lf 87 (a_aload 0 88))))) (am_nd 95 (am_nd 91 (am_lf 88 (a_get tT 1 1 91)) (am_nd 92 (am_lf 91 (a_aload 0 92)) (am_lf 92 (a_get tT 1 2 95)))) (am_nd 97 (am_lf 95 (a_iload 5 97)) (am_nd 100 (am_lf 97 (a_cvI tT mX7_due 7 2 100)) (am_lf 100 (a_istore 7 102))))))
theorem gX1_seek_1 : am_Good tT mX1_seek tX1_seek_1 := am_nd_ok (am_nd_ok (am_nd_ok (am_nd_ok (am_lf_ok (fun _ => ok_iload dX1_seek_51 rfl)) (am_nd_ok (am_lf_ok (fun _ => ok_cvI rfl mw_X2_across (ci := 2) rfl rfl wd_46 wd_47 wd_48 dX1_seek_53 rfl)) (am_lf_ok (fun _ => ok_istore dX1_seek_56 (Nat.le_of_ble_eq_true rfl) rfl)))) (am_nd_ok (am_lf_ok (fun _ => ok_aload_n dX1_seek_58 rfl rfl)) (am_nd_ok (am_lf_ok (fun _ => ok_get (C := RX1) (TT := TX1) (N := 8) rfl inw_X1 (Nat.le_of_ble_eq_true rfl) wd_38 dX1_seek_59 rfl)) (am_lf_ok (fun _ => ok_get (C := RX10) (TT := TX10) (N := 14) rfl inw_X10 (Nat.le_of_ble_eq_true rfl) wd_44 dX1_seek_62 rfl))))) (am_nd_ok (am_nd_ok (am_lf_ok (fun _ => ok_iload dX1_seek_65 rfl)) (am_nd_ok (am_lf_ok (fun _ => ok_iload dX1_seek_67 rfl)) (am_lf_ok (fun _ => ok_cvI rfl mw_X2_touches (ci := 2) rfl rfl wd_49 wd_50 wd_51 dX1_seek_69 rfl)))) (am_nd_ok (am_lf_ok (fun _ => ok_if_eq dX1_seek_72 rfl rfl)) (am_nd_ok (am_lf_ok (fun _ => ok_iload_n dX1_seek_75 rfl rfl)) (am_lf_ok (fun _ => ok_iload dX1_seek_76 rfl)))))) (am_nd_ok (am_nd_ok (am_nd_ok (am_lf_ok (fun _ => ok_ishr dX1_seek_78 rfl)) (am_nd_ok (am_lf_ok (fun _ => ok_iconst dX1_seek_79 cv_iconst_1 rfl)) (am_lf_ok (fun _ => ok_iand dX1_seek_80 rfl)))) (am_nd_ok (am_lf_ok (fun _ => ok_if_eq dX1_seek_81 rfl rfl)) (am_nd_ok (am_lf_ok (fun _ => ok_goto dX1_seek_84 rfl)) (am_lf_ok (fun _ => ok_aload_n dX1_seek_87 rfl rfl))))) (am_nd_ok (am_nd_ok (am_lf_ok (fun _ => ok_get (C := RX1) (TT := TX1) (N := 8) rfl inw_X1 (Nat.le_of_ble_eq_true rfl) wd_52 dX1_seek_88 rfl)) (am_nd_ok (am_lf_ok (fun _ => ok_aload_n dX1_seek_91 rfl rfl)) (am_lf_ok (fun _ => ok_get (C := RX1) (TT := TX1) (N := 8) rfl inw_X1 (Nat.le_of_ble_eq_true rfl) wd_34 dX1_seek_92 rfl)))) (am_nd_ok (am_lf_ok (fun _ => ok_iload dX1_seek_95 rfl)) (am_nd_ok (am_lf_ok (fun _ => ok_cvI rfl mw_X7_due (ci := 7) rfl rfl wd_53 wd_17 wd_18 dX1_seek_97 rfl)) (am_lf_ok (fun _ => ok_istore dX1_seek_100 (Nat.le_of_ble_eq_true rfl) rfl))))))
def tX1_seek_2 : Nat → Option am_Act := am_nd 125 (am_nd 114 (am_nd 109 (am_nd 104 (am_lf 102 (a_iload 7 104)) (am_nd 106 (am_lf 104 (a_const (nI 100) 106)) (am_lf 106 (a_cmp (fun x y => x = y) 109 113)))) (am_nd 110 (am_lf 109 (a_iload 3 110)) (am_nd 113 (am_lf 110 (a_goto 116)) (am_lf 113 (a_iload 3 114))))) (am_nd 118 (am_nd 115 (am_lf 114 (a_const (nI 1) 115)) (am_nd 116 (am_lf 115 (a_bin (fun x y => x + y) 116)) (am_lf 116 (a_istore 8 118)))) (am_nd 120 (am_lf 118 (a_iload 7 120)) (am_nd 122 (am_lf 120 (a_const (-2) 122)) (am_lf 122 (a_cmp (fun x y => x = y) 215 125)))))) (am_nd 138 (am_nd 131 (am_nd 127 (am_lf 125 (a_iload 8 127)) (am_nd 128 (am_lf 127 (a_aload 0 128)) (am_lf 128 (a_get tT 1 4 131)))) (am_nd 134 (am_lf 131 (a_cmp (fun x y => x ≤ y) 137 134)) (am_nd 137 (am_lf 134 (a_goto 215)) (am_lf 137 (a_aload 0 138))))) (am_nd 144 (am_nd 141 (am_lf 138 (a_get tT 1 7 141)) (am_nd 142 (am_lf 141 (a_iload 2 142)) (am_lf 142 (a_iload 5 144)))) (am_nd 145 (am_lf 144 (a_iast tT 145)) (am_nd 147 (am_lf 145 (a_iload 6 147)) (am_lf 147 (a_aload 0 148))))))
theorem gX1_seek_2 : am_Good tT mX1_seek tX1_seek_2 := am_nd_ok (am_nd_ok (am_nd_ok (am_nd_ok (am_lf_ok (fun _ => ok_iload dX1_seek_102 rfl)) (am_nd_ok (am_lf_ok (fun _ => ok_bipush dX1_seek_104 cv_bipush_100 rfl)) (am_lf_ok (fun _ => ok_cmp_ne dX1_seek_106 rfl rfl)))) (am_nd_ok (am_lf_ok (fun _ => ok_iload_n dX1_seek_109 rfl rfl)) (am_nd_ok (am_lf_ok (fun _ => ok_goto dX1_seek_110 rfl)) (am_lf_ok (fun _ => ok_iload_n dX1_seek_113 rfl rfl))))) (am_nd_ok (am_nd_ok (am_lf_ok (fun _ => ok_iconst dX1_seek_114 cv_iconst_1 rfl)) (am_nd_ok (am_lf_ok (fun _ => ok_iadd dX1_seek_115 rfl)) (am_lf_ok (fun _ => ok_istore dX1_seek_116 (Nat.le_of_ble_eq_true rfl) rfl)))) (am_nd_ok (am_lf_ok (fun _ => ok_iload dX1_seek_118 rfl)) (am_nd_ok (am_lf_ok (fun _ => ok_bipush dX1_seek_120 cv_bipush_m2 rfl)) (am_lf_ok (fun _ => ok_cmp_eq dX1_seek_122 rfl rfl)))))) (am_nd_ok (am_nd_ok (am_nd_ok (am_lf_ok (fun _ => ok_iload dX1_seek_125 rfl)) (am_nd_ok (am_lf_ok (fun _ => ok_aload_n dX1_seek_127 rfl rfl)) (am_lf_ok (fun _ => ok_get (C := RX1) (TT := TX1) (N := 8) rfl inw_X1 (Nat.le_of_ble_eq_true rfl) wd_36 dX1_seek_128 rfl)))) (am_nd_ok (am_lf_ok (fun _ => ok_cmp_le dX1_seek_131 rfl rfl)) (am_nd_ok (am_lf_ok (fun _ => ok_goto dX1_seek_134 rfl)) (am_lf_ok (fun _ => ok_aload_n dX1_seek_137 rfl rfl))))) (am_nd_ok (am_nd_ok (am_lf_ok (fun _ => ok_get (C := RX1) (TT := TX1) (N := 8) rfl inw_X1 (Nat.le_of_ble_eq_true rfl) wd_54 dX1_seek_138 rfl)) (am_nd_ok (am_lf_ok (fun _ => ok_iload_n dX1_seek_141 rfl rfl)) (am_lf_ok (fun _ => ok_iload dX1_seek_142 rfl)))) (am_nd_ok (am_lf_ok (fun _ => ok_iast dX1_seek_144 rfl)) (am_nd_ok (am_lf_ok (fun _ => ok_iload dX1_seek_145 rfl)) (am_lf_ok (fun _ => ok_aload_n dX1_seek_147 rfl rfl))))))
def tX1_seek_3 : Nat → Option am_Act := am_nd 171 (am_nd 158 (am_nd 155 (am_nd 151 (am_lf 148 (a_get tT 1 3 151)) (am_nd 154 (am_lf 151 (a_cmp (fun x y => x = y) 154 166)) (am_lf 154 (a_aload 0 155)))) (am_nd 156 (am_lf 155 (a_iload 2 156)) (am_nd 157 (am_lf 156 (a_const (nI 1) 157)) (am_lf 157 (a_bin (fun x y => x + y) 158))))) (am_nd 166 (am_nd 160 (am_lf 158 (a_iload 8 160)) (am_nd 163 (am_lf 160 (a_cvV tT mX1_consider 1 2 163)) (am_lf 163 (a_goto 215)))) (am_nd 167 (am_lf 166 (a_aload 0 167)) (am_nd 170 (am_lf 167 (a_get tT 1 1 170)) (am_lf 170 (a_aload 0 171)))))) (am_nd 184 (am_nd 178 (am_nd 174 (am_lf 171 (a_get tT 1 2 174)) (am_nd 176 (am_lf 174 (a_iload 5 176)) (am_lf 176 (a_iload 7 178)))) (am_nd 181 (am_lf 178 (a_cvI tT mX7_pass 7 3 181)) (am_nd 183 (am_lf 181 (a_istore 9 183)) (am_lf 183 (a_aload 0 184))))) (am_nd 188 (am_nd 185 (am_lf 184 (a_iload 1 185)) (am_nd 186 (am_lf 185 (a_const (nI 1) 186)) (am_lf 186 (a_iload 6 188)))) (am_nd 189 (am_lf 188 (a_bin (fun x y => x <<< (y &&& 31)) 189)) (am_nd 190 (am_lf 189 (a_bin (fun x y => x ||| y) 190)) (am_lf 190 (a_iload 2 191))))))
theorem gX1_seek_3 : am_Good tT mX1_seek tX1_seek_3 := am_nd_ok (am_nd_ok (am_nd_ok (am_nd_ok (am_lf_ok (fun _ => ok_get (C := RX1) (TT := TX1) (N := 8) rfl inw_X1 (Nat.le_of_ble_eq_true rfl) wd_35 dX1_seek_148 rfl)) (am_nd_ok (am_lf_ok (fun _ => ok_cmp_ne dX1_seek_151 rfl rfl)) (am_lf_ok (fun _ => ok_aload_n dX1_seek_154 rfl rfl)))) (am_nd_ok (am_lf_ok (fun _ => ok_iload_n dX1_seek_155 rfl rfl)) (am_nd_ok (am_lf_ok (fun _ => ok_iconst dX1_seek_156 cv_iconst_1 rfl)) (am_lf_ok (fun _ => ok_iadd dX1_seek_157 rfl))))) (am_nd_ok (am_nd_ok (am_lf_ok (fun _ => ok_iload dX1_seek_158 rfl)) (am_nd_ok (am_lf_ok (fun _ => ok_cvV rfl mw_X1_consider (ci := 1) rfl rfl wd_55 wd_56 wd_57 dX1_seek_160 rfl)) (am_lf_ok (fun _ => ok_goto dX1_seek_163 rfl)))) (am_nd_ok (am_lf_ok (fun _ => ok_aload_n dX1_seek_166 rfl rfl)) (am_nd_ok (am_lf_ok (fun _ => ok_get (C := RX1) (TT := TX1) (N := 8) rfl inw_X1 (Nat.le_of_ble_eq_true rfl) wd_52 dX1_seek_167 rfl)) (am_lf_ok (fun _ => ok_aload_n dX1_seek_170 rfl rfl)))))) (am_nd_ok (am_nd_ok (am_nd_ok (am_lf_ok (fun _ => ok_get (C := RX1) (TT := TX1) (N := 8) rfl inw_X1 (Nat.le_of_ble_eq_true rfl) wd_34 dX1_seek_171 rfl)) (am_nd_ok (am_lf_ok (fun _ => ok_iload dX1_seek_174 rfl)) (am_lf_ok (fun _ => ok_iload dX1_seek_176 rfl)))) (am_nd_ok (am_lf_ok (fun _ => ok_cvI rfl mw_X7_pass (ci := 7) rfl rfl wd_58 wd_21 wd_22 dX1_seek_178 rfl)) (am_nd_ok (am_lf_ok (fun _ => ok_istore dX1_seek_181 (Nat.le_of_ble_eq_true rfl) rfl)) (am_lf_ok (fun _ => ok_aload_n dX1_seek_183 rfl rfl))))) (am_nd_ok (am_nd_ok (am_lf_ok (fun _ => ok_iload_n dX1_seek_184 rfl rfl)) (am_nd_ok (am_lf_ok (fun _ => ok_iconst dX1_seek_185 cv_iconst_1 rfl)) (am_lf_ok (fun _ => ok_iload dX1_seek_186 rfl)))) (am_nd_ok (am_lf_ok (fun _ => ok_ishl dX1_seek_188 rfl)) (am_nd_ok (am_lf_ok (fun _ => ok_ior dX1_seek_189 rfl)) (am_lf_ok (fun _ => ok_iload_n dX1_seek_190 rfl rfl))))))
def tX1_seek_4 : Nat → Option am_Act := am_nd 203 (am_nd 195 (am_nd 192 (am_lf 191 (a_const (nI 1) 192)) (am_nd 193 (am_lf 192 (a_bin (fun x y => x + y) 193)) (am_lf 193 (a_iload 8 195)))) (am_nd 199 (am_nd 198 (am_lf 195 (a_cvV tT mX1_seek 1 3 198)) (am_lf 198 (a_aload 0 199))) (am_nd 202 (am_lf 199 (a_get tT 1 1 202)) (am_lf 202 (a_aload 0 203))))) (am_nd 212 (am_nd 208 (am_nd 206 (am_lf 203 (a_get tT 1 2 206)) (am_lf 206 (a_iload 5 208))) (am_nd 210 (am_lf 208 (a_iload 7 210)) (am_lf 210 (a_iload 9 212)))) (am_nd 218 (am_nd 215 (am_lf 212 (a_cvV tT mX7_back 7 4 215)) (am_lf 215 (a_iinc 5 (nI 1) 218))) (am_nd 221 (am_lf 218 (a_goto 27)) (am_lf 221 (a_ret)))))
theorem gX1_seek_4 : am_Good tT mX1_seek tX1_seek_4 := am_nd_ok (am_nd_ok (am_nd_ok (am_lf_ok (fun _ => ok_iconst dX1_seek_191 cv_iconst_1 rfl)) (am_nd_ok (am_lf_ok (fun _ => ok_iadd dX1_seek_192 rfl)) (am_lf_ok (fun _ => ok_iload dX1_seek_193 rfl)))) (am_nd_ok (am_nd_ok (am_lf_ok (fun _ => ok_cvV rfl mw_X1_seek (ci := 1) rfl rfl wd_41 wd_42 wd_43 dX1_seek_195 rfl)) (am_lf_ok (fun _ => ok_aload_n dX1_seek_198 rfl rfl))) (am_nd_ok (am_lf_ok (fun _ => ok_get (C := RX1) (TT := TX1) (N := 8) rfl inw_X1 (Nat.le_of_ble_eq_true rfl) wd_52 dX1_seek_199 rfl)) (am_lf_ok (fun _ => ok_aload_n dX1_seek_202 rfl rfl))))) (am_nd_ok (am_nd_ok (am_nd_ok (am_lf_ok (fun _ => ok_get (C := RX1) (TT := TX1) (N := 8) rfl inw_X1 (Nat.le_of_ble_eq_true rfl) wd_34 dX1_seek_203 rfl)) (am_lf_ok (fun _ => ok_iload dX1_seek_206 rfl))) (am_nd_ok (am_lf_ok (fun _ => ok_iload dX1_seek_208 rfl)) (am_lf_ok (fun _ => ok_iload dX1_seek_210 rfl)))) (am_nd_ok (am_nd_ok (am_lf_ok (fun _ => ok_cvV rfl mw_X7_back (ci := 7) rfl rfl wd_59 wd_24 wd_25 dX1_seek_212 rfl)) (am_lf_ok (fun _ => ok_iinc dX1_seek_215 cv_iconst_1 (Nat.le_of_ble_eq_true rfl) rfl))) (am_nd_ok (am_lf_ok (fun _ => ok_goto dX1_seek_218 rfl)) (am_lf_ok (fun _ => ok_ret rfl dX1_seek_221)))))
def tX1_seek : Nat → Option am_Act := am_nd 102 (am_nd 51 (tX1_seek_0) (tX1_seek_1)) (am_nd 148 (tX1_seek_2) (am_nd 191 (tX1_seek_3) (tX1_seek_4)))
theorem gX1_seek : am_Good tT mX1_seek tX1_seek := am_nd_ok (am_nd_ok (gX1_seek_0) (gX1_seek_1)) (am_nd_ok (gX1_seek_2) (am_nd_ok (gX1_seek_3) (gX1_seek_4)))
theorem dX1_consider_0 : decode cX1_consider 0 = .ok (.iload_n 2, 1) := by decide +kernel
theorem dX1_consider_1 : decode cX1_consider 1 = .ok (.aload_n 0, 1) := by decide +kernel
theorem dX1_consider_2 : decode cX1_consider 2 = .ok (.getfield 33, 3) := by decide +kernel
theorem dX1_consider_5 : decode cX1_consider 5 = .ok (.if_icmp .lt 11, 3) := by decide +kernel
theorem dX1_consider_8 : decode cX1_consider 8 = .ok (.iload_n 1, 1) := by decide +kernel
theorem dX1_consider_9 : decode cX1_consider 9 = .ok (.aload_n 0, 1) := by decide +kernel
theorem dX1_consider_10 : decode cX1_consider 10 = .ok (.getfield 36, 3) := by decide +kernel
theorem dX1_consider_13 : decode cX1_consider 13 = .ok (.if_icmp .ge 27, 3) := by decide +kernel
theorem dX1_consider_16 : decode cX1_consider 16 = .ok (.aload_n 0, 1) := by decide +kernel
theorem dX1_consider_17 : decode cX1_consider 17 = .ok (.iload_n 2, 1) := by decide +kernel
theorem dX1_consider_18 : decode cX1_consider 18 = .ok (.putfield 33, 3) := by decide +kernel
theorem dX1_consider_21 : decode cX1_consider 21 = .ok (.aload_n 0, 1) := by decide +kernel
theorem dX1_consider_22 : decode cX1_consider 22 = .ok (.iload_n 1, 1) := by decide +kernel
theorem dX1_consider_23 : decode cX1_consider 23 = .ok (.putfield 36, 3) := by decide +kernel
theorem dX1_consider_26 : decode cX1_consider 26 = .ok (.aload_n 0, 1) := by decide +kernel
theorem dX1_consider_27 : decode cX1_consider 27 = .ok (.getfield 15, 3) := by decide +kernel
theorem dX1_consider_30 : decode cX1_consider 30 = .ok (.iconst 0, 1) := by decide +kernel
theorem dX1_consider_31 : decode cX1_consider 31 = .ok (.aload_n 0, 1) := by decide +kernel
theorem dX1_consider_32 : decode cX1_consider 32 = .ok (.getfield 9, 3) := by decide +kernel
theorem dX1_consider_35 : decode cX1_consider 35 = .ok (.iconst 0, 1) := by decide +kernel
theorem dX1_consider_36 : decode cX1_consider 36 = .ok (.iload_n 1, 1) := by decide +kernel
theorem dX1_consider_37 : decode cX1_consider 37 = .ok (.invokestatic 88, 3) := by decide +kernel
theorem dX1_consider_40 : decode cX1_consider 40 = .ok (.return_, 1) := by decide +kernel
def tX1_consider_0 : Nat → Option am_Act := am_nd 21 (am_nd 9 (am_nd 2 (am_nd 1 (am_lf 0 (a_iload 2 1)) (am_lf 1 (a_aload 0 2))) (am_nd 5 (am_lf 2 (a_get tT 1 4 5)) (am_nd 8 (am_lf 5 (a_cmp (fun x y => x < y) 16 8)) (am_lf 8 (a_iload 1 9))))) (am_nd 16 (am_nd 10 (am_lf 9 (a_aload 0 10)) (am_nd 13 (am_lf 10 (a_get tT 1 5 13)) (am_lf 13 (a_cmp (fun x y => y ≤ x) 40 16)))) (am_nd 17 (am_lf 16 (a_aload 0 17)) (am_nd 18 (am_lf 17 (a_iload 2 18)) (am_lf 18 (a_put tT 1 4 21)))))) (am_nd 31 (am_nd 26 (am_nd 22 (am_lf 21 (a_aload 0 22)) (am_nd 23 (am_lf 22 (a_iload 1 23)) (am_lf 23 (a_put tT 1 5 26)))) (am_nd 27 (am_lf 26 (a_aload 0 27)) (am_nd 30 (am_lf 27 (a_get tT 1 7 30)) (am_lf 30 (a_const (nI 0) 31))))) (am_nd 36 (am_nd 32 (am_lf 31 (a_aload 0 32)) (am_nd 35 (am_lf 32 (a_get tT 1 6 35)) (am_lf 35 (a_const (nI 0) 36)))) (am_nd 37 (am_lf 36 (a_iload 1 37)) (am_nd 40 (am_lf 37 (a_copy tT 40)) (am_lf 40 (a_ret))))))
theorem gX1_consider_0 : am_Good tT mX1_consider tX1_consider_0 := am_nd_ok (am_nd_ok (am_nd_ok (am_nd_ok (am_lf_ok (fun _ => ok_iload_n dX1_consider_0 rfl rfl)) (am_lf_ok (fun _ => ok_aload_n dX1_consider_1 rfl rfl))) (am_nd_ok (am_lf_ok (fun _ => ok_get (C := RX1) (TT := TX1) (N := 8) rfl inw_X1 (Nat.le_of_ble_eq_true rfl) wd_36 dX1_consider_2 rfl)) (am_nd_ok (am_lf_ok (fun _ => ok_cmp_lt dX1_consider_5 rfl rfl)) (am_lf_ok (fun _ => ok_iload_n dX1_consider_8 rfl rfl))))) (am_nd_ok (am_nd_ok (am_lf_ok (fun _ => ok_aload_n dX1_consider_9 rfl rfl)) (am_nd_ok (am_lf_ok (fun _ => ok_get (C := RX1) (TT := TX1) (N := 8) rfl inw_X1 (Nat.le_of_ble_eq_true rfl) wd_37 dX1_consider_10 rfl)) (am_lf_ok (fun _ => ok_cmp_ge dX1_consider_13 rfl rfl)))) (am_nd_ok (am_lf_ok (fun _ => ok_aload_n dX1_consider_16 rfl rfl)) (am_nd_ok (am_lf_ok (fun _ => ok_iload_n dX1_consider_17 rfl rfl)) (am_lf_ok (fun _ => ok_put (C := RX1) (TT := TX1) (N := 8) (ty0 := tyX1) rfl inw_X1 tyX1_ok nmX1 (Nat.le_of_ble_eq_true rfl) rfl rfl wd_36 dX1_consider_18 rfl)))))) (am_nd_ok (am_nd_ok (am_nd_ok (am_lf_ok (fun _ => ok_aload_n dX1_consider_21 rfl rfl)) (am_nd_ok (am_lf_ok (fun _ => ok_iload_n dX1_consider_22 rfl rfl)) (am_lf_ok (fun _ => ok_put (C := RX1) (TT := TX1) (N := 8) (ty0 := tyX1) rfl inw_X1 tyX1_ok nmX1 (Nat.le_of_ble_eq_true rfl) rfl rfl wd_37 dX1_consider_23 rfl)))) (am_nd_ok (am_lf_ok (fun _ => ok_aload_n dX1_consider_26 rfl rfl)) (am_nd_ok (am_lf_ok (fun _ => ok_get (C := RX1) (TT := TX1) (N := 8) rfl inw_X1 (Nat.le_of_ble_eq_true rfl) wd_54 dX1_consider_27 rfl)) (am_lf_ok (fun _ => ok_iconst dX1_consider_30 cv_iconst_0 rfl))))) (am_nd_ok (am_nd_ok (am_lf_ok (fun _ => ok_aload_n dX1_consider_31 rfl rfl)) (am_nd_ok (am_lf_ok (fun _ => ok_get (C := RX1) (TT := TX1) (N := 8) rfl inw_X1 (Nat.le_of_ble_eq_true rfl) wd_60 dX1_consider_32 rfl)) (am_lf_ok (fun _ => ok_iconst dX1_consider_35 cv_iconst_0 rfl)))) (am_nd_ok (am_lf_ok (fun _ => ok_iload_n dX1_consider_36 rfl rfl)) (am_nd_ok (am_lf_ok (fun _ => ok_copy wd_61 wd_31 wd_32 wd_33 dX1_consider_37 rfl)) (am_lf_ok (fun _ => ok_ret rfl dX1_consider_40))))))
def tX1_consider : Nat → Option am_Act := tX1_consider_0
theorem gX1_consider : am_Good tT mX1_consider tX1_consider := gX1_consider_0
