/-! ===== code of TollOfNames$Law ===== -/
theorem dX3_clear_0 : decode cX3_clear 0 = .ok (.aload_n 0, 1) := by decide +kernel
theorem dX3_clear_1 : decode cX3_clear 1 = .ok (.iconst 0, 1) := by decide +kernel
theorem dX3_clear_2 : decode cX3_clear 2 = .ok (.putfield 18, 3) := by decide +kernel
theorem dX3_clear_5 : decode cX3_clear 5 = .ok (.aload_n 0, 1) := by decide +kernel
theorem dX3_clear_6 : decode cX3_clear 6 = .ok (.iconst 0, 1) := by decide +kernel
theorem dX3_clear_7 : decode cX3_clear 7 = .ok (.putfield 22, 3) := by decide +kernel
theorem dX3_clear_10 : decode cX3_clear 10 = .ok (.return_, 1) := by decide +kernel
def tX3_clear_0 : Nat → Option am_Act := am_nd 5 (am_nd 1 (am_lf 0 (a_aload 0 1)) (am_nd 2 (am_lf 1 (a_const (nI 0) 2)) (am_lf 2 (a_put tT 3 0 5)))) (am_nd 7 (am_nd 6 (am_lf 5 (a_aload 0 6)) (am_lf 6 (a_const (nI 0) 7))) (am_nd 10 (am_lf 7 (a_put tT 3 1 10)) (am_lf 10 (a_ret))))
theorem gX3_clear_0 : am_Good tT mX3_clear tX3_clear_0 := am_nd_ok (am_nd_ok (am_lf_ok (fun _ => ok_aload_n dX3_clear_0 rfl rfl)) (am_nd_ok (am_lf_ok (fun _ => ok_iconst dX3_clear_1 cv_iconst_0 rfl)) (am_lf_ok (fun _ => ok_put (C := RX3) (TT := TX3) (N := 4) (ty0 := tyX3) rfl inw_X3 tyX3_ok nmX3 (Nat.le_of_ble_eq_true rfl) rfl rfl wd_71 dX3_clear_2 rfl)))) (am_nd_ok (am_nd_ok (am_lf_ok (fun _ => ok_aload_n dX3_clear_5 rfl rfl)) (am_lf_ok (fun _ => ok_iconst dX3_clear_6 cv_iconst_0 rfl))) (am_nd_ok (am_lf_ok (fun _ => ok_put (C := RX3) (TT := TX3) (N := 4) (ty0 := tyX3) rfl inw_X3 tyX3_ok nmX3 (Nat.le_of_ble_eq_true rfl) rfl rfl wd_72 dX3_clear_7 rfl)) (am_lf_ok (fun _ => ok_ret rfl dX3_clear_10))))
def tX3_clear : Nat → Option am_Act := tX3_clear_0
theorem gX3_clear : am_Good tT mX3_clear tX3_clear := gX3_clear_0
theorem dX3_emit_0 : decode cX3_emit 0 = .ok (.aload_n 0, 1) := by decide +kernel
theorem dX3_emit_1 : decode cX3_emit 1 = .ok (.getfield 22, 3) := by decide +kernel
theorem dX3_emit_4 : decode cX3_emit 4 = .ok (.sipush 400, 3) := by decide +kernel
theorem dX3_emit_7 : decode cX3_emit 7 = .ok (.if_icmp .ge 23, 3) := by decide +kernel
theorem dX3_emit_10 : decode cX3_emit 10 = .ok (.aload_n 0, 1) := by decide +kernel
theorem dX3_emit_11 : decode cX3_emit 11 = .ok (.getfield 9, 3) := by decide +kernel
theorem dX3_emit_14 : decode cX3_emit 14 = .ok (.aload_n 0, 1) := by decide +kernel
theorem dX3_emit_15 : decode cX3_emit 15 = .ok (.getfield 22, 3) := by decide +kernel
theorem dX3_emit_18 : decode cX3_emit 18 = .ok (.iload_n 1, 1) := by decide +kernel
theorem dX3_emit_19 : decode cX3_emit 19 = .ok (.iastore, 1) := by decide +kernel
theorem dX3_emit_20 : decode cX3_emit 20 = .ok (.aload_n 0, 1) := by decide +kernel
theorem dX3_emit_21 : decode cX3_emit 21 = .ok (.dup, 1) := by decide +kernel
theorem dX3_emit_22 : decode cX3_emit 22 = .ok (.getfield 22, 3) := by decide +kernel
theorem dX3_emit_25 : decode cX3_emit 25 = .ok (.iconst 1, 1) := by decide +kernel
theorem dX3_emit_26 : decode cX3_emit 26 = .ok (.iadd, 1) := by decide +kernel
theorem dX3_emit_27 : decode cX3_emit 27 = .ok (.putfield 22, 3) := by decide +kernel
theorem dX3_emit_30 : decode cX3_emit 30 = .ok (.return_, 1) := by decide +kernel
def tX3_emit_0 : Nat → Option am_Act := am_nd 18 (am_nd 10 (am_nd 4 (am_nd 1 (am_lf 0 (a_aload 0 1)) (am_lf 1 (a_get tT 3 1 4))) (am_nd 7 (am_lf 4 (a_const (nI 400) 7)) (am_lf 7 (a_cmp (fun x y => y ≤ x) 30 10)))) (am_nd 14 (am_nd 11 (am_lf 10 (a_aload 0 11)) (am_lf 11 (a_get tT 3 2 14))) (am_nd 15 (am_lf 14 (a_aload 0 15)) (am_lf 15 (a_get tT 3 1 18))))) (am_nd 22 (am_nd 20 (am_nd 19 (am_lf 18 (a_iload 1 19)) (am_lf 19 (a_iast tT 20))) (am_nd 21 (am_lf 20 (a_aload 0 21)) (am_lf 21 (a_dup 22)))) (am_nd 26 (am_nd 25 (am_lf 22 (a_get tT 3 1 25)) (am_lf 25 (a_const (nI 1) 26))) (am_nd 27 (am_lf 26 (a_bin (fun x y => x + y) 27)) (am_nd 30 (am_lf 27 (a_put tT 3 1 30)) (am_lf 30 (a_ret))))))
theorem gX3_emit_0 : am_Good tT mX3_emit tX3_emit_0 := am_nd_ok (am_nd_ok (am_nd_ok (am_nd_ok (am_lf_ok (fun _ => ok_aload_n dX3_emit_0 rfl rfl)) (am_lf_ok (fun _ => ok_get (C := RX3) (TT := TX3) (N := 4) rfl inw_X3 (Nat.le_of_ble_eq_true rfl) wd_72 dX3_emit_1 rfl))) (am_nd_ok (am_lf_ok (fun _ => ok_sipush dX3_emit_4 cv_sipush_400 rfl)) (am_lf_ok (fun _ => ok_cmp_ge dX3_emit_7 rfl rfl)))) (am_nd_ok (am_nd_ok (am_lf_ok (fun _ => ok_aload_n dX3_emit_10 rfl rfl)) (am_lf_ok (fun _ => ok_get (C := RX3) (TT := TX3) (N := 4) rfl inw_X3 (Nat.le_of_ble_eq_true rfl) wd_73 dX3_emit_11 rfl))) (am_nd_ok (am_lf_ok (fun _ => ok_aload_n dX3_emit_14 rfl rfl)) (am_lf_ok (fun _ => ok_get (C := RX3) (TT := TX3) (N := 4) rfl inw_X3 (Nat.le_of_ble_eq_true rfl) wd_72 dX3_emit_15 rfl))))) (am_nd_ok (am_nd_ok (am_nd_ok (am_lf_ok (fun _ => ok_iload_n dX3_emit_18 rfl rfl)) (am_lf_ok (fun _ => ok_iast dX3_emit_19 rfl))) (am_nd_ok (am_lf_ok (fun _ => ok_aload_n dX3_emit_20 rfl rfl)) (am_lf_ok (fun _ => ok_dup dX3_emit_21 rfl)))) (am_nd_ok (am_nd_ok (am_lf_ok (fun _ => ok_get (C := RX3) (TT := TX3) (N := 4) rfl inw_X3 (Nat.le_of_ble_eq_true rfl) wd_72 dX3_emit_22 rfl)) (am_lf_ok (fun _ => ok_iconst dX3_emit_25 cv_iconst_1 rfl))) (am_nd_ok (am_lf_ok (fun _ => ok_iadd dX3_emit_26 rfl)) (am_nd_ok (am_lf_ok (fun _ => ok_put (C := RX3) (TT := TX3) (N := 4) (ty0 := tyX3) rfl inw_X3 tyX3_ok nmX3 (Nat.le_of_ble_eq_true rfl) rfl rfl wd_72 dX3_emit_27 rfl)) (am_lf_ok (fun _ => ok_ret rfl dX3_emit_30))))))
def tX3_emit : Nat → Option am_Act := tX3_emit_0
theorem gX3_emit : am_Good tT mX3_emit tX3_emit := gX3_emit_0
theorem dX3_allows_0 : decode cX3_allows 0 = .ok (.iconst 0, 1) := by decide +kernel
theorem dX3_allows_1 : decode cX3_allows 1 = .ok (.istore_n 2, 1) := by decide +kernel
theorem dX3_allows_2 : decode cX3_allows 2 = .ok (.iconst 0, 1) := by decide +kernel
theorem dX3_allows_3 : decode cX3_allows 3 = .ok (.istore_n 3, 1) := by decide +kernel
theorem dX3_allows_4 : decode cX3_allows 4 = .ok (.iload_n 3, 1) := by decide +kernel
theorem dX3_allows_5 : decode cX3_allows 5 = .ok (.aload_n 0, 1) := by decide +kernel
theorem dX3_allows_6 : decode cX3_allows 6 = .ok (.getfield 22, 3) := by decide +kernel
theorem dX3_allows_9 : decode cX3_allows 9 = .ok (.if_icmp .ge 199, 3) := by decide +kernel
theorem dX3_allows_12 : decode cX3_allows 12 = .ok (.aload_n 0, 1) := by decide +kernel
theorem dX3_allows_13 : decode cX3_allows 13 = .ok (.getfield 9, 3) := by decide +kernel
theorem dX3_allows_16 : decode cX3_allows 16 = .ok (.iload_n 3, 1) := by decide +kernel
theorem dX3_allows_17 : decode cX3_allows 17 = .ok (.iaload, 1) := by decide +kernel
theorem dX3_allows_18 : decode cX3_allows 18 = .ok (.istore 4, 2) := by decide +kernel
theorem dX3_allows_20 : decode cX3_allows 20 = .ok (.iload 4, 2) := by decide +kernel
theorem dX3_allows_22 : decode cX3_allows 22 = .ok (.sipush 10000, 3) := by decide +kernel
theorem dX3_allows_25 : decode cX3_allows 25 = .ok (.if_icmp .eq 11, 3) := by decide +kernel
theorem dX3_allows_28 : decode cX3_allows 28 = .ok (.iload 4, 2) := by decide +kernel
theorem dX3_allows_30 : decode cX3_allows 30 = .ok (.sipush 10001, 3) := by decide +kernel
theorem dX3_allows_33 : decode cX3_allows 33 = .ok (.if_icmp .ne 35, 3) := by decide +kernel
theorem dX3_allows_36 : decode cX3_allows 36 = .ok (.iload_n 2, 1) := by decide +kernel
theorem dX3_allows_37 : decode cX3_allows 37 = .ok (.ifCond .eq 12, 3) := by decide +kernel
theorem dX3_allows_40 : decode cX3_allows 40 = .ok (.aload_n 0, 1) := by decide +kernel
theorem dX3_allows_41 : decode cX3_allows 41 = .ok (.getfield 15, 3) := by decide +kernel
theorem dX3_allows_44 : decode cX3_allows 44 = .ok (.iconst 0, 1) := by decide +kernel
theorem dX3_allows_45 : decode cX3_allows 45 = .ok (.iaload, 1) := by decide +kernel
theorem dX3_allows_46 : decode cX3_allows 46 = .ok (.ifCond .eq 17, 3) := by decide +kernel
theorem dX3_allows_49 : decode cX3_allows 49 = .ok (.iload 4, 2) := by decide +kernel
theorem dX3_allows_51 : decode cX3_allows 51 = .ok (.sipush 10000, 3) := by decide +kernel
theorem dX3_allows_54 : decode cX3_allows 54 = .ok (.if_icmp .ne 7, 3) := by decide +kernel
theorem dX3_allows_57 : decode cX3_allows 57 = .ok (.iconst 1, 1) := by decide +kernel
theorem dX3_allows_58 : decode cX3_allows 58 = .ok (.goto 4, 3) := by decide +kernel
theorem dX3_allows_61 : decode cX3_allows 61 = .ok (.iconst 0, 1) := by decide +kernel
theorem dX3_allows_62 : decode cX3_allows 62 = .ok (.ireturn, 1) := by decide +kernel
theorem dX3_allows_63 : decode cX3_allows 63 = .ok (.iconst 0, 1) := by decide +kernel
theorem dX3_allows_64 : decode cX3_allows 64 = .ok (.istore_n 2, 1) := by decide +kernel
theorem dX3_allows_65 : decode cX3_allows 65 = .ok (.goto 137, 3) := by decide +kernel
theorem dX3_allows_68 : decode cX3_allows 68 = .ok (.iload 4, 2) := by decide +kernel
theorem dX3_allows_70 : decode cX3_allows 70 = .ok (.sipush 10005, 3) := by decide +kernel
theorem dX3_allows_73 : decode cX3_allows 73 = .ok (.if_icmp .ne 28, 3) := by decide +kernel
theorem dX3_allows_76 : decode cX3_allows 76 = .ok (.iload_n 2, 1) := by decide +kernel
theorem dX3_allows_77 : decode cX3_allows 77 = .ok (.ifCond .le 125, 3) := by decide +kernel
theorem dX3_allows_80 : decode cX3_allows 80 = .ok (.aload_n 0, 1) := by decide +kernel
theorem dX3_allows_81 : decode cX3_allows 81 = .ok (.getfield 15, 3) := by decide +kernel
theorem dX3_allows_84 : decode cX3_allows 84 = .ok (.iload_n 2, 1) := by decide +kernel
theorem dX3_allows_85 : decode cX3_allows 85 = .ok (.iconst 1, 1) := by decide +kernel
theorem dX3_allows_86 : decode cX3_allows 86 = .ok (.isub, 1) := by decide +kernel
theorem dX3_allows_87 : decode cX3_allows 87 = .ok (.iconst 1, 1) := by decide +kernel
theorem dX3_allows_88 : decode cX3_allows 88 = .ok (.aload_n 0, 1) := by decide +kernel
theorem dX3_allows_89 : decode cX3_allows 89 = .ok (.getfield 15, 3) := by decide +kernel
theorem dX3_allows_92 : decode cX3_allows 92 = .ok (.iload_n 2, 1) := by decide +kernel
theorem dX3_allows_93 : decode cX3_allows 93 = .ok (.iconst 1, 1) := by decide +kernel
theorem dX3_allows_94 : decode cX3_allows 94 = .ok (.isub, 1) := by decide +kernel
theorem dX3_allows_95 : decode cX3_allows 95 = .ok (.iaload, 1) := by decide +kernel
theorem dX3_allows_96 : decode cX3_allows 96 = .ok (.isub, 1) := by decide +kernel
theorem dX3_allows_97 : decode cX3_allows 97 = .ok (.iastore, 1) := by decide +kernel
theorem dX3_allows_98 : decode cX3_allows 98 = .ok (.goto 104, 3) := by decide +kernel
theorem dX3_allows_101 : decode cX3_allows 101 = .ok (.iload 4, 2) := by decide +kernel
theorem dX3_allows_103 : decode cX3_allows 103 = .ok (.sipush 10004, 3) := by decide +kernel
theorem dX3_allows_106 : decode cX3_allows 106 = .ok (.if_icmp .eq 19, 3) := by decide +kernel
theorem dX3_allows_109 : decode cX3_allows 109 = .ok (.iload 4, 2) := by decide +kernel
theorem dX3_allows_111 : decode cX3_allows 111 = .ok (.sipush 10003, 3) := by decide +kernel
theorem dX3_allows_114 : decode cX3_allows 114 = .ok (.if_icmp .eq 11, 3) := by decide +kernel
theorem dX3_allows_117 : decode cX3_allows 117 = .ok (.iload 4, 2) := by decide +kernel
theorem dX3_allows_119 : decode cX3_allows 119 = .ok (.sipush 20000, 3) := by decide +kernel
theorem dX3_allows_122 : decode cX3_allows 122 = .ok (.if_icmp .lt 41, 3) := by decide +kernel
theorem dX3_allows_125 : decode cX3_allows 125 = .ok (.iload_n 2, 1) := by decide +kernel
theorem dX3_allows_126 : decode cX3_allows 126 = .ok (.iconst 1, 1) := by decide +kernel
theorem dX3_allows_127 : decode cX3_allows 127 = .ok (.if_icmp .le 75, 3) := by decide +kernel
theorem dX3_allows_130 : decode cX3_allows 130 = .ok (.iinc 2 (-1), 3) := by decide +kernel
theorem dX3_allows_133 : decode cX3_allows 133 = .ok (.aload_n 0, 1) := by decide +kernel
theorem dX3_allows_134 : decode cX3_allows 134 = .ok (.getfield 15, 3) := by decide +kernel
theorem dX3_allows_137 : decode cX3_allows 137 = .ok (.iload_n 2, 1) := by decide +kernel
theorem dX3_allows_138 : decode cX3_allows 138 = .ok (.iconst 1, 1) := by decide +kernel
theorem dX3_allows_139 : decode cX3_allows 139 = .ok (.isub, 1) := by decide +kernel
theorem dX3_allows_140 : decode cX3_allows 140 = .ok (.iload 4, 2) := by decide +kernel
theorem dX3_allows_142 : decode cX3_allows 142 = .ok (.aload_n 0, 1) := by decide +kernel
theorem dX3_allows_143 : decode cX3_allows 143 = .ok (.getfield 15, 3) := by decide +kernel
theorem dX3_allows_146 : decode cX3_allows 146 = .ok (.iload_n 2, 1) := by decide +kernel
theorem dX3_allows_147 : decode cX3_allows 147 = .ok (.iconst 1, 1) := by decide +kernel
theorem dX3_allows_148 : decode cX3_allows 148 = .ok (.isub, 1) := by decide +kernel
theorem dX3_allows_149 : decode cX3_allows 149 = .ok (.iaload, 1) := by decide +kernel
theorem dX3_allows_150 : decode cX3_allows 150 = .ok (.aload_n 0, 1) := by decide +kernel
theorem dX3_allows_151 : decode cX3_allows 151 = .ok (.getfield 15, 3) := by decide +kernel
theorem dX3_allows_154 : decode cX3_allows 154 = .ok (.iload_n 2, 1) := by decide +kernel
theorem dX3_allows_155 : decode cX3_allows 155 = .ok (.iaload, 1) := by decide +kernel
theorem dX3_allows_156 : decode cX3_allows 156 = .ok (.invokestatic 25, 3) := by decide +kernel
theorem dX3_allows_159 : decode cX3_allows 159 = .ok (.iastore, 1) := by decide +kernel
theorem dX3_allows_160 : decode cX3_allows 160 = .ok (.goto 42, 3) := by decide +kernel
theorem dX3_allows_163 : decode cX3_allows 163 = .ok (.iload_n 2, 1) := by decide +kernel
theorem dX3_allows_164 : decode cX3_allows 164 = .ok (.aload_n 0, 1) := by decide +kernel
theorem dX3_allows_165 : decode cX3_allows 165 = .ok (.getfield 15, 3) := by decide +kernel
theorem dX3_allows_168 : decode cX3_allows 168 = .ok (.arraylength, 1) := by decide +kernel
theorem dX3_allows_169 : decode cX3_allows 169 = .ok (.if_icmp .ge 33, 3) := by decide +kernel
theorem dX3_allows_172 : decode cX3_allows 172 = .ok (.aload_n 0, 1) := by decide +kernel
theorem dX3_allows_173 : decode cX3_allows 173 = .ok (.getfield 15, 3) := by decide +kernel
theorem dX3_allows_176 : decode cX3_allows 176 = .ok (.iload_n 2, 1) := by decide +kernel
theorem dX3_allows_177 : decode cX3_allows 177 = .ok (.iload 4, 2) := by decide +kernel
theorem dX3_allows_179 : decode cX3_allows 179 = .ok (.invokestatic 29, 3) := by decide +kernel
theorem dX3_allows_182 : decode cX3_allows 182 = .ok (.ifCond .eq 14, 3) := by decide +kernel
theorem dX3_allows_185 : decode cX3_allows 185 = .ok (.aload_n 1, 1) := by decide +kernel
theorem dX3_allows_186 : decode cX3_allows 186 = .ok (.iload 4, 2) := by decide +kernel
theorem dX3_allows_188 : decode cX3_allows 188 = .ok (.sipush 10006, 3) := by decide +kernel
theorem dX3_allows_191 : decode cX3_allows 191 = .ok (.isub, 1) := by decide +kernel
theorem dX3_allows_192 : decode cX3_allows 192 = .ok (.iaload, 1) := by decide +kernel
theorem dX3_allows_193 : decode cX3_allows 193 = .ok (.goto 5, 3) := by decide +kernel
theorem dX3_allows_196 : decode cX3_allows 196 = .ok (.iload 4, 2) := by decide +kernel
theorem dX3_allows_198 : decode cX3_allows 198 = .ok (.iastore, 1) := by decide +kernel
theorem dX3_allows_199 : decode cX3_allows 199 = .ok (.iinc 2 1, 3) := by decide +kernel
theorem dX3_allows_202 : decode cX3_allows 202 = .ok (.iinc 3 1, 3) := by decide +kernel
theorem dX3_allows_205 : decode cX3_allows 205 = .ok (.goto (-201), 3) := by decide +kernel
theorem dX3_allows_208 : decode cX3_allows 208 = .ok (.iconst 1, 1) := by decide +kernel
theorem dX3_allows_209 : decode cX3_allows 209 = .ok (.ireturn, 1) := by decide +kernel
def tX3_allows_0 : Nat → Option am_Act := am_nd 18 (am_nd 6 (am_nd 3 (am_nd 1 (am_lf 0 (a_const (nI 0) 1)) (am_nd 2 (am_lf 1 (a_istore 2 2)) (am_lf 2 (a_const (nI 0) 3)))) (am_nd 4 (am_lf 3 (a_istore 3 4)) (am_nd 5 (am_lf 4 (a_iload 3 5)) (am_lf 5 (a_aload 0 6))))) (am_nd 13 (am_nd 9 (am_lf 6 (a_get tT 3 1 9)) (am_nd 12 (am_lf 9 (a_cmp (fun x y => y ≤ x) 208 12)) (am_lf 12 (a_aload 0 13)))) (am_nd 16 (am_lf 13 (a_get tT 3 2 16)) (am_nd 17 (am_lf 16 (a_iload 3 17)) (am_lf 17 (a_iald tT 18)))))) (am_nd 33 (am_nd 25 (am_nd 20 (am_lf 18 (a_istore 4 20)) (am_nd 22 (am_lf 20 (a_iload 4 22)) (am_lf 22 (a_const (nI 10000) 25)))) (am_nd 28 (am_lf 25 (a_cmp (fun x y => x = y) 36 28)) (am_nd 30 (am_lf 28 (a_iload 4 30)) (am_lf 30 (a_const (nI 10001) 33))))) (am_nd 40 (am_nd 36 (am_lf 33 (a_cmp (fun x y => x = y) 36 68)) (am_nd 37 (am_lf 36 (a_iload 2 37)) (am_lf 37 (a_if (fun x => x = nI 0) 49 40)))) (am_nd 41 (am_lf 40 (a_aload 0 41)) (am_nd 44 (am_lf 41 (a_get tT 3 3 44)) (am_lf 44 (a_const (nI 0) 45))))))
theorem gX3_allows_0 : am_Good tT mX3_allows tX3_allows_0 := am_nd_ok (am_nd_ok (am_nd_ok (am_nd_ok (am_lf_ok (fun _ => ok_iconst dX3_allows_0 cv_iconst_0 rfl)) (am_nd_ok (am_lf_ok (fun _ => ok_istore_n dX3_allows_1 rfl (Nat.le_of_ble_eq_true rfl) rfl)) (am_lf_ok (fun _ => ok_iconst dX3_allows_2 cv_iconst_0 rfl)))) (am_nd_ok (am_lf_ok (fun _ => ok_istore_n dX3_allows_3 rfl (Nat.le_of_ble_eq_true rfl) rfl)) (am_nd_ok (am_lf_ok (fun _ => ok_iload_n dX3_allows_4 rfl rfl)) (am_lf_ok (fun _ => ok_aload_n dX3_allows_5 rfl rfl))))) (am_nd_ok (am_nd_ok (am_lf_ok (fun _ => ok_get (C := RX3) (TT := TX3) (N := 4) rfl inw_X3 (Nat.le_of_ble_eq_true rfl) wd_72 dX3_allows_6 rfl)) (am_nd_ok (am_lf_ok (fun _ => ok_cmp_ge dX3_allows_9 rfl rfl)) (am_lf_ok (fun _ => ok_aload_n dX3_allows_12 rfl rfl)))) (am_nd_ok (am_lf_ok (fun _ => ok_get (C := RX3) (TT := TX3) (N := 4) rfl inw_X3 (Nat.le_of_ble_eq_true rfl) wd_73 dX3_allows_13 rfl)) (am_nd_ok (am_lf_ok (fun _ => ok_iload_n dX3_allows_16 rfl rfl)) (am_lf_ok (fun _ => ok_iald dX3_allows_17 rfl)))))) (am_nd_ok (am_nd_ok (am_nd_ok (am_lf_ok (fun _ => ok_istore dX3_allows_18 (Nat.le_of_ble_eq_true rfl) rfl)) (am_nd_ok (am_lf_ok (fun _ => ok_iload dX3_allows_20 rfl)) (am_lf_ok (fun _ => ok_sipush dX3_allows_22 cv_sipush_10000 rfl)))) (am_nd_ok (am_lf_ok (fun _ => ok_cmp_eq dX3_allows_25 rfl rfl)) (am_nd_ok (am_lf_ok (fun _ => ok_iload dX3_allows_28 rfl)) (am_lf_ok (fun _ => ok_sipush dX3_allows_30 cv_sipush_10001 rfl))))) (am_nd_ok (am_nd_ok (am_lf_ok (fun _ => ok_cmp_ne dX3_allows_33 rfl rfl)) (am_nd_ok (am_lf_ok (fun _ => ok_iload_n dX3_allows_36 rfl rfl)) (am_lf_ok (fun _ => ok_if_eq dX3_allows_37 rfl rfl)))) (am_nd_ok (am_lf_ok (fun _ => ok_aload_n dX3_allows_40 rfl rfl)) (am_nd_ok (am_lf_ok (fun _ => ok_get (C := RX3) (TT := TX3) (N := 4) rfl inw_X3 (Nat.le_of_ble_eq_true rfl) wd_74 dX3_allows_41 rfl)) (am_lf_ok (fun _ => ok_iconst dX3_allows_44 cv_iconst_0 rfl))))))
def tX3_allows_1 : Nat → Option am_Act := am_nd 68 (am_nd 58 (am_nd 51 (am_nd 46 (am_lf 45 (a_iald tT 46)) (am_nd 49 (am_lf 46 (a_if (fun x => x = nI 0) 63 49)) (am_lf 49 (a_iload 4 51)))) (am_nd 54 (am_lf 51 (a_const (nI 10000) 54)) (am_nd 57 (am_lf 54 (a_cmp (fun x y => x = y) 57 61)) (am_lf 57 (a_const (nI 1) 58))))) (am_nd 63 (am_nd 61 (am_lf 58 (a_goto 62)) (am_nd 62 (am_lf 61 (a_const (nI 0) 62)) (am_lf 62 (a_zret)))) (am_nd 64 (am_lf 63 (a_const (nI 0) 64)) (am_nd 65 (am_lf 64 (a_istore 2 65)) (am_lf 65 (a_goto 202)))))) (am_nd 81 (am_nd 76 (am_nd 70 (am_lf 68 (a_iload 4 70)) (am_nd 73 (am_lf 70 (a_const (nI 10005) 73)) (am_lf 73 (a_cmp (fun x y => x = y) 76 101)))) (am_nd 77 (am_lf 76 (a_iload 2 77)) (am_nd 80 (am_lf 77 (a_if (fun x => x ≤ nI 0) 202 80)) (am_lf 80 (a_aload 0 81))))) (am_nd 86 (am_nd 84 (am_lf 81 (a_get tT 3 3 84)) (am_nd 85 (am_lf 84 (a_iload 2 85)) (am_lf 85 (a_const (nI 1) 86)))) (am_nd 87 (am_lf 86 (a_bin (fun x y => x - y) 87)) (am_nd 88 (am_lf 87 (a_const (nI 1) 88)) (am_lf 88 (a_aload 0 89))))))
theorem gX3_allows_1 : am_Good tT mX3_allows tX3_allows_1 := am_nd_ok (am_nd_ok (am_nd_ok (am_nd_ok (am_lf_ok (fun _ => ok_iald dX3_allows_45 rfl)) (am_nd_ok (am_lf_ok (fun _ => ok_if_eq dX3_allows_46 rfl rfl)) (am_lf_ok (fun _ => ok_iload dX3_allows_49 rfl)))) (am_nd_ok (am_lf_ok (fun _ => ok_sipush dX3_allows_51 cv_sipush_10000 rfl)) (am_nd_ok (am_lf_ok (fun _ => ok_cmp_ne dX3_allows_54 rfl rfl)) (am_lf_ok (fun _ => ok_iconst dX3_allows_57 cv_iconst_1 rfl))))) (am_nd_ok (am_nd_ok (am_lf_ok (fun _ => ok_goto dX3_allows_58 rfl)) (am_nd_ok (am_lf_ok (fun _ => ok_iconst dX3_allows_61 cv_iconst_0 rfl)) (am_lf_ok (fun _ => ok_zret rfl dX3_allows_62)))) (am_nd_ok (am_lf_ok (fun _ => ok_iconst dX3_allows_63 cv_iconst_0 rfl)) (am_nd_ok (am_lf_ok (fun _ => ok_istore_n dX3_allows_64 rfl (Nat.le_of_ble_eq_true rfl) rfl)) (am_lf_ok (fun _ => ok_goto dX3_allows_65 rfl)))))) (am_nd_ok (am_nd_ok (am_nd_ok (am_lf_ok (fun _ => ok_iload dX3_allows_68 rfl)) (am_nd_ok (am_lf_ok (fun _ => ok_sipush dX3_allows_70 cv_sipush_10005 rfl)) (am_lf_ok (fun _ => ok_cmp_ne dX3_allows_73 rfl rfl)))) (am_nd_ok (am_lf_ok (fun _ => ok_iload_n dX3_allows_76 rfl rfl)) (am_nd_ok (am_lf_ok (fun _ => ok_if_le dX3_allows_77 rfl rfl)) (am_lf_ok (fun _ => ok_aload_n dX3_allows_80 rfl rfl))))) (am_nd_ok (am_nd_ok (am_lf_ok (fun _ => ok_get (C := RX3) (TT := TX3) (N := 4) rfl inw_X3 (Nat.le_of_ble_eq_true rfl) wd_74 dX3_allows_81 rfl)) (am_nd_ok (am_lf_ok (fun _ => ok_iload_n dX3_allows_84 rfl rfl)) (am_lf_ok (fun _ => ok_iconst dX3_allows_85 cv_iconst_1 rfl)))) (am_nd_ok (am_lf_ok (fun _ => ok_isub dX3_allows_86 rfl)) (am_nd_ok (am_lf_ok (fun _ => ok_iconst dX3_allows_87 cv_iconst_1 rfl)) (am_lf_ok (fun _ => ok_aload_n dX3_allows_88 rfl rfl))))))
def tX3_allows_2 : Nat → Option am_Act := am_nd 111 (am_nd 97 (am_nd 94 (am_nd 92 (am_lf 89 (a_get tT 3 3 92)) (am_nd 93 (am_lf 92 (a_iload 2 93)) (am_lf 93 (a_const (nI 1) 94)))) (am_nd 95 (am_lf 94 (a_bin (fun x y => x - y) 95)) (am_nd 96 (am_lf 95 (a_iald tT 96)) (am_lf 96 (a_bin (fun x y => x - y) 97))))) (am_nd 103 (am_nd 98 (am_lf 97 (a_iast tT 98)) (am_nd 101 (am_lf 98 (a_goto 202)) (am_lf 101 (a_iload 4 103)))) (am_nd 106 (am_lf 103 (a_const (nI 10004) 106)) (am_nd 109 (am_lf 106 (a_cmp (fun x y => x = y) 125 109)) (am_lf 109 (a_iload 4 111)))))) (am_nd 126 (am_nd 119 (am_nd 114 (am_lf 111 (a_const (nI 10003) 114)) (am_nd 117 (am_lf 114 (a_cmp (fun x y => x = y) 125 117)) (am_lf 117 (a_iload 4 119)))) (am_nd 122 (am_lf 119 (a_const (nI 20000) 122)) (am_nd 125 (am_lf 122 (a_cmp (fun x y => x < y) 163 125)) (am_lf 125 (a_iload 2 126))))) (am_nd 133 (am_nd 127 (am_lf 126 (a_const (nI 1) 127)) (am_nd 130 (am_lf 127 (a_cmp (fun x y => x ≤ y) 202 130)) (am_lf 130 (a_iinc 2 (-1) 133)))) (am_nd 134 (am_lf 133 (a_aload 0 134)) (am_nd 137 (am_lf 134 (a_get tT 3 3 137)) (am_lf 137 (a_iload 2 138))))))
theorem gX3_allows_2 : am_Good tT mX3_allows tX3_allows_2 := am_nd_ok (am_nd_ok (am_nd_ok (am_nd_ok (am_lf_ok (fun _ => ok_get (C := RX3) (TT := TX3) (N := 4) rfl inw_X3 (Nat.le_of_ble_eq_true rfl) wd_74 dX3_allows_89 rfl)) (am_nd_ok (am_lf_ok (fun _ => ok_iload_n dX3_allows_92 rfl rfl)) (am_lf_ok (fun _ => ok_iconst dX3_allows_93 cv_iconst_1 rfl)))) (am_nd_ok (am_lf_ok (fun _ => ok_isub dX3_allows_94 rfl)) (am_nd_ok (am_lf_ok (fun _ => ok_iald dX3_allows_95 rfl)) (am_lf_ok (fun _ => ok_isub dX3_allows_96 rfl))))) (am_nd_ok (am_nd_ok (am_lf_ok (fun _ => ok_iast dX3_allows_97 rfl)) (am_nd_ok (am_lf_ok (fun _ => ok_goto dX3_allows_98 rfl)) (am_lf_ok (fun _ => ok_iload dX3_allows_101 rfl)))) (am_nd_ok (am_lf_ok (fun _ => ok_sipush dX3_allows_103 cv_sipush_10004 rfl)) (am_nd_ok (am_lf_ok (fun _ => ok_cmp_eq dX3_allows_106 rfl rfl)) (am_lf_ok (fun _ => ok_iload dX3_allows_109 rfl)))))) (am_nd_ok (am_nd_ok (am_nd_ok (am_lf_ok (fun _ => ok_sipush dX3_allows_111 cv_sipush_10003 rfl)) (am_nd_ok (am_lf_ok (fun _ => ok_cmp_eq dX3_allows_114 rfl rfl)) (am_lf_ok (fun _ => ok_iload dX3_allows_117 rfl)))) (am_nd_ok (am_lf_ok (fun _ => ok_sipush dX3_allows_119 cv_sipush_20000 rfl)) (am_nd_ok (am_lf_ok (fun _ => ok_cmp_lt dX3_allows_122 rfl rfl)) (am_lf_ok (fun _ => ok_iload_n dX3_allows_125 rfl rfl))))) (am_nd_ok (am_nd_ok (am_lf_ok (fun _ => ok_iconst dX3_allows_126 cv_iconst_1 rfl)) (am_nd_ok (am_lf_ok (fun _ => ok_cmp_le dX3_allows_127 rfl rfl)) (am_lf_ok (fun _ => ok_iinc dX3_allows_130 cv_iconst_m1 (Nat.le_of_ble_eq_true rfl) rfl)))) (am_nd_ok (am_lf_ok (fun _ => ok_aload_n dX3_allows_133 rfl rfl)) (am_nd_ok (am_lf_ok (fun _ => ok_get (C := RX3) (TT := TX3) (N := 4) rfl inw_X3 (Nat.le_of_ble_eq_true rfl) wd_74 dX3_allows_134 rfl)) (am_lf_ok (fun _ => ok_iload_n dX3_allows_137 rfl rfl))))))
def tX3_allows_3 : Nat → Option am_Act := am_nd 155 (am_nd 147 (am_nd 142 (am_nd 139 (am_lf 138 (a_const (nI 1) 139)) (am_nd 140 (am_lf 139 (a_bin (fun x y => x - y) 140)) (am_lf 140 (a_iload 4 142)))) (am_nd 143 (am_lf 142 (a_aload 0 143)) (am_nd 146 (am_lf 143 (a_get tT 3 3 146)) (am_lf 146 (a_iload 2 147))))) (am_nd 150 (am_nd 148 (am_lf 147 (a_const (nI 1) 148)) (am_nd 149 (am_lf 148 (a_bin (fun x y => x - y) 149)) (am_lf 149 (a_iald tT 150)))) (am_nd 151 (am_lf 150 (a_aload 0 151)) (am_nd 154 (am_lf 151 (a_get tT 3 3 154)) (am_lf 154 (a_iload 2 155)))))) (am_nd 165 (am_nd 160 (am_nd 156 (am_lf 155 (a_iald tT 156)) (am_nd 159 (am_lf 156 (a_csI mX3_joined 3 159)) (am_lf 159 (a_iast tT 160)))) (am_nd 163 (am_lf 160 (a_goto 202)) (am_nd 164 (am_lf 163 (a_iload 2 164)) (am_lf 164 (a_aload 0 165))))) (am_nd 172 (am_nd 168 (am_lf 165 (a_get tT 3 3 168)) (am_nd 169 (am_lf 168 (a_alen tT 169)) (am_lf 169 (a_cmp (fun x y => y ≤ x) 202 172)))) (am_nd 173 (am_lf 172 (a_aload 0 173)) (am_nd 176 (am_lf 173 (a_get tT 3 3 176)) (am_lf 176 (a_iload 2 177))))))
theorem gX3_allows_3 : am_Good tT mX3_allows tX3_allows_3 := am_nd_ok (am_nd_ok (am_nd_ok (am_nd_ok (am_lf_ok (fun _ => ok_iconst dX3_allows_138 cv_iconst_1 rfl)) (am_nd_ok (am_lf_ok (fun _ => ok_isub dX3_allows_139 rfl)) (am_lf_ok (fun _ => ok_iload dX3_allows_140 rfl)))) (am_nd_ok (am_lf_ok (fun _ => ok_aload_n dX3_allows_142 rfl rfl)) (am_nd_ok (am_lf_ok (fun _ => ok_get (C := RX3) (TT := TX3) (N := 4) rfl inw_X3 (Nat.le_of_ble_eq_true rfl) wd_74 dX3_allows_143 rfl)) (am_lf_ok (fun _ => ok_iload_n dX3_allows_146 rfl rfl))))) (am_nd_ok (am_nd_ok (am_lf_ok (fun _ => ok_iconst dX3_allows_147 cv_iconst_1 rfl)) (am_nd_ok (am_lf_ok (fun _ => ok_isub dX3_allows_148 rfl)) (am_lf_ok (fun _ => ok_iald dX3_allows_149 rfl)))) (am_nd_ok (am_lf_ok (fun _ => ok_aload_n dX3_allows_150 rfl rfl)) (am_nd_ok (am_lf_ok (fun _ => ok_get (C := RX3) (TT := TX3) (N := 4) rfl inw_X3 (Nat.le_of_ble_eq_true rfl) wd_74 dX3_allows_151 rfl)) (am_lf_ok (fun _ => ok_iload_n dX3_allows_154 rfl rfl)))))) (am_nd_ok (am_nd_ok (am_nd_ok (am_lf_ok (fun _ => ok_iald dX3_allows_155 rfl)) (am_nd_ok (am_lf_ok (fun _ => ok_csI rfl mw_X3_joined wd_75 wd_76 dX3_allows_156 rfl)) (am_lf_ok (fun _ => ok_iast dX3_allows_159 rfl)))) (am_nd_ok (am_lf_ok (fun _ => ok_goto dX3_allows_160 rfl)) (am_nd_ok (am_lf_ok (fun _ => ok_iload_n dX3_allows_163 rfl rfl)) (am_lf_ok (fun _ => ok_aload_n dX3_allows_164 rfl rfl))))) (am_nd_ok (am_nd_ok (am_lf_ok (fun _ => ok_get (C := RX3) (TT := TX3) (N := 4) rfl inw_X3 (Nat.le_of_ble_eq_true rfl) wd_74 dX3_allows_165 rfl)) (am_nd_ok (am_lf_ok (fun _ => ok_alen dX3_allows_168 rfl)) (am_lf_ok (fun _ => ok_cmp_ge dX3_allows_169 rfl rfl)))) (am_nd_ok (am_lf_ok (fun _ => ok_aload_n dX3_allows_172 rfl rfl)) (am_nd_ok (am_lf_ok (fun _ => ok_get (C := RX3) (TT := TX3) (N := 4) rfl inw_X3 (Nat.le_of_ble_eq_true rfl) wd_74 dX3_allows_173 rfl)) (am_lf_ok (fun _ => ok_iload_n dX3_allows_176 rfl rfl))))))
def tX3_allows_4 : Nat → Option am_Act := am_nd 193 (am_nd 186 (am_nd 182 (am_nd 179 (am_lf 177 (a_iload 4 179)) (am_lf 179 (a_csI mX11_isFact 1 182))) (am_nd 185 (am_lf 182 (a_if (fun x => x = nI 0) 196 185)) (am_lf 185 (a_aload 1 186)))) (am_nd 191 (am_nd 188 (am_lf 186 (a_iload 4 188)) (am_lf 188 (a_const (nI 10006) 191))) (am_nd 192 (am_lf 191 (a_bin (fun x y => x - y) 192)) (am_lf 192 (a_iald tT 193))))) (am_nd 202 (am_nd 198 (am_nd 196 (am_lf 193 (a_goto 198)) (am_lf 196 (a_iload 4 198))) (am_nd 199 (am_lf 198 (a_iast tT 199)) (am_lf 199 (a_iinc 2 (nI 1) 202)))) (am_nd 208 (am_nd 205 (am_lf 202 (a_iinc 3 (nI 1) 205)) (am_lf 205 (a_goto 4))) (am_nd 209 (am_lf 208 (a_const (nI 1) 209)) (am_lf 209 (a_zret)))))
theorem gX3_allows_4 : am_Good tT mX3_allows tX3_allows_4 := am_nd_ok (am_nd_ok (am_nd_ok (am_nd_ok (am_lf_ok (fun _ => ok_iload dX3_allows_177 rfl)) (am_lf_ok (fun _ => ok_csIN rfl mw_X11_isFact wd_77 wd_78 dX3_allows_179 rfl))) (am_nd_ok (am_lf_ok (fun _ => ok_if_eq dX3_allows_182 rfl rfl)) (am_lf_ok (fun _ => ok_aload_n dX3_allows_185 rfl rfl)))) (am_nd_ok (am_nd_ok (am_lf_ok (fun _ => ok_iload dX3_allows_186 rfl)) (am_lf_ok (fun _ => ok_sipush dX3_allows_188 cv_sipush_10006 rfl))) (am_nd_ok (am_lf_ok (fun _ => ok_isub dX3_allows_191 rfl)) (am_lf_ok (fun _ => ok_iald dX3_allows_192 rfl))))) (am_nd_ok (am_nd_ok (am_nd_ok (am_lf_ok (fun _ => ok_goto dX3_allows_193 rfl)) (am_lf_ok (fun _ => ok_iload dX3_allows_196 rfl))) (am_nd_ok (am_lf_ok (fun _ => ok_iast dX3_allows_198 rfl)) (am_lf_ok (fun _ => ok_iinc dX3_allows_199 cv_iconst_1 (Nat.le_of_ble_eq_true rfl) rfl)))) (am_nd_ok (am_nd_ok (am_lf_ok (fun _ => ok_iinc dX3_allows_202 cv_iconst_1 (Nat.le_of_ble_eq_true rfl) rfl)) (am_lf_ok (fun _ => ok_goto dX3_allows_205 rfl))) (am_nd_ok (am_lf_ok (fun _ => ok_iconst dX3_allows_208 cv_iconst_1 rfl)) (am_lf_ok (fun _ => ok_zret rfl dX3_allows_209)))))
def tX3_allows : Nat → Option am_Act := am_nd 89 (am_nd 45 (tX3_allows_0) (tX3_allows_1)) (am_nd 138 (tX3_allows_2) (am_nd 177 (tX3_allows_3) (tX3_allows_4)))
theorem gX3_allows : am_Good tT mX3_allows tX3_allows := am_nd_ok (am_nd_ok (gX3_allows_0) (gX3_allows_1)) (am_nd_ok (gX3_allows_2) (am_nd_ok (gX3_allows_3) (gX3_allows_4)))
theorem dX3_joined_0 : decode cX3_joined 0 = .ok (.iload_n 0, 1) := by decide +kernel
theorem dX3_joined_1 : decode cX3_joined 1 = .ok (.lookupswitch 148 #[(10003, 144), (10004, 140), (20042, 91), (20043, 83), (20045, 87), (20047, 95), (20060, 107), (20061, 118), (20062, 129)], 83) := by decide +kernel
theorem dX3_joined_84 : decode cX3_joined 84 = .ok (.iload_n 1, 1) := by decide +kernel
theorem dX3_joined_85 : decode cX3_joined 85 = .ok (.iload_n 2, 1) := by decide +kernel
theorem dX3_joined_86 : decode cX3_joined 86 = .ok (.iadd, 1) := by decide +kernel
theorem dX3_joined_87 : decode cX3_joined 87 = .ok (.ireturn, 1) := by decide +kernel
theorem dX3_joined_88 : decode cX3_joined 88 = .ok (.iload_n 1, 1) := by decide +kernel
theorem dX3_joined_89 : decode cX3_joined 89 = .ok (.iload_n 2, 1) := by decide +kernel
theorem dX3_joined_90 : decode cX3_joined 90 = .ok (.isub, 1) := by decide +kernel
theorem dX3_joined_91 : decode cX3_joined 91 = .ok (.ireturn, 1) := by decide +kernel
theorem dX3_joined_92 : decode cX3_joined 92 = .ok (.iload_n 1, 1) := by decide +kernel
theorem dX3_joined_93 : decode cX3_joined 93 = .ok (.iload_n 2, 1) := by decide +kernel
theorem dX3_joined_94 : decode cX3_joined 94 = .ok (.imul, 1) := by decide +kernel
theorem dX3_joined_95 : decode cX3_joined 95 = .ok (.ireturn, 1) := by decide +kernel
theorem dX3_joined_96 : decode cX3_joined 96 = .ok (.iload_n 2, 1) := by decide +kernel
theorem dX3_joined_97 : decode cX3_joined 97 = .ok (.ifCond .ne 7, 3) := by decide +kernel
theorem dX3_joined_100 : decode cX3_joined 100 = .ok (.iconst 0, 1) := by decide +kernel
theorem dX3_joined_101 : decode cX3_joined 101 = .ok (.goto 6, 3) := by decide +kernel
theorem dX3_joined_104 : decode cX3_joined 104 = .ok (.iload_n 1, 1) := by decide +kernel
theorem dX3_joined_105 : decode cX3_joined 105 = .ok (.iload_n 2, 1) := by decide +kernel
theorem dX3_joined_106 : decode cX3_joined 106 = .ok (.idiv, 1) := by decide +kernel
theorem dX3_joined_107 : decode cX3_joined 107 = .ok (.ireturn, 1) := by decide +kernel
theorem dX3_joined_108 : decode cX3_joined 108 = .ok (.iload_n 1, 1) := by decide +kernel
theorem dX3_joined_109 : decode cX3_joined 109 = .ok (.iload_n 2, 1) := by decide +kernel
theorem dX3_joined_110 : decode cX3_joined 110 = .ok (.if_icmp .ge 7, 3) := by decide +kernel
theorem dX3_joined_113 : decode cX3_joined 113 = .ok (.iconst 1, 1) := by decide +kernel
theorem dX3_joined_114 : decode cX3_joined 114 = .ok (.goto 4, 3) := by decide +kernel
theorem dX3_joined_117 : decode cX3_joined 117 = .ok (.iconst 0, 1) := by decide +kernel
theorem dX3_joined_118 : decode cX3_joined 118 = .ok (.ireturn, 1) := by decide +kernel
theorem dX3_joined_119 : decode cX3_joined 119 = .ok (.iload_n 1, 1) := by decide +kernel
theorem dX3_joined_120 : decode cX3_joined 120 = .ok (.iload_n 2, 1) := by decide +kernel
theorem dX3_joined_121 : decode cX3_joined 121 = .ok (.if_icmp .ne 7, 3) := by decide +kernel
theorem dX3_joined_124 : decode cX3_joined 124 = .ok (.iconst 1, 1) := by decide +kernel
theorem dX3_joined_125 : decode cX3_joined 125 = .ok (.goto 4, 3) := by decide +kernel
theorem dX3_joined_128 : decode cX3_joined 128 = .ok (.iconst 0, 1) := by decide +kernel
theorem dX3_joined_129 : decode cX3_joined 129 = .ok (.ireturn, 1) := by decide +kernel
theorem dX3_joined_130 : decode cX3_joined 130 = .ok (.iload_n 1, 1) := by decide +kernel
theorem dX3_joined_131 : decode cX3_joined 131 = .ok (.iload_n 2, 1) := by decide +kernel
theorem dX3_joined_132 : decode cX3_joined 132 = .ok (.if_icmp .le 7, 3) := by decide +kernel
theorem dX3_joined_135 : decode cX3_joined 135 = .ok (.iconst 1, 1) := by decide +kernel
theorem dX3_joined_136 : decode cX3_joined 136 = .ok (.goto 4, 3) := by decide +kernel
theorem dX3_joined_139 : decode cX3_joined 139 = .ok (.iconst 0, 1) := by decide +kernel
theorem dX3_joined_140 : decode cX3_joined 140 = .ok (.ireturn, 1) := by decide +kernel
theorem dX3_joined_141 : decode cX3_joined 141 = .ok (.iload_n 1, 1) := by decide +kernel
theorem dX3_joined_142 : decode cX3_joined 142 = .ok (.iload_n 2, 1) := by decide +kernel
theorem dX3_joined_143 : decode cX3_joined 143 = .ok (.iand, 1) := by decide +kernel
theorem dX3_joined_144 : decode cX3_joined 144 = .ok (.ireturn, 1) := by decide +kernel
theorem dX3_joined_145 : decode cX3_joined 145 = .ok (.iload_n 1, 1) := by decide +kernel
theorem dX3_joined_146 : decode cX3_joined 146 = .ok (.iload_n 2, 1) := by decide +kernel
theorem dX3_joined_147 : decode cX3_joined 147 = .ok (.ior, 1) := by decide +kernel
theorem dX3_joined_148 : decode cX3_joined 148 = .ok (.ireturn, 1) := by decide +kernel
theorem dX3_joined_149 : decode cX3_joined 149 = .ok (.iconst 0, 1) := by decide +kernel
theorem dX3_joined_150 : decode cX3_joined 150 = .ok (.ireturn, 1) := by decide +kernel
def tX3_joined_0 : Nat → Option am_Act := am_nd 94 (am_nd 88 (am_nd 85 (am_nd 1 (am_lf 0 (a_iload 0 1)) (am_nd 84 (am_lf 1 (a_sw [(nI 10003, 145), (nI 10004, 141), (nI 20042, 92), (nI 20043, 84), (nI 20045, 88), (nI 20047, 96), (nI 20060, 108), (nI 20061, 119), (nI 20062, 130)] 149)) (am_lf 84 (a_iload 1 85)))) (am_nd 86 (am_lf 85 (a_iload 2 86)) (am_nd 87 (am_lf 86 (a_bin (fun x y => x + y) 87)) (am_lf 87 (a_iret))))) (am_nd 91 (am_nd 89 (am_lf 88 (a_iload 1 89)) (am_nd 90 (am_lf 89 (a_iload 2 90)) (am_lf 90 (a_bin (fun x y => x - y) 91)))) (am_nd 92 (am_lf 91 (a_iret)) (am_nd 93 (am_lf 92 (a_iload 1 93)) (am_lf 93 (a_iload 2 94)))))) (am_nd 104 (am_nd 97 (am_nd 95 (am_lf 94 (a_bin (fun x y => x * y) 95)) (am_nd 96 (am_lf 95 (a_iret)) (am_lf 96 (a_iload 2 97)))) (am_nd 100 (am_lf 97 (a_if (fun x => x = nI 0) 100 104)) (am_nd 101 (am_lf 100 (a_const (nI 0) 101)) (am_lf 101 (a_goto 107))))) (am_nd 107 (am_nd 105 (am_lf 104 (a_iload 1 105)) (am_nd 106 (am_lf 105 (a_iload 2 106)) (am_lf 106 (a_divr (fun x y => x / y) 107)))) (am_nd 108 (am_lf 107 (a_iret)) (am_nd 109 (am_lf 108 (a_iload 1 109)) (am_lf 109 (a_iload 2 110))))))
theorem gX3_joined_0 : am_Good tT mX3_joined tX3_joined_0 := am_nd_ok (am_nd_ok (am_nd_ok (am_nd_ok (am_lf_ok (fun _ => ok_iload_n dX3_joined_0 rfl rfl)) (am_nd_ok (am_lf_ok (fun _ => ok_lsw dX3_joined_1 rfl (by decide +kernel) (by decide +kernel) (by decide +kernel))) (am_lf_ok (fun _ => ok_iload_n dX3_joined_84 rfl rfl)))) (am_nd_ok (am_lf_ok (fun _ => ok_iload_n dX3_joined_85 rfl rfl)) (am_nd_ok (am_lf_ok (fun _ => ok_iadd dX3_joined_86 rfl)) (am_lf_ok (fun _ => ok_iret rfl dX3_joined_87))))) (am_nd_ok (am_nd_ok (am_lf_ok (fun _ => ok_iload_n dX3_joined_88 rfl rfl)) (am_nd_ok (am_lf_ok (fun _ => ok_iload_n dX3_joined_89 rfl rfl)) (am_lf_ok (fun _ => ok_isub dX3_joined_90 rfl)))) (am_nd_ok (am_lf_ok (fun _ => ok_iret rfl dX3_joined_91)) (am_nd_ok (am_lf_ok (fun _ => ok_iload_n dX3_joined_92 rfl rfl)) (am_lf_ok (fun _ => ok_iload_n dX3_joined_93 rfl rfl)))))) (am_nd_ok (am_nd_ok (am_nd_ok (am_lf_ok (fun _ => ok_imul dX3_joined_94 rfl)) (am_nd_ok (am_lf_ok (fun _ => ok_iret rfl dX3_joined_95)) (am_lf_ok (fun _ => ok_iload_n dX3_joined_96 rfl rfl)))) (am_nd_ok (am_lf_ok (fun _ => ok_if_ne dX3_joined_97 rfl rfl)) (am_nd_ok (am_lf_ok (fun _ => ok_iconst dX3_joined_100 cv_iconst_0 rfl)) (am_lf_ok (fun _ => ok_goto dX3_joined_101 rfl))))) (am_nd_ok (am_nd_ok (am_lf_ok (fun _ => ok_iload_n dX3_joined_104 rfl rfl)) (am_nd_ok (am_lf_ok (fun _ => ok_iload_n dX3_joined_105 rfl rfl)) (am_lf_ok (fun _ => ok_idiv dX3_joined_106 rfl)))) (am_nd_ok (am_lf_ok (fun _ => ok_iret rfl dX3_joined_107)) (am_nd_ok (am_lf_ok (fun _ => ok_iload_n dX3_joined_108 rfl rfl)) (am_lf_ok (fun _ => ok_iload_n dX3_joined_109 rfl rfl))))))
def tX3_joined_1 : Nat → Option am_Act := am_nd 130 (am_nd 120 (am_nd 117 (am_nd 113 (am_lf 110 (a_cmp (fun x y => y ≤ x) 117 113)) (am_nd 114 (am_lf 113 (a_const (nI 1) 114)) (am_lf 114 (a_goto 118)))) (am_nd 118 (am_lf 117 (a_const (nI 0) 118)) (am_nd 119 (am_lf 118 (a_iret)) (am_lf 119 (a_iload 1 120))))) (am_nd 125 (am_nd 121 (am_lf 120 (a_iload 2 121)) (am_nd 124 (am_lf 121 (a_cmp (fun x y => x = y) 124 128)) (am_lf 124 (a_const (nI 1) 125)))) (am_nd 128 (am_lf 125 (a_goto 129)) (am_nd 129 (am_lf 128 (a_const (nI 0) 129)) (am_lf 129 (a_iret)))))) (am_nd 140 (am_nd 135 (am_nd 131 (am_lf 130 (a_iload 1 131)) (am_nd 132 (am_lf 131 (a_iload 2 132)) (am_lf 132 (a_cmp (fun x y => x ≤ y) 139 135)))) (am_nd 136 (am_lf 135 (a_const (nI 1) 136)) (am_nd 139 (am_lf 136 (a_goto 140)) (am_lf 139 (a_const (nI 0) 140))))) (am_nd 143 (am_nd 141 (am_lf 140 (a_iret)) (am_nd 142 (am_lf 141 (a_iload 1 142)) (am_lf 142 (a_iload 2 143)))) (am_nd 144 (am_lf 143 (a_bin (fun x y => x &&& y) 144)) (am_nd 145 (am_lf 144 (a_iret)) (am_lf 145 (a_iload 1 146))))))
theorem gX3_joined_1 : am_Good tT mX3_joined tX3_joined_1 := am_nd_ok (am_nd_ok (am_nd_ok (am_nd_ok (am_lf_ok (fun _ => ok_cmp_ge dX3_joined_110 rfl rfl)) (am_nd_ok (am_lf_ok (fun _ => ok_iconst dX3_joined_113 cv_iconst_1 rfl)) (am_lf_ok (fun _ => ok_goto dX3_joined_114 rfl)))) (am_nd_ok (am_lf_ok (fun _ => ok_iconst dX3_joined_117 cv_iconst_0 rfl)) (am_nd_ok (am_lf_ok (fun _ => ok_iret rfl dX3_joined_118)) (am_lf_ok (fun _ => ok_iload_n dX3_joined_119 rfl rfl))))) (am_nd_ok (am_nd_ok (am_lf_ok (fun _ => ok_iload_n dX3_joined_120 rfl rfl)) (am_nd_ok (am_lf_ok (fun _ => ok_cmp_ne dX3_joined_121 rfl rfl)) (am_lf_ok (fun _ => ok_iconst dX3_joined_124 cv_iconst_1 rfl)))) (am_nd_ok (am_lf_ok (fun _ => ok_goto dX3_joined_125 rfl)) (am_nd_ok (am_lf_ok (fun _ => ok_iconst dX3_joined_128 cv_iconst_0 rfl)) (am_lf_ok (fun _ => ok_iret rfl dX3_joined_129)))))) (am_nd_ok (am_nd_ok (am_nd_ok (am_lf_ok (fun _ => ok_iload_n dX3_joined_130 rfl rfl)) (am_nd_ok (am_lf_ok (fun _ => ok_iload_n dX3_joined_131 rfl rfl)) (am_lf_ok (fun _ => ok_cmp_le dX3_joined_132 rfl rfl)))) (am_nd_ok (am_lf_ok (fun _ => ok_iconst dX3_joined_135 cv_iconst_1 rfl)) (am_nd_ok (am_lf_ok (fun _ => ok_goto dX3_joined_136 rfl)) (am_lf_ok (fun _ => ok_iconst dX3_joined_139 cv_iconst_0 rfl))))) (am_nd_ok (am_nd_ok (am_lf_ok (fun _ => ok_iret rfl dX3_joined_140)) (am_nd_ok (am_lf_ok (fun _ => ok_iload_n dX3_joined_141 rfl rfl)) (am_lf_ok (fun _ => ok_iload_n dX3_joined_142 rfl rfl)))) (am_nd_ok (am_lf_ok (fun _ => ok_iand dX3_joined_143 rfl)) (am_nd_ok (am_lf_ok (fun _ => ok_iret rfl dX3_joined_144)) (am_lf_ok (fun _ => ok_iload_n dX3_joined_145 rfl rfl))))))
def tX3_joined_2 : Nat → Option am_Act := am_nd 148 (am_nd 147 (am_lf 146 (a_iload 2 147)) (am_lf 147 (a_bin (fun x y => x ||| y) 148))) (am_nd 149 (am_lf 148 (a_iret)) (am_nd 150 (am_lf 149 (a_const (nI 0) 150)) (am_lf 150 (a_iret))))
theorem gX3_joined_2 : am_Good tT mX3_joined tX3_joined_2 := am_nd_ok (am_nd_ok (am_lf_ok (fun _ => ok_iload_n dX3_joined_146 rfl rfl)) (am_lf_ok (fun _ => ok_ior dX3_joined_147 rfl))) (am_nd_ok (am_lf_ok (fun _ => ok_iret rfl dX3_joined_148)) (am_nd_ok (am_lf_ok (fun _ => ok_iconst dX3_joined_149 cv_iconst_0 rfl)) (am_lf_ok (fun _ => ok_iret rfl dX3_joined_150))))
def tX3_joined : Nat → Option am_Act := am_nd 110 (tX3_joined_0) (am_nd 146 (tX3_joined_1) (tX3_joined_2))
theorem gX3_joined : am_Good tT mX3_joined tX3_joined := am_nd_ok (gX3_joined_0) (am_nd_ok (gX3_joined_1) (gX3_joined_2))
theorem dX3_copyFrom_0 : decode cX3_copyFrom 0 = .ok (.aload_n 0, 1) := by decide +kernel
theorem dX3_copyFrom_1 : decode cX3_copyFrom 1 = .ok (.aload_n 1, 1) := by decide +kernel
theorem dX3_copyFrom_2 : decode cX3_copyFrom 2 = .ok (.getfield 18, 3) := by decide +kernel
theorem dX3_copyFrom_5 : decode cX3_copyFrom 5 = .ok (.putfield 18, 3) := by decide +kernel
theorem dX3_copyFrom_8 : decode cX3_copyFrom 8 = .ok (.aload_n 0, 1) := by decide +kernel
theorem dX3_copyFrom_9 : decode cX3_copyFrom 9 = .ok (.aload_n 1, 1) := by decide +kernel
theorem dX3_copyFrom_10 : decode cX3_copyFrom 10 = .ok (.getfield 22, 3) := by decide +kernel
theorem dX3_copyFrom_13 : decode cX3_copyFrom 13 = .ok (.putfield 22, 3) := by decide +kernel
theorem dX3_copyFrom_16 : decode cX3_copyFrom 16 = .ok (.aload_n 1, 1) := by decide +kernel
theorem dX3_copyFrom_17 : decode cX3_copyFrom 17 = .ok (.getfield 9, 3) := by decide +kernel
theorem dX3_copyFrom_20 : decode cX3_copyFrom 20 = .ok (.iconst 0, 1) := by decide +kernel
theorem dX3_copyFrom_21 : decode cX3_copyFrom 21 = .ok (.aload_n 0, 1) := by decide +kernel
theorem dX3_copyFrom_22 : decode cX3_copyFrom 22 = .ok (.getfield 9, 3) := by decide +kernel
theorem dX3_copyFrom_25 : decode cX3_copyFrom 25 = .ok (.iconst 0, 1) := by decide +kernel
theorem dX3_copyFrom_26 : decode cX3_copyFrom 26 = .ok (.sipush 400, 3) := by decide +kernel
theorem dX3_copyFrom_29 : decode cX3_copyFrom 29 = .ok (.invokestatic 33, 3) := by decide +kernel
theorem dX3_copyFrom_32 : decode cX3_copyFrom 32 = .ok (.return_, 1) := by decide +kernel
def tX3_copyFrom_0 : Nat → Option am_Act := am_nd 16 (am_nd 8 (am_nd 2 (am_nd 1 (am_lf 0 (a_aload 0 1)) (am_lf 1 (a_aload 1 2))) (am_nd 5 (am_lf 2 (a_get tT 3 0 5)) (am_lf 5 (a_put tT 3 0 8)))) (am_nd 10 (am_nd 9 (am_lf 8 (a_aload 0 9)) (am_lf 9 (a_aload 1 10))) (am_nd 13 (am_lf 10 (a_get tT 3 1 13)) (am_lf 13 (a_put tT 3 1 16))))) (am_nd 22 (am_nd 20 (am_nd 17 (am_lf 16 (a_aload 1 17)) (am_lf 17 (a_get tT 3 2 20))) (am_nd 21 (am_lf 20 (a_const (nI 0) 21)) (am_lf 21 (a_aload 0 22)))) (am_nd 26 (am_nd 25 (am_lf 22 (a_get tT 3 2 25)) (am_lf 25 (a_const (nI 0) 26))) (am_nd 29 (am_lf 26 (a_const (nI 400) 29)) (am_nd 32 (am_lf 29 (a_copy tT 32)) (am_lf 32 (a_ret))))))
theorem gX3_copyFrom_0 : am_Good tT mX3_copyFrom tX3_copyFrom_0 := am_nd_ok (am_nd_ok (am_nd_ok (am_nd_ok (am_lf_ok (fun _ => ok_aload_n dX3_copyFrom_0 rfl rfl)) (am_lf_ok (fun _ => ok_aload_n dX3_copyFrom_1 rfl rfl))) (am_nd_ok (am_lf_ok (fun _ => ok_get (C := RX3) (TT := TX3) (N := 4) rfl inw_X3 (Nat.le_of_ble_eq_true rfl) wd_71 dX3_copyFrom_2 rfl)) (am_lf_ok (fun _ => ok_put (C := RX3) (TT := TX3) (N := 4) (ty0 := tyX3) rfl inw_X3 tyX3_ok nmX3 (Nat.le_of_ble_eq_true rfl) rfl rfl wd_71 dX3_copyFrom_5 rfl)))) (am_nd_ok (am_nd_ok (am_lf_ok (fun _ => ok_aload_n dX3_copyFrom_8 rfl rfl)) (am_lf_ok (fun _ => ok_aload_n dX3_copyFrom_9 rfl rfl))) (am_nd_ok (am_lf_ok (fun _ => ok_get (C := RX3) (TT := TX3) (N := 4) rfl inw_X3 (Nat.le_of_ble_eq_true rfl) wd_72 dX3_copyFrom_10 rfl)) (am_lf_ok (fun _ => ok_put (C := RX3) (TT := TX3) (N := 4) (ty0 := tyX3) rfl inw_X3 tyX3_ok nmX3 (Nat.le_of_ble_eq_true rfl) rfl rfl wd_72 dX3_copyFrom_13 rfl))))) (am_nd_ok (am_nd_ok (am_nd_ok (am_lf_ok (fun _ => ok_aload_n dX3_copyFrom_16 rfl rfl)) (am_lf_ok (fun _ => ok_get (C := RX3) (TT := TX3) (N := 4) rfl inw_X3 (Nat.le_of_ble_eq_true rfl) wd_73 dX3_copyFrom_17 rfl))) (am_nd_ok (am_lf_ok (fun _ => ok_iconst dX3_copyFrom_20 cv_iconst_0 rfl)) (am_lf_ok (fun _ => ok_aload_n dX3_copyFrom_21 rfl rfl)))) (am_nd_ok (am_nd_ok (am_lf_ok (fun _ => ok_get (C := RX3) (TT := TX3) (N := 4) rfl inw_X3 (Nat.le_of_ble_eq_true rfl) wd_73 dX3_copyFrom_22 rfl)) (am_lf_ok (fun _ => ok_iconst dX3_copyFrom_25 cv_iconst_0 rfl))) (am_nd_ok (am_lf_ok (fun _ => ok_sipush dX3_copyFrom_26 cv_sipush_400 rfl)) (am_nd_ok (am_lf_ok (fun _ => ok_copy wd_79 wd_31 wd_32 wd_33 dX3_copyFrom_29 rfl)) (am_lf_ok (fun _ => ok_ret rfl dX3_copyFrom_32))))))
def tX3_copyFrom : Nat → Option am_Act := tX3_copyFrom_0
theorem gX3_copyFrom : am_Good tT mX3_copyFrom tX3_copyFrom := gX3_copyFrom_0
