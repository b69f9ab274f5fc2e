/-! ===== code of TollOfNames$LawReader ===== -/
theorem dX4_hasRoom_0 : decode cX4_hasRoom 0 = .ok (.aload_n 0, 1) := by decide +kernel
theorem dX4_hasRoom_1 : decode cX4_hasRoom 1 = .ok (.getfield 35, 3) := by decide +kernel
theorem dX4_hasRoom_4 : decode cX4_hasRoom 4 = .ok (.bipush 20, 2) := by decide +kernel
theorem dX4_hasRoom_6 : decode cX4_hasRoom 6 = .ok (.iadd, 1) := by decide +kernel
theorem dX4_hasRoom_7 : decode cX4_hasRoom 7 = .ok (.sipush 400, 3) := by decide +kernel
theorem dX4_hasRoom_10 : decode cX4_hasRoom 10 = .ok (.if_icmp .gt 7, 3) := by decide +kernel
theorem dX4_hasRoom_13 : decode cX4_hasRoom 13 = .ok (.iconst 1, 1) := by decide +kernel
theorem dX4_hasRoom_14 : decode cX4_hasRoom 14 = .ok (.goto 4, 3) := by decide +kernel
theorem dX4_hasRoom_17 : decode cX4_hasRoom 17 = .ok (.iconst 0, 1) := by decide +kernel
theorem dX4_hasRoom_18 : decode cX4_hasRoom 18 = .ok (.ireturn, 1) := by decide +kernel
def tX4_hasRoom_0 : Nat → Option am_Act := am_nd 10 (am_nd 4 (am_nd 1 (am_lf 0 (a_aload 0 1)) (am_lf 1 (a_get tT 4 0 4))) (am_nd 6 (am_lf 4 (a_const (nI 20) 6)) (am_nd 7 (am_lf 6 (a_bin (fun x y => x + y) 7)) (am_lf 7 (a_const (nI 400) 10))))) (am_nd 14 (am_nd 13 (am_lf 10 (a_cmp (fun x y => y < x) 17 13)) (am_lf 13 (a_const (nI 1) 14))) (am_nd 17 (am_lf 14 (a_goto 18)) (am_nd 18 (am_lf 17 (a_const (nI 0) 18)) (am_lf 18 (a_zret)))))
theorem gX4_hasRoom_0 : am_Good tT mX4_hasRoom tX4_hasRoom_0 := am_nd_ok (am_nd_ok (am_nd_ok (am_lf_ok (fun _ => ok_aload_n dX4_hasRoom_0 rfl rfl)) (am_lf_ok (fun _ => ok_get (C := RX4) (TT := TX4) (N := 9) rfl inw_X4 (Nat.le_of_ble_eq_true rfl) wd_80 dX4_hasRoom_1 rfl))) (am_nd_ok (am_lf_ok (fun _ => ok_bipush dX4_hasRoom_4 cv_bipush_20 rfl)) (am_nd_ok (am_lf_ok (fun _ => ok_iadd dX4_hasRoom_6 rfl)) (am_lf_ok (fun _ => ok_sipush dX4_hasRoom_7 cv_sipush_400 rfl))))) (am_nd_ok (am_nd_ok (am_lf_ok (fun _ => ok_cmp_gt dX4_hasRoom_10 rfl rfl)) (am_lf_ok (fun _ => ok_iconst dX4_hasRoom_13 cv_iconst_1 rfl))) (am_nd_ok (am_lf_ok (fun _ => ok_goto dX4_hasRoom_14 rfl)) (am_nd_ok (am_lf_ok (fun _ => ok_iconst dX4_hasRoom_17 cv_iconst_0 rfl)) (am_lf_ok (fun _ => ok_zret rfl dX4_hasRoom_18)))))
def tX4_hasRoom : Nat → Option am_Act := tX4_hasRoom_0
theorem gX4_hasRoom : am_Good tT mX4_hasRoom tX4_hasRoom := gX4_hasRoom_0
theorem dX4_put_0 : decode cX4_put 0 = .ok (.bipush 24, 2) := by decide +kernel
theorem dX4_put_2 : decode cX4_put 2 = .ok (.istore_n 2, 1) := by decide +kernel
theorem dX4_put_3 : decode cX4_put 3 = .ok (.iload_n 2, 1) := by decide +kernel
theorem dX4_put_4 : decode cX4_put 4 = .ok (.ifCond .lt 45, 3) := by decide +kernel
theorem dX4_put_7 : decode cX4_put 7 = .ok (.aload_n 0, 1) := by decide +kernel
theorem dX4_put_8 : decode cX4_put 8 = .ok (.getfield 35, 3) := by decide +kernel
theorem dX4_put_11 : decode cX4_put 11 = .ok (.sipush 400, 3) := by decide +kernel
theorem dX4_put_14 : decode cX4_put 14 = .ok (.if_icmp .ge 35, 3) := by decide +kernel
theorem dX4_put_17 : decode cX4_put 17 = .ok (.aload_n 0, 1) := by decide +kernel
theorem dX4_put_18 : decode cX4_put 18 = .ok (.getfield 25, 3) := by decide +kernel
theorem dX4_put_21 : decode cX4_put 21 = .ok (.aload_n 0, 1) := by decide +kernel
theorem dX4_put_22 : decode cX4_put 22 = .ok (.getfield 35, 3) := by decide +kernel
theorem dX4_put_25 : decode cX4_put 25 = .ok (.iload_n 1, 1) := by decide +kernel
theorem dX4_put_26 : decode cX4_put 26 = .ok (.iload_n 2, 1) := by decide +kernel
theorem dX4_put_27 : decode cX4_put 27 = .ok (.iushr, 1) := by decide +kernel
theorem dX4_put_28 : decode cX4_put 28 = .ok (.sipush 255, 3) := by decide +kernel
theorem dX4_put_31 : decode cX4_put 31 = .ok (.iand, 1) := by decide +kernel
theorem dX4_put_32 : decode cX4_put 32 = .ok (.iastore, 1) := by decide +kernel
theorem dX4_put_33 : decode cX4_put 33 = .ok (.aload_n 0, 1) := by decide +kernel
theorem dX4_put_34 : decode cX4_put 34 = .ok (.dup, 1) := by decide +kernel
theorem dX4_put_35 : decode cX4_put 35 = .ok (.getfield 35, 3) := by decide +kernel
theorem dX4_put_38 : decode cX4_put 38 = .ok (.iconst 1, 1) := by decide +kernel
theorem dX4_put_39 : decode cX4_put 39 = .ok (.iadd, 1) := by decide +kernel
theorem dX4_put_40 : decode cX4_put 40 = .ok (.putfield 35, 3) := by decide +kernel
theorem dX4_put_43 : decode cX4_put 43 = .ok (.iinc 2 (-8), 3) := by decide +kernel
theorem dX4_put_46 : decode cX4_put 46 = .ok (.goto (-43), 3) := by decide +kernel
theorem dX4_put_49 : decode cX4_put 49 = .ok (.return_, 1) := by decide +kernel
def tX4_put_0 : Nat → Option am_Act := am_nd 25 (am_nd 11 (am_nd 4 (am_nd 2 (am_lf 0 (a_const (nI 24) 2)) (am_nd 3 (am_lf 2 (a_istore 2 3)) (am_lf 3 (a_iload 2 4)))) (am_nd 7 (am_lf 4 (a_if (fun x => x < nI 0) 49 7)) (am_nd 8 (am_lf 7 (a_aload 0 8)) (am_lf 8 (a_get tT 4 0 11))))) (am_nd 18 (am_nd 14 (am_lf 11 (a_const (nI 400) 14)) (am_nd 17 (am_lf 14 (a_cmp (fun x y => y ≤ x) 49 17)) (am_lf 17 (a_aload 0 18)))) (am_nd 21 (am_lf 18 (a_get tT 4 4 21)) (am_nd 22 (am_lf 21 (a_aload 0 22)) (am_lf 22 (a_get tT 4 0 25)))))) (am_nd 33 (am_nd 28 (am_nd 26 (am_lf 25 (a_iload 1 26)) (am_nd 27 (am_lf 26 (a_iload 2 27)) (am_lf 27 (a_bin am_ushr 28)))) (am_nd 31 (am_lf 28 (a_const (nI 255) 31)) (am_nd 32 (am_lf 31 (a_bin (fun x y => x &&& y) 32)) (am_lf 32 (a_iast tT 33))))) (am_nd 38 (am_nd 34 (am_lf 33 (a_aload 0 34)) (am_nd 35 (am_lf 34 (a_dup 35)) (am_lf 35 (a_get tT 4 0 38)))) (am_nd 39 (am_lf 38 (a_const (nI 1) 39)) (am_nd 40 (am_lf 39 (a_bin (fun x y => x + y) 40)) (am_lf 40 (a_put tT 4 0 43))))))
theorem gX4_put_0 : am_Good tT mX4_put tX4_put_0 := am_nd_ok (am_nd_ok (am_nd_ok (am_nd_ok (am_lf_ok (fun _ => ok_bipush dX4_put_0 cv_bipush_24 rfl)) (am_nd_ok (am_lf_ok (fun _ => ok_istore_n dX4_put_2 rfl (Nat.le_of_ble_eq_true rfl) rfl)) (am_lf_ok (fun _ => ok_iload_n dX4_put_3 rfl rfl)))) (am_nd_ok (am_lf_ok (fun _ => ok_if_lt dX4_put_4 rfl rfl)) (am_nd_ok (am_lf_ok (fun _ => ok_aload_n dX4_put_7 rfl rfl)) (am_lf_ok (fun _ => ok_get (C := RX4) (TT := TX4) (N := 9) rfl inw_X4 (Nat.le_of_ble_eq_true rfl) wd_80 dX4_put_8 rfl))))) (am_nd_ok (am_nd_ok (am_lf_ok (fun _ => ok_sipush dX4_put_11 cv_sipush_400 rfl)) (am_nd_ok (am_lf_ok (fun _ => ok_cmp_ge dX4_put_14 rfl rfl)) (am_lf_ok (fun _ => ok_aload_n dX4_put_17 rfl rfl)))) (am_nd_ok (am_lf_ok (fun _ => ok_get (C := RX4) (TT := TX4) (N := 9) rfl inw_X4 (Nat.le_of_ble_eq_true rfl) wd_81 dX4_put_18 rfl)) (am_nd_ok (am_lf_ok (fun _ => ok_aload_n dX4_put_21 rfl rfl)) (am_lf_ok (fun _ => ok_get (C := RX4) (TT := TX4) (N := 9) rfl inw_X4 (Nat.le_of_ble_eq_true rfl) wd_80 dX4_put_22 rfl)))))) (am_nd_ok (am_nd_ok (am_nd_ok (am_lf_ok (fun _ => ok_iload_n dX4_put_25 rfl rfl)) (am_nd_ok (am_lf_ok (fun _ => ok_iload_n dX4_put_26 rfl rfl)) (am_lf_ok (fun _ => ok_iushr dX4_put_27 rfl)))) (am_nd_ok (am_lf_ok (fun _ => ok_sipush dX4_put_28 cv_sipush_255 rfl)) (am_nd_ok (am_lf_ok (fun _ => ok_iand dX4_put_31 rfl)) (am_lf_ok (fun _ => ok_iast dX4_put_32 rfl))))) (am_nd_ok (am_nd_ok (am_lf_ok (fun _ => ok_aload_n dX4_put_33 rfl rfl)) (am_nd_ok (am_lf_ok (fun _ => ok_dup dX4_put_34 rfl)) (am_lf_ok (fun _ => ok_get (C := RX4) (TT := TX4) (N := 9) rfl inw_X4 (Nat.le_of_ble_eq_true rfl) wd_80 dX4_put_35 rfl)))) (am_nd_ok (am_lf_ok (fun _ => ok_iconst dX4_put_38 cv_iconst_1 rfl)) (am_nd_ok (am_lf_ok (fun _ => ok_iadd dX4_put_39 rfl)) (am_lf_ok (fun _ => ok_put (C := RX4) (TT := TX4) (N := 9) (ty0 := tyX4) rfl inw_X4 tyX4_ok nmX4 (Nat.le_of_ble_eq_true rfl) rfl rfl wd_80 dX4_put_40 rfl))))))
def tX4_put_1 : Nat → Option am_Act := am_nd 46 (am_lf 43 (a_iinc 2 (-8) 46)) (am_nd 49 (am_lf 46 (a_goto 3)) (am_lf 49 (a_ret)))
theorem gX4_put_1 : am_Good tT mX4_put tX4_put_1 := am_nd_ok (am_lf_ok (fun _ => ok_iinc dX4_put_43 cv_iconst_m8 (Nat.le_of_ble_eq_true rfl) rfl)) (am_nd_ok (am_lf_ok (fun _ => ok_goto dX4_put_46 rfl)) (am_lf_ok (fun _ => ok_ret rfl dX4_put_49)))
def tX4_put : Nat → Option am_Act := am_nd 43 (tX4_put_0) (tX4_put_1)
theorem gX4_put : am_Good tT mX4_put tX4_put := am_nd_ok (gX4_put_0) (gX4_put_1)
theorem dX4_read_0 : decode cX4_read 0 = .ok (.aload_n 0, 1) := by decide +kernel
theorem dX4_read_1 : decode cX4_read 1 = .ok (.iconst 0, 1) := by decide +kernel
theorem dX4_read_2 : decode cX4_read 2 = .ok (.putfield 9, 3) := by decide +kernel
theorem dX4_read_5 : decode cX4_read 5 = .ok (.aload_n 0, 1) := by decide +kernel
theorem dX4_read_6 : decode cX4_read 6 = .ok (.iconst (-1), 1) := by decide +kernel
theorem dX4_read_7 : decode cX4_read 7 = .ok (.putfield 15, 3) := by decide +kernel
theorem dX4_read_10 : decode cX4_read 10 = .ok (.aload_n 0, 1) := by decide +kernel
theorem dX4_read_11 : decode cX4_read 11 = .ok (.getfield 21, 3) := by decide +kernel
theorem dX4_read_14 : decode cX4_read 14 = .ok (.invokevirtual 38, 3) := by decide +kernel
theorem dX4_read_17 : decode cX4_read 17 = .ok (.aload_n 0, 1) := by decide +kernel
theorem dX4_read_18 : decode cX4_read 18 = .ok (.invokevirtual 41, 3) := by decide +kernel
theorem dX4_read_21 : decode cX4_read 21 = .ok (.aload_n 0, 1) := by decide +kernel
theorem dX4_read_22 : decode cX4_read 22 = .ok (.iconst 0, 1) := by decide +kernel
theorem dX4_read_23 : decode cX4_read 23 = .ok (.putfield 44, 3) := by decide +kernel
theorem dX4_read_26 : decode cX4_read 26 = .ok (.aload_n 0, 1) := by decide +kernel
theorem dX4_read_27 : decode cX4_read 27 = .ok (.aload_n 0, 1) := by decide +kernel
theorem dX4_read_28 : decode cX4_read 28 = .ok (.getfield 29, 3) := by decide +kernel
theorem dX4_read_31 : decode cX4_read 31 = .ok (.iconst 0, 1) := by decide +kernel
theorem dX4_read_32 : decode cX4_read 32 = .ok (.iaload, 1) := by decide +kernel
theorem dX4_read_33 : decode cX4_read 33 = .ok (.putfield 47, 3) := by decide +kernel
theorem dX4_read_36 : decode cX4_read 36 = .ok (.iconst 0, 1) := by decide +kernel
theorem dX4_read_37 : decode cX4_read 37 = .ok (.istore_n 1, 1) := by decide +kernel
theorem dX4_read_38 : decode cX4_read 38 = .ok (.iload_n 1, 1) := by decide +kernel
theorem dX4_read_39 : decode cX4_read 39 = .ok (.bipush 16, 2) := by decide +kernel
theorem dX4_read_41 : decode cX4_read 41 = .ok (.if_icmp .gt 123, 3) := by decide +kernel
theorem dX4_read_44 : decode cX4_read 44 = .ok (.aload_n 0, 1) := by decide +kernel
theorem dX4_read_45 : decode cX4_read 45 = .ok (.getfield 47, 3) := by decide +kernel
theorem dX4_read_48 : decode cX4_read 48 = .ok (.iconst (-1), 1) := by decide +kernel
theorem dX4_read_49 : decode cX4_read 49 = .ok (.if_icmp .eq 115, 3) := by decide +kernel
theorem dX4_read_52 : decode cX4_read 52 = .ok (.aload_n 0, 1) := by decide +kernel
theorem dX4_read_53 : decode cX4_read 53 = .ok (.getfield 47, 3) := by decide +kernel
theorem dX4_read_56 : decode cX4_read 56 = .ok (.istore_n 2, 1) := by decide +kernel
theorem dX4_read_57 : decode cX4_read 57 = .ok (.iload_n 2, 1) := by decide +kernel
theorem dX4_read_58 : decode cX4_read 58 = .ok (.sipush 10000, 3) := by decide +kernel
theorem dX4_read_61 : decode cX4_read 61 = .ok (.if_icmp .eq 16, 3) := by decide +kernel
theorem dX4_read_64 : decode cX4_read 64 = .ok (.iload_n 2, 1) := by decide +kernel
theorem dX4_read_65 : decode cX4_read 65 = .ok (.sipush 10001, 3) := by decide +kernel
theorem dX4_read_68 : decode cX4_read 68 = .ok (.if_icmp .eq 9, 3) := by decide +kernel
theorem dX4_read_71 : decode cX4_read 71 = .ok (.aload_n 0, 1) := by decide +kernel
theorem dX4_read_72 : decode cX4_read 72 = .ok (.iconst 1, 1) := by decide +kernel
theorem dX4_read_73 : decode cX4_read 73 = .ok (.invokevirtual 50, 3) := by decide +kernel
theorem dX4_read_76 : decode cX4_read 76 = .ok (.ireturn, 1) := by decide +kernel
theorem dX4_read_77 : decode cX4_read 77 = .ok (.iload_n 1, 1) := by decide +kernel
theorem dX4_read_78 : decode cX4_read 78 = .ok (.bipush 16, 2) := by decide +kernel
theorem dX4_read_80 : decode cX4_read 80 = .ok (.if_icmp .ne 9, 3) := by decide +kernel
theorem dX4_read_83 : decode cX4_read 83 = .ok (.aload_n 0, 1) := by decide +kernel
theorem dX4_read_84 : decode cX4_read 84 = .ok (.iconst 3, 1) := by decide +kernel
theorem dX4_read_85 : decode cX4_read 85 = .ok (.invokevirtual 50, 3) := by decide +kernel
theorem dX4_read_88 : decode cX4_read 88 = .ok (.ireturn, 1) := by decide +kernel
theorem dX4_read_89 : decode cX4_read 89 = .ok (.aload_n 0, 1) := by decide +kernel
theorem dX4_read_90 : decode cX4_read 90 = .ok (.invokevirtual 54, 3) := by decide +kernel
theorem dX4_read_93 : decode cX4_read 93 = .ok (.aload_n 0, 1) := by decide +kernel
theorem dX4_read_94 : decode cX4_read 94 = .ok (.getfield 47, 3) := by decide +kernel
theorem dX4_read_97 : decode cX4_read 97 = .ok (.sipush 10002, 3) := by decide +kernel
theorem dX4_read_100 : decode cX4_read 100 = .ok (.if_icmp .ne 17, 3) := by decide +kernel
theorem dX4_read_103 : decode cX4_read 103 = .ok (.aload_n 0, 1) := by decide +kernel
theorem dX4_read_104 : decode cX4_read 104 = .ok (.invokevirtual 54, 3) := by decide +kernel
theorem dX4_read_107 : decode cX4_read 107 = .ok (.aload_n 0, 1) := by decide +kernel
theorem dX4_read_108 : decode cX4_read 108 = .ok (.iconst 0, 1) := by decide +kernel
theorem dX4_read_109 : decode cX4_read 109 = .ok (.invokevirtual 57, 3) := by decide +kernel
theorem dX4_read_112 : decode cX4_read 112 = .ok (.ifCond .ne 5, 3) := by decide +kernel
theorem dX4_read_115 : decode cX4_read 115 = .ok (.iconst 0, 1) := by decide +kernel
theorem dX4_read_116 : decode cX4_read 116 = .ok (.ireturn, 1) := by decide +kernel
theorem dX4_read_117 : decode cX4_read 117 = .ok (.aload_n 0, 1) := by decide +kernel
theorem dX4_read_118 : decode cX4_read 118 = .ok (.getfield 47, 3) := by decide +kernel
theorem dX4_read_121 : decode cX4_read 121 = .ok (.sipush 20059, 3) := by decide +kernel
theorem dX4_read_124 : decode cX4_read 124 = .ok (.if_icmp .eq 9, 3) := by decide +kernel
theorem dX4_read_127 : decode cX4_read 127 = .ok (.aload_n 0, 1) := by decide +kernel
theorem dX4_read_128 : decode cX4_read 128 = .ok (.iconst 1, 1) := by decide +kernel
theorem dX4_read_129 : decode cX4_read 129 = .ok (.invokevirtual 50, 3) := by decide +kernel
theorem dX4_read_132 : decode cX4_read 132 = .ok (.ireturn, 1) := by decide +kernel
theorem dX4_read_133 : decode cX4_read 133 = .ok (.aload_n 0, 1) := by decide +kernel
theorem dX4_read_134 : decode cX4_read 134 = .ok (.invokevirtual 54, 3) := by decide +kernel
theorem dX4_read_137 : decode cX4_read 137 = .ok (.aload_n 0, 1) := by decide +kernel
theorem dX4_read_138 : decode cX4_read 138 = .ok (.getfield 21, 3) := by decide +kernel
theorem dX4_read_141 : decode cX4_read 141 = .ok (.iload_n 2, 1) := by decide +kernel
theorem dX4_read_142 : decode cX4_read 142 = .ok (.invokevirtual 60, 3) := by decide +kernel
theorem dX4_read_145 : decode cX4_read 145 = .ok (.aload_n 0, 1) := by decide +kernel
theorem dX4_read_146 : decode cX4_read 146 = .ok (.getfield 21, 3) := by decide +kernel
theorem dX4_read_149 : decode cX4_read 149 = .ok (.dup, 1) := by decide +kernel
theorem dX4_read_150 : decode cX4_read 150 = .ok (.getfield 64, 3) := by decide +kernel
theorem dX4_read_153 : decode cX4_read 153 = .ok (.iconst 1, 1) := by decide +kernel
theorem dX4_read_154 : decode cX4_read 154 = .ok (.iadd, 1) := by decide +kernel
theorem dX4_read_155 : decode cX4_read 155 = .ok (.putfield 64, 3) := by decide +kernel
theorem dX4_read_158 : decode cX4_read 158 = .ok (.iinc 1 1, 3) := by decide +kernel
theorem dX4_read_161 : decode cX4_read 161 = .ok (.goto (-123), 3) := by decide +kernel
theorem dX4_read_164 : decode cX4_read 164 = .ok (.iconst 1, 1) := by decide +kernel
theorem dX4_read_165 : decode cX4_read 165 = .ok (.ireturn, 1) := by decide +kernel
def tX4_read_0 : Nat → Option am_Act := am_nd 22 (am_nd 10 (am_nd 5 (am_nd 1 (am_lf 0 (a_aload 0 1)) (am_nd 2 (am_lf 1 (a_const (nI 0) 2)) (am_lf 2 (a_put tT 4 1 5)))) (am_nd 6 (am_lf 5 (a_aload 0 6)) (am_nd 7 (am_lf 6 (a_const (-1) 7)) (am_lf 7 (a_put tT 4 2 10))))) (am_nd 17 (am_nd 11 (am_lf 10 (a_aload 0 11)) (am_nd 14 (am_lf 11 (a_get tT 4 3 14)) (am_lf 14 (a_cvV tT mX3_clear 3 0 17)))) (am_nd 18 (am_lf 17 (a_aload 0 18)) (am_nd 21 (am_lf 18 (a_cvV tT mX4_scan 4 0 21)) (am_lf 21 (a_aload 0 22)))))) (am_nd 32 (am_nd 27 (am_nd 23 (am_lf 22 (a_const (nI 0) 23)) (am_nd 26 (am_lf 23 (a_put tT 4 7 26)) (am_lf 26 (a_aload 0 27)))) (am_nd 28 (am_lf 27 (a_aload 0 28)) (am_nd 31 (am_lf 28 (a_get tT 4 5 31)) (am_lf 31 (a_const (nI 0) 32))))) (am_nd 37 (am_nd 33 (am_lf 32 (a_iald tT 33)) (am_nd 36 (am_lf 33 (a_put tT 4 8 36)) (am_lf 36 (a_const (nI 0) 37)))) (am_nd 38 (am_lf 37 (a_istore 1 38)) (am_nd 39 (am_lf 38 (a_iload 1 39)) (am_lf 39 (a_const (nI 16) 41))))))
theorem gX4_read_0 : am_Good tT mX4_read tX4_read_0 := am_nd_ok (am_nd_ok (am_nd_ok (am_nd_ok (am_lf_ok (fun _ => ok_aload_n dX4_read_0 rfl rfl)) (am_nd_ok (am_lf_ok (fun _ => ok_iconst dX4_read_1 cv_iconst_0 rfl)) (am_lf_ok (fun _ => ok_put (C := RX4) (TT := TX4) (N := 9) (ty0 := tyX4) rfl inw_X4 tyX4_ok nmX4 (Nat.le_of_ble_eq_true rfl) rfl rfl wd_82 dX4_read_2 rfl)))) (am_nd_ok (am_lf_ok (fun _ => ok_aload_n dX4_read_5 rfl rfl)) (am_nd_ok (am_lf_ok (fun _ => ok_iconst dX4_read_6 cv_iconst_m1 rfl)) (am_lf_ok (fun _ => ok_put (C := RX4) (TT := TX4) (N := 9) (ty0 := tyX4) rfl inw_X4 tyX4_ok nmX4 (Nat.le_of_ble_eq_true rfl) rfl rfl wd_83 dX4_read_7 rfl))))) (am_nd_ok (am_nd_ok (am_lf_ok (fun _ => ok_aload_n dX4_read_10 rfl rfl)) (am_nd_ok (am_lf_ok (fun _ => ok_get (C := RX4) (TT := TX4) (N := 9) rfl inw_X4 (Nat.le_of_ble_eq_true rfl) wd_84 dX4_read_11 rfl)) (am_lf_ok (fun _ => ok_cvV rfl mw_X3_clear (ci := 3) rfl rfl wd_85 wd_86 wd_87 dX4_read_14 rfl)))) (am_nd_ok (am_lf_ok (fun _ => ok_aload_n dX4_read_17 rfl rfl)) (am_nd_ok (am_lf_ok (fun _ => ok_cvV rfl mw_X4_scan (ci := 4) rfl rfl wd_88 wd_89 wd_90 dX4_read_18 rfl)) (am_lf_ok (fun _ => ok_aload_n dX4_read_21 rfl rfl)))))) (am_nd_ok (am_nd_ok (am_nd_ok (am_lf_ok (fun _ => ok_iconst dX4_read_22 cv_iconst_0 rfl)) (am_nd_ok (am_lf_ok (fun _ => ok_put (C := RX4) (TT := TX4) (N := 9) (ty0 := tyX4) rfl inw_X4 tyX4_ok nmX4 (Nat.le_of_ble_eq_true rfl) rfl rfl wd_91 dX4_read_23 rfl)) (am_lf_ok (fun _ => ok_aload_n dX4_read_26 rfl rfl)))) (am_nd_ok (am_lf_ok (fun _ => ok_aload_n dX4_read_27 rfl rfl)) (am_nd_ok (am_lf_ok (fun _ => ok_get (C := RX4) (TT := TX4) (N := 9) rfl inw_X4 (Nat.le_of_ble_eq_true rfl) wd_92 dX4_read_28 rfl)) (am_lf_ok (fun _ => ok_iconst dX4_read_31 cv_iconst_0 rfl))))) (am_nd_ok (am_nd_ok (am_lf_ok (fun _ => ok_iald dX4_read_32 rfl)) (am_nd_ok (am_lf_ok (fun _ => ok_put (C := RX4) (TT := TX4) (N := 9) (ty0 := tyX4) rfl inw_X4 tyX4_ok nmX4 (Nat.le_of_ble_eq_true rfl) rfl rfl wd_93 dX4_read_33 rfl)) (am_lf_ok (fun _ => ok_iconst dX4_read_36 cv_iconst_0 rfl)))) (am_nd_ok (am_lf_ok (fun _ => ok_istore_n dX4_read_37 rfl (Nat.le_of_ble_eq_true rfl) rfl)) (am_nd_ok (am_lf_ok (fun _ => ok_iload_n dX4_read_38 rfl rfl)) (am_lf_ok (fun _ => ok_bipush dX4_read_39 cv_bipush_16 rfl))))))
def tX4_read_1 : Nat → Option am_Act := am_nd 65 (am_nd 53 (am_nd 48 (am_nd 44 (am_lf 41 (a_cmp (fun x y => y < x) 164 44)) (am_nd 45 (am_lf 44 (a_aload 0 45)) (am_lf 45 (a_get tT 4 8 48)))) (am_nd 49 (am_lf 48 (a_const (-1) 49)) (am_nd 52 (am_lf 49 (a_cmp (fun x y => x = y) 164 52)) (am_lf 52 (a_aload 0 53))))) (am_nd 58 (am_nd 56 (am_lf 53 (a_get tT 4 8 56)) (am_nd 57 (am_lf 56 (a_istore 2 57)) (am_lf 57 (a_iload 2 58)))) (am_nd 61 (am_lf 58 (a_const (nI 10000) 61)) (am_nd 64 (am_lf 61 (a_cmp (fun x y => x = y) 77 64)) (am_lf 64 (a_iload 2 65)))))) (am_nd 77 (am_nd 72 (am_nd 68 (am_lf 65 (a_const (nI 10001) 68)) (am_nd 71 (am_lf 68 (a_cmp (fun x y => x = y) 77 71)) (am_lf 71 (a_aload 0 72)))) (am_nd 73 (am_lf 72 (a_const (nI 1) 73)) (am_nd 76 (am_lf 73 (a_cvI tT mX4_refuse 4 1 76)) (am_lf 76 (a_zret))))) (am_nd 83 (am_nd 78 (am_lf 77 (a_iload 1 78)) (am_nd 80 (am_lf 78 (a_const (nI 16) 80)) (am_lf 80 (a_cmp (fun x y => x = y) 83 89)))) (am_nd 84 (am_lf 83 (a_aload 0 84)) (am_nd 85 (am_lf 84 (a_const (nI 3) 85)) (am_lf 85 (a_cvI tT mX4_refuse 4 1 88))))))
theorem gX4_read_1 : am_Good tT mX4_read tX4_read_1 := am_nd_ok (am_nd_ok (am_nd_ok (am_nd_ok (am_lf_ok (fun _ => ok_cmp_gt dX4_read_41 rfl rfl)) (am_nd_ok (am_lf_ok (fun _ => ok_aload_n dX4_read_44 rfl rfl)) (am_lf_ok (fun _ => ok_get (C := RX4) (TT := TX4) (N := 9) rfl inw_X4 (Nat.le_of_ble_eq_true rfl) wd_93 dX4_read_45 rfl)))) (am_nd_ok (am_lf_ok (fun _ => ok_iconst dX4_read_48 cv_iconst_m1 rfl)) (am_nd_ok (am_lf_ok (fun _ => ok_cmp_eq dX4_read_49 rfl rfl)) (am_lf_ok (fun _ => ok_aload_n dX4_read_52 rfl rfl))))) (am_nd_ok (am_nd_ok (am_lf_ok (fun _ => ok_get (C := RX4) (TT := TX4) (N := 9) rfl inw_X4 (Nat.le_of_ble_eq_true rfl) wd_93 dX4_read_53 rfl)) (am_nd_ok (am_lf_ok (fun _ => ok_istore_n dX4_read_56 rfl (Nat.le_of_ble_eq_true rfl) rfl)) (am_lf_ok (fun _ => ok_iload_n dX4_read_57 rfl rfl)))) (am_nd_ok (am_lf_ok (fun _ => ok_sipush dX4_read_58 cv_sipush_10000 rfl)) (am_nd_ok (am_lf_ok (fun _ => ok_cmp_eq dX4_read_61 rfl rfl)) (am_lf_ok (fun _ => ok_iload_n dX4_read_64 rfl rfl)))))) (am_nd_ok (am_nd_ok (am_nd_ok (am_lf_ok (fun _ => ok_sipush dX4_read_65 cv_sipush_10001 rfl)) (am_nd_ok (am_lf_ok (fun _ => ok_cmp_eq dX4_read_68 rfl rfl)) (am_lf_ok (fun _ => ok_aload_n dX4_read_71 rfl rfl)))) (am_nd_ok (am_lf_ok (fun _ => ok_iconst dX4_read_72 cv_iconst_1 rfl)) (am_nd_ok (am_lf_ok (fun _ => ok_cvI rfl mw_X4_refuse (ci := 4) rfl rfl wd_94 wd_95 wd_96 dX4_read_73 rfl)) (am_lf_ok (fun _ => ok_zret rfl dX4_read_76))))) (am_nd_ok (am_nd_ok (am_lf_ok (fun _ => ok_iload_n dX4_read_77 rfl rfl)) (am_nd_ok (am_lf_ok (fun _ => ok_bipush dX4_read_78 cv_bipush_16 rfl)) (am_lf_ok (fun _ => ok_cmp_ne dX4_read_80 rfl rfl)))) (am_nd_ok (am_lf_ok (fun _ => ok_aload_n dX4_read_83 rfl rfl)) (am_nd_ok (am_lf_ok (fun _ => ok_iconst dX4_read_84 cv_iconst_3 rfl)) (am_lf_ok (fun _ => ok_cvI rfl mw_X4_refuse (ci := 4) rfl rfl wd_94 wd_95 wd_96 dX4_read_85 rfl))))))
def tX4_read_2 : Nat → Option am_Act := am_nd 112 (am_nd 100 (am_nd 93 (am_nd 89 (am_lf 88 (a_zret)) (am_nd 90 (am_lf 89 (a_aload 0 90)) (am_lf 90 (a_cvV tT mX4_next 4 0 93)))) (am_nd 94 (am_lf 93 (a_aload 0 94)) (am_nd 97 (am_lf 94 (a_get tT 4 8 97)) (am_lf 97 (a_const (nI 10002) 100))))) (am_nd 107 (am_nd 103 (am_lf 100 (a_cmp (fun x y => x = y) 103 117)) (am_nd 104 (am_lf 103 (a_aload 0 104)) (am_lf 104 (a_cvV tT mX4_next 4 0 107)))) (am_nd 108 (am_lf 107 (a_aload 0 108)) (am_nd 109 (am_lf 108 (a_const (nI 0) 109)) (am_lf 109 (a_cvI tT mX4_readCondition 4 1 112)))))) (am_nd 124 (am_nd 117 (am_nd 115 (am_lf 112 (a_if (fun x => x = nI 0) 115 117)) (am_nd 116 (am_lf 115 (a_const (nI 0) 116)) (am_lf 116 (a_zret)))) (am_nd 118 (am_lf 117 (a_aload 0 118)) (am_nd 121 (am_lf 118 (a_get tT 4 8 121)) (am_lf 121 (a_const (nI 20059) 124))))) (am_nd 129 (am_nd 127 (am_lf 124 (a_cmp (fun x y => x = y) 133 127)) (am_nd 128 (am_lf 127 (a_aload 0 128)) (am_lf 128 (a_const (nI 1) 129)))) (am_nd 132 (am_lf 129 (a_cvI tT mX4_refuse 4 1 132)) (am_nd 133 (am_lf 132 (a_zret)) (am_lf 133 (a_aload 0 134))))))
theorem gX4_read_2 : am_Good tT mX4_read tX4_read_2 := am_nd_ok (am_nd_ok (am_nd_ok (am_nd_ok (am_lf_ok (fun _ => ok_zret rfl dX4_read_88)) (am_nd_ok (am_lf_ok (fun _ => ok_aload_n dX4_read_89 rfl rfl)) (am_lf_ok (fun _ => ok_cvV rfl mw_X4_next (ci := 4) rfl rfl wd_97 wd_98 wd_99 dX4_read_90 rfl)))) (am_nd_ok (am_lf_ok (fun _ => ok_aload_n dX4_read_93 rfl rfl)) (am_nd_ok (am_lf_ok (fun _ => ok_get (C := RX4) (TT := TX4) (N := 9) rfl inw_X4 (Nat.le_of_ble_eq_true rfl) wd_93 dX4_read_94 rfl)) (am_lf_ok (fun _ => ok_sipush dX4_read_97 cv_sipush_10002 rfl))))) (am_nd_ok (am_nd_ok (am_lf_ok (fun _ => ok_cmp_ne dX4_read_100 rfl rfl)) (am_nd_ok (am_lf_ok (fun _ => ok_aload_n dX4_read_103 rfl rfl)) (am_lf_ok (fun _ => ok_cvV rfl mw_X4_next (ci := 4) rfl rfl wd_97 wd_98 wd_99 dX4_read_104 rfl)))) (am_nd_ok (am_lf_ok (fun _ => ok_aload_n dX4_read_107 rfl rfl)) (am_nd_ok (am_lf_ok (fun _ => ok_iconst dX4_read_108 cv_iconst_0 rfl)) (am_lf_ok (fun _ => ok_cvI rfl mw_X4_readCondition (ci := 4) rfl rfl wd_100 wd_101 wd_102 dX4_read_109 rfl)))))) (am_nd_ok (am_nd_ok (am_nd_ok (am_lf_ok (fun _ => ok_if_ne dX4_read_112 rfl rfl)) (am_nd_ok (am_lf_ok (fun _ => ok_iconst dX4_read_115 cv_iconst_0 rfl)) (am_lf_ok (fun _ => ok_zret rfl dX4_read_116)))) (am_nd_ok (am_lf_ok (fun _ => ok_aload_n dX4_read_117 rfl rfl)) (am_nd_ok (am_lf_ok (fun _ => ok_get (C := RX4) (TT := TX4) (N := 9) rfl inw_X4 (Nat.le_of_ble_eq_true rfl) wd_93 dX4_read_118 rfl)) (am_lf_ok (fun _ => ok_sipush dX4_read_121 cv_sipush_20059 rfl))))) (am_nd_ok (am_nd_ok (am_lf_ok (fun _ => ok_cmp_eq dX4_read_124 rfl rfl)) (am_nd_ok (am_lf_ok (fun _ => ok_aload_n dX4_read_127 rfl rfl)) (am_lf_ok (fun _ => ok_iconst dX4_read_128 cv_iconst_1 rfl)))) (am_nd_ok (am_lf_ok (fun _ => ok_cvI rfl mw_X4_refuse (ci := 4) rfl rfl wd_94 wd_95 wd_96 dX4_read_129 rfl)) (am_nd_ok (am_lf_ok (fun _ => ok_zret rfl dX4_read_132)) (am_lf_ok (fun _ => ok_aload_n dX4_read_133 rfl rfl))))))
def tX4_read_3 : Nat → Option am_Act := am_nd 150 (am_nd 142 (am_nd 138 (am_nd 137 (am_lf 134 (a_cvV tT mX4_next 4 0 137)) (am_lf 137 (a_aload 0 138))) (am_nd 141 (am_lf 138 (a_get tT 4 3 141)) (am_lf 141 (a_iload 2 142)))) (am_nd 146 (am_nd 145 (am_lf 142 (a_cvV tT mX3_emit 3 1 145)) (am_lf 145 (a_aload 0 146))) (am_nd 149 (am_lf 146 (a_get tT 4 3 149)) (am_lf 149 (a_dup 150))))) (am_nd 158 (am_nd 154 (am_nd 153 (am_lf 150 (a_get tT 3 0 153)) (am_lf 153 (a_const (nI 1) 154))) (am_nd 155 (am_lf 154 (a_bin (fun x y => x + y) 155)) (am_lf 155 (a_put tT 3 0 158)))) (am_nd 164 (am_nd 161 (am_lf 158 (a_iinc 1 (nI 1) 161)) (am_lf 161 (a_goto 38))) (am_nd 165 (am_lf 164 (a_const (nI 1) 165)) (am_lf 165 (a_zret)))))
theorem gX4_read_3 : am_Good tT mX4_read tX4_read_3 := am_nd_ok (am_nd_ok (am_nd_ok (am_nd_ok (am_lf_ok (fun _ => ok_cvV rfl mw_X4_next (ci := 4) rfl rfl wd_97 wd_98 wd_99 dX4_read_134 rfl)) (am_lf_ok (fun _ => ok_aload_n dX4_read_137 rfl rfl))) (am_nd_ok (am_lf_ok (fun _ => ok_get (C := RX4) (TT := TX4) (N := 9) rfl inw_X4 (Nat.le_of_ble_eq_true rfl) wd_84 dX4_read_138 rfl)) (am_lf_ok (fun _ => ok_iload_n dX4_read_141 rfl rfl)))) (am_nd_ok (am_nd_ok (am_lf_ok (fun _ => ok_cvV rfl mw_X3_emit (ci := 3) rfl rfl wd_103 wd_104 wd_105 dX4_read_142 rfl)) (am_lf_ok (fun _ => ok_aload_n dX4_read_145 rfl rfl))) (am_nd_ok (am_lf_ok (fun _ => ok_get (C := RX4) (TT := TX4) (N := 9) rfl inw_X4 (Nat.le_of_ble_eq_true rfl) wd_84 dX4_read_146 rfl)) (am_lf_ok (fun _ => ok_dup dX4_read_149 rfl))))) (am_nd_ok (am_nd_ok (am_nd_ok (am_lf_ok (fun _ => ok_get (C := RX3) (TT := TX3) (N := 4) rfl inw_X3 (Nat.le_of_ble_eq_true rfl) wd_106 dX4_read_150 rfl)) (am_lf_ok (fun _ => ok_iconst dX4_read_153 cv_iconst_1 rfl))) (am_nd_ok (am_lf_ok (fun _ => ok_iadd dX4_read_154 rfl)) (am_lf_ok (fun _ => ok_put (C := RX3) (TT := TX3) (N := 4) (ty0 := tyX3) rfl inw_X3 tyX3_ok nmX3 (Nat.le_of_ble_eq_true rfl) rfl rfl wd_106 dX4_read_155 rfl)))) (am_nd_ok (am_nd_ok (am_lf_ok (fun _ => ok_iinc dX4_read_158 cv_iconst_1 (Nat.le_of_ble_eq_true rfl) rfl)) (am_lf_ok (fun _ => ok_goto dX4_read_161 rfl))) (am_nd_ok (am_lf_ok (fun _ => ok_iconst dX4_read_164 cv_iconst_1 rfl)) (am_lf_ok (fun _ => ok_zret rfl dX4_read_165)))))
def tX4_read : Nat → Option am_Act := am_nd 88 (am_nd 41 (tX4_read_0) (tX4_read_1)) (am_nd 134 (tX4_read_2) (tX4_read_3))
theorem gX4_read : am_Good tT mX4_read tX4_read := am_nd_ok (am_nd_ok (gX4_read_0) (gX4_read_1)) (am_nd_ok (gX4_read_2) (gX4_read_3))
theorem dX4_readCondition_0 : decode cX4_readCondition 0 = .ok (.iconst 0, 1) := by decide +kernel
theorem dX4_readCondition_1 : decode cX4_readCondition 1 = .ok (.istore_n 2, 1) := by decide +kernel
theorem dX4_readCondition_2 : decode cX4_readCondition 2 = .ok (.iload_n 2, 1) := by decide +kernel
theorem dX4_readCondition_3 : decode cX4_readCondition 3 = .ok (.sipush 400, 3) := by decide +kernel
theorem dX4_readCondition_6 : decode cX4_readCondition 6 = .ok (.if_icmp .ge 98, 3) := by decide +kernel
theorem dX4_readCondition_9 : decode cX4_readCondition 9 = .ok (.aload_n 0, 1) := by decide +kernel
theorem dX4_readCondition_10 : decode cX4_readCondition 10 = .ok (.iload_n 1, 1) := by decide +kernel
theorem dX4_readCondition_11 : decode cX4_readCondition 11 = .ok (.invokevirtual 67, 3) := by decide +kernel
theorem dX4_readCondition_14 : decode cX4_readCondition 14 = .ok (.ifCond .ne 5, 3) := by decide +kernel
theorem dX4_readCondition_17 : decode cX4_readCondition 17 = .ok (.iconst 0, 1) := by decide +kernel
theorem dX4_readCondition_18 : decode cX4_readCondition 18 = .ok (.ireturn, 1) := by decide +kernel
theorem dX4_readCondition_19 : decode cX4_readCondition 19 = .ok (.iconst 0, 1) := by decide +kernel
theorem dX4_readCondition_20 : decode cX4_readCondition 20 = .ok (.istore_n 3, 1) := by decide +kernel
theorem dX4_readCondition_21 : decode cX4_readCondition 21 = .ok (.iload_n 3, 1) := by decide +kernel
theorem dX4_readCondition_22 : decode cX4_readCondition 22 = .ok (.sipush 400, 3) := by decide +kernel
theorem dX4_readCondition_25 : decode cX4_readCondition 25 = .ok (.if_icmp .ge 43, 3) := by decide +kernel
theorem dX4_readCondition_28 : decode cX4_readCondition 28 = .ok (.aload_n 0, 1) := by decide +kernel
theorem dX4_readCondition_29 : decode cX4_readCondition 29 = .ok (.getfield 47, 3) := by decide +kernel
theorem dX4_readCondition_32 : decode cX4_readCondition 32 = .ok (.sipush 10004, 3) := by decide +kernel
theorem dX4_readCondition_35 : decode cX4_readCondition 35 = .ok (.if_icmp .ne 33, 3) := by decide +kernel
theorem dX4_readCondition_38 : decode cX4_readCondition 38 = .ok (.aload_n 0, 1) := by decide +kernel
theorem dX4_readCondition_39 : decode cX4_readCondition 39 = .ok (.invokevirtual 54, 3) := by decide +kernel
theorem dX4_readCondition_42 : decode cX4_readCondition 42 = .ok (.aload_n 0, 1) := by decide +kernel
theorem dX4_readCondition_43 : decode cX4_readCondition 43 = .ok (.iload_n 1, 1) := by decide +kernel
theorem dX4_readCondition_44 : decode cX4_readCondition 44 = .ok (.invokevirtual 67, 3) := by decide +kernel
theorem dX4_readCondition_47 : decode cX4_readCondition 47 = .ok (.ifCond .ne 5, 3) := by decide +kernel
theorem dX4_readCondition_50 : decode cX4_readCondition 50 = .ok (.iconst 0, 1) := by decide +kernel
theorem dX4_readCondition_51 : decode cX4_readCondition 51 = .ok (.ireturn, 1) := by decide +kernel
theorem dX4_readCondition_52 : decode cX4_readCondition 52 = .ok (.aload_n 0, 1) := by decide +kernel
theorem dX4_readCondition_53 : decode cX4_readCondition 53 = .ok (.getfield 21, 3) := by decide +kernel
theorem dX4_readCondition_56 : decode cX4_readCondition 56 = .ok (.sipush 10004, 3) := by decide +kernel
theorem dX4_readCondition_59 : decode cX4_readCondition 59 = .ok (.invokevirtual 60, 3) := by decide +kernel
theorem dX4_readCondition_62 : decode cX4_readCondition 62 = .ok (.iinc 3 1, 3) := by decide +kernel
theorem dX4_readCondition_65 : decode cX4_readCondition 65 = .ok (.goto (-44), 3) := by decide +kernel
theorem dX4_readCondition_68 : decode cX4_readCondition 68 = .ok (.iload_n 2, 1) := by decide +kernel
theorem dX4_readCondition_69 : decode cX4_readCondition 69 = .ok (.ifCond .le 13, 3) := by decide +kernel
theorem dX4_readCondition_72 : decode cX4_readCondition 72 = .ok (.aload_n 0, 1) := by decide +kernel
theorem dX4_readCondition_73 : decode cX4_readCondition 73 = .ok (.getfield 21, 3) := by decide +kernel
theorem dX4_readCondition_76 : decode cX4_readCondition 76 = .ok (.sipush 10003, 3) := by decide +kernel
theorem dX4_readCondition_79 : decode cX4_readCondition 79 = .ok (.invokevirtual 60, 3) := by decide +kernel
theorem dX4_readCondition_82 : decode cX4_readCondition 82 = .ok (.aload_n 0, 1) := by decide +kernel
theorem dX4_readCondition_83 : decode cX4_readCondition 83 = .ok (.getfield 47, 3) := by decide +kernel
theorem dX4_readCondition_86 : decode cX4_readCondition 86 = .ok (.sipush 10003, 3) := by decide +kernel
theorem dX4_readCondition_89 : decode cX4_readCondition 89 = .ok (.if_icmp .eq 5, 3) := by decide +kernel
theorem dX4_readCondition_92 : decode cX4_readCondition 92 = .ok (.iconst 1, 1) := by decide +kernel
theorem dX4_readCondition_93 : decode cX4_readCondition 93 = .ok (.ireturn, 1) := by decide +kernel
theorem dX4_readCondition_94 : decode cX4_readCondition 94 = .ok (.aload_n 0, 1) := by decide +kernel
theorem dX4_readCondition_95 : decode cX4_readCondition 95 = .ok (.invokevirtual 54, 3) := by decide +kernel
theorem dX4_readCondition_98 : decode cX4_readCondition 98 = .ok (.iinc 2 1, 3) := by decide +kernel
theorem dX4_readCondition_101 : decode cX4_readCondition 101 = .ok (.goto (-99), 3) := by decide +kernel
theorem dX4_readCondition_104 : decode cX4_readCondition 104 = .ok (.iconst 0, 1) := by decide +kernel
theorem dX4_readCondition_105 : decode cX4_readCondition 105 = .ok (.ireturn, 1) := by decide +kernel
def tX4_readCondition_0 : Nat → Option am_Act := am_nd 20 (am_nd 10 (am_nd 3 (am_nd 1 (am_lf 0 (a_const (nI 0) 1)) (am_nd 2 (am_lf 1 (a_istore 2 2)) (am_lf 2 (a_iload 2 3)))) (am_nd 6 (am_lf 3 (a_const (nI 400) 6)) (am_nd 9 (am_lf 6 (a_cmp (fun x y => y ≤ x) 104 9)) (am_lf 9 (a_aload 0 10))))) (am_nd 17 (am_nd 11 (am_lf 10 (a_iload 1 11)) (am_nd 14 (am_lf 11 (a_cvI tT mX4_readClaim 4 1 14)) (am_lf 14 (a_if (fun x => x = nI 0) 17 19)))) (am_nd 18 (am_lf 17 (a_const (nI 0) 18)) (am_nd 19 (am_lf 18 (a_zret)) (am_lf 19 (a_const (nI 0) 20)))))) (am_nd 32 (am_nd 25 (am_nd 21 (am_lf 20 (a_istore 3 21)) (am_nd 22 (am_lf 21 (a_iload 3 22)) (am_lf 22 (a_const (nI 400) 25)))) (am_nd 28 (am_lf 25 (a_cmp (fun x y => y ≤ x) 68 28)) (am_nd 29 (am_lf 28 (a_aload 0 29)) (am_lf 29 (a_get tT 4 8 32))))) (am_nd 39 (am_nd 35 (am_lf 32 (a_const (nI 10004) 35)) (am_nd 38 (am_lf 35 (a_cmp (fun x y => x = y) 38 68)) (am_lf 38 (a_aload 0 39)))) (am_nd 42 (am_lf 39 (a_cvV tT mX4_next 4 0 42)) (am_nd 43 (am_lf 42 (a_aload 0 43)) (am_lf 43 (a_iload 1 44))))))
theorem gX4_readCondition_0 : am_Good tT mX4_readCondition tX4_readCondition_0 := am_nd_ok (am_nd_ok (am_nd_ok (am_nd_ok (am_lf_ok (fun _ => ok_iconst dX4_readCondition_0 cv_iconst_0 rfl)) (am_nd_ok (am_lf_ok (fun _ => ok_istore_n dX4_readCondition_1 rfl (Nat.le_of_ble_eq_true rfl) rfl)) (am_lf_ok (fun _ => ok_iload_n dX4_readCondition_2 rfl rfl)))) (am_nd_ok (am_lf_ok (fun _ => ok_sipush dX4_readCondition_3 cv_sipush_400 rfl)) (am_nd_ok (am_lf_ok (fun _ => ok_cmp_ge dX4_readCondition_6 rfl rfl)) (am_lf_ok (fun _ => ok_aload_n dX4_readCondition_9 rfl rfl))))) (am_nd_ok (am_nd_ok (am_lf_ok (fun _ => ok_iload_n dX4_readCondition_10 rfl rfl)) (am_nd_ok (am_lf_ok (fun _ => ok_cvI rfl mw_X4_readClaim (ci := 4) rfl rfl wd_107 wd_108 wd_109 dX4_readCondition_11 rfl)) (am_lf_ok (fun _ => ok_if_ne dX4_readCondition_14 rfl rfl)))) (am_nd_ok (am_lf_ok (fun _ => ok_iconst dX4_readCondition_17 cv_iconst_0 rfl)) (am_nd_ok (am_lf_ok (fun _ => ok_zret rfl dX4_readCondition_18)) (am_lf_ok (fun _ => ok_iconst dX4_readCondition_19 cv_iconst_0 rfl)))))) (am_nd_ok (am_nd_ok (am_nd_ok (am_lf_ok (fun _ => ok_istore_n dX4_readCondition_20 rfl (Nat.le_of_ble_eq_true rfl) rfl)) (am_nd_ok (am_lf_ok (fun _ => ok_iload_n dX4_readCondition_21 rfl rfl)) (am_lf_ok (fun _ => ok_sipush dX4_readCondition_22 cv_sipush_400 rfl)))) (am_nd_ok (am_lf_ok (fun _ => ok_cmp_ge dX4_readCondition_25 rfl rfl)) (am_nd_ok (am_lf_ok (fun _ => ok_aload_n dX4_readCondition_28 rfl rfl)) (am_lf_ok (fun _ => ok_get (C := RX4) (TT := TX4) (N := 9) rfl inw_X4 (Nat.le_of_ble_eq_true rfl) wd_93 dX4_readCondition_29 rfl))))) (am_nd_ok (am_nd_ok (am_lf_ok (fun _ => ok_sipush dX4_readCondition_32 cv_sipush_10004 rfl)) (am_nd_ok (am_lf_ok (fun _ => ok_cmp_ne dX4_readCondition_35 rfl rfl)) (am_lf_ok (fun _ => ok_aload_n dX4_readCondition_38 rfl rfl)))) (am_nd_ok (am_lf_ok (fun _ => ok_cvV rfl mw_X4_next (ci := 4) rfl rfl wd_97 wd_98 wd_99 dX4_readCondition_39 rfl)) (am_nd_ok (am_lf_ok (fun _ => ok_aload_n dX4_readCondition_42 rfl rfl)) (am_lf_ok (fun _ => ok_iload_n dX4_readCondition_43 rfl rfl))))))
def tX4_readCondition_1 : Nat → Option am_Act := am_nd 72 (am_nd 56 (am_nd 51 (am_nd 47 (am_lf 44 (a_cvI tT mX4_readClaim 4 1 47)) (am_nd 50 (am_lf 47 (a_if (fun x => x = nI 0) 50 52)) (am_lf 50 (a_const (nI 0) 51)))) (am_nd 52 (am_lf 51 (a_zret)) (am_nd 53 (am_lf 52 (a_aload 0 53)) (am_lf 53 (a_get tT 4 3 56))))) (am_nd 65 (am_nd 59 (am_lf 56 (a_const (nI 10004) 59)) (am_nd 62 (am_lf 59 (a_cvV tT mX3_emit 3 1 62)) (am_lf 62 (a_iinc 3 (nI 1) 65)))) (am_nd 68 (am_lf 65 (a_goto 21)) (am_nd 69 (am_lf 68 (a_iload 2 69)) (am_lf 69 (a_if (fun x => x ≤ nI 0) 82 72)))))) (am_nd 86 (am_nd 79 (am_nd 73 (am_lf 72 (a_aload 0 73)) (am_nd 76 (am_lf 73 (a_get tT 4 3 76)) (am_lf 76 (a_const (nI 10003) 79)))) (am_nd 82 (am_lf 79 (a_cvV tT mX3_emit 3 1 82)) (am_nd 83 (am_lf 82 (a_aload 0 83)) (am_lf 83 (a_get tT 4 8 86))))) (am_nd 93 (am_nd 89 (am_lf 86 (a_const (nI 10003) 89)) (am_nd 92 (am_lf 89 (a_cmp (fun x y => x = y) 94 92)) (am_lf 92 (a_const (nI 1) 93)))) (am_nd 94 (am_lf 93 (a_zret)) (am_nd 95 (am_lf 94 (a_aload 0 95)) (am_lf 95 (a_cvV tT mX4_next 4 0 98))))))
theorem gX4_readCondition_1 : am_Good tT mX4_readCondition tX4_readCondition_1 := am_nd_ok (am_nd_ok (am_nd_ok (am_nd_ok (am_lf_ok (fun _ => ok_cvI rfl mw_X4_readClaim (ci := 4) rfl rfl wd_107 wd_108 wd_109 dX4_readCondition_44 rfl)) (am_nd_ok (am_lf_ok (fun _ => ok_if_ne dX4_readCondition_47 rfl rfl)) (am_lf_ok (fun _ => ok_iconst dX4_readCondition_50 cv_iconst_0 rfl)))) (am_nd_ok (am_lf_ok (fun _ => ok_zret rfl dX4_readCondition_51)) (am_nd_ok (am_lf_ok (fun _ => ok_aload_n dX4_readCondition_52 rfl rfl)) (am_lf_ok (fun _ => ok_get (C := RX4) (TT := TX4) (N := 9) rfl inw_X4 (Nat.le_of_ble_eq_true rfl) wd_84 dX4_readCondition_53 rfl))))) (am_nd_ok (am_nd_ok (am_lf_ok (fun _ => ok_sipush dX4_readCondition_56 cv_sipush_10004 rfl)) (am_nd_ok (am_lf_ok (fun _ => ok_cvV rfl mw_X3_emit (ci := 3) rfl rfl wd_103 wd_104 wd_105 dX4_readCondition_59 rfl)) (am_lf_ok (fun _ => ok_iinc dX4_readCondition_62 cv_iconst_1 (Nat.le_of_ble_eq_true rfl) rfl)))) (am_nd_ok (am_lf_ok (fun _ => ok_goto dX4_readCondition_65 rfl)) (am_nd_ok (am_lf_ok (fun _ => ok_iload_n dX4_readCondition_68 rfl rfl)) (am_lf_ok (fun _ => ok_if_le dX4_readCondition_69 rfl rfl)))))) (am_nd_ok (am_nd_ok (am_nd_ok (am_lf_ok (fun _ => ok_aload_n dX4_readCondition_72 rfl rfl)) (am_nd_ok (am_lf_ok (fun _ => ok_get (C := RX4) (TT := TX4) (N := 9) rfl inw_X4 (Nat.le_of_ble_eq_true rfl) wd_84 dX4_readCondition_73 rfl)) (am_lf_ok (fun _ => ok_sipush dX4_readCondition_76 cv_sipush_10003 rfl)))) (am_nd_ok (am_lf_ok (fun _ => ok_cvV rfl mw_X3_emit (ci := 3) rfl rfl wd_103 wd_104 wd_105 dX4_readCondition_79 rfl)) (am_nd_ok (am_lf_ok (fun _ => ok_aload_n dX4_readCondition_82 rfl rfl)) (am_lf_ok (fun _ => ok_get (C := RX4) (TT := TX4) (N := 9) rfl inw_X4 (Nat.le_of_ble_eq_true rfl) wd_93 dX4_readCondition_83 rfl))))) (am_nd_ok (am_nd_ok (am_lf_ok (fun _ => ok_sipush dX4_readCondition_86 cv_sipush_10003 rfl)) (am_nd_ok (am_lf_ok (fun _ => ok_cmp_eq dX4_readCondition_89 rfl rfl)) (am_lf_ok (fun _ => ok_iconst dX4_readCondition_92 cv_iconst_1 rfl)))) (am_nd_ok (am_lf_ok (fun _ => ok_zret rfl dX4_readCondition_93)) (am_nd_ok (am_lf_ok (fun _ => ok_aload_n dX4_readCondition_94 rfl rfl)) (am_lf_ok (fun _ => ok_cvV rfl mw_X4_next (ci := 4) rfl rfl wd_97 wd_98 wd_99 dX4_readCondition_95 rfl))))))
def tX4_readCondition_2 : Nat → Option am_Act := am_nd 104 (am_nd 101 (am_lf 98 (a_iinc 2 (nI 1) 101)) (am_lf 101 (a_goto 2))) (am_nd 105 (am_lf 104 (a_const (nI 0) 105)) (am_lf 105 (a_zret)))
theorem gX4_readCondition_2 : am_Good tT mX4_readCondition tX4_readCondition_2 := am_nd_ok (am_nd_ok (am_lf_ok (fun _ => ok_iinc dX4_readCondition_98 cv_iconst_1 (Nat.le_of_ble_eq_true rfl) rfl)) (am_lf_ok (fun _ => ok_goto dX4_readCondition_101 rfl))) (am_nd_ok (am_lf_ok (fun _ => ok_iconst dX4_readCondition_104 cv_iconst_0 rfl)) (am_lf_ok (fun _ => ok_zret rfl dX4_readCondition_105)))
def tX4_readCondition : Nat → Option am_Act := am_nd 44 (tX4_readCondition_0) (am_nd 98 (tX4_readCondition_1) (tX4_readCondition_2))
theorem gX4_readCondition : am_Good tT mX4_readCondition tX4_readCondition := am_nd_ok (gX4_readCondition_0) (am_nd_ok (gX4_readCondition_1) (gX4_readCondition_2))
theorem dX4_readClaim_0 : decode cX4_readClaim 0 = .ok (.aload_n 0, 1) := by decide +kernel
theorem dX4_readClaim_1 : decode cX4_readClaim 1 = .ok (.getfield 47, 3) := by decide +kernel
theorem dX4_readClaim_4 : decode cX4_readClaim 4 = .ok (.sipush 20040, 3) := by decide +kernel
theorem dX4_readClaim_7 : decode cX4_readClaim 7 = .ok (.if_icmp .ne 7, 3) := by decide +kernel
theorem dX4_readClaim_10 : decode cX4_readClaim 10 = .ok (.iconst 1, 1) := by decide +kernel
theorem dX4_readClaim_11 : decode cX4_readClaim 11 = .ok (.goto 4, 3) := by decide +kernel
theorem dX4_readClaim_14 : decode cX4_readClaim 14 = .ok (.iconst 0, 1) := by decide +kernel
theorem dX4_readClaim_15 : decode cX4_readClaim 15 = .ok (.istore_n 2, 1) := by decide +kernel
theorem dX4_readClaim_16 : decode cX4_readClaim 16 = .ok (.iload_n 2, 1) := by decide +kernel
theorem dX4_readClaim_17 : decode cX4_readClaim 17 = .ok (.ifCond .ne 18, 3) := by decide +kernel
theorem dX4_readClaim_20 : decode cX4_readClaim 20 = .ok (.aload_n 0, 1) := by decide +kernel
theorem dX4_readClaim_21 : decode cX4_readClaim 21 = .ok (.getfield 47, 3) := by decide +kernel
theorem dX4_readClaim_24 : decode cX4_readClaim 24 = .ok (.sipush 10005, 3) := by decide +kernel
theorem dX4_readClaim_27 : decode cX4_readClaim 27 = .ok (.if_icmp .eq 8, 3) := by decide +kernel
theorem dX4_readClaim_30 : decode cX4_readClaim 30 = .ok (.aload_n 0, 1) := by decide +kernel
theorem dX4_readClaim_31 : decode cX4_readClaim 31 = .ok (.invokevirtual 70, 3) := by decide +kernel
theorem dX4_readClaim_34 : decode cX4_readClaim 34 = .ok (.ireturn, 1) := by decide +kernel
theorem dX4_readClaim_35 : decode cX4_readClaim 35 = .ok (.iload_n 1, 1) := by decide +kernel
theorem dX4_readClaim_36 : decode cX4_readClaim 36 = .ok (.bipush 8, 2) := by decide +kernel
theorem dX4_readClaim_38 : decode cX4_readClaim 38 = .ok (.if_icmp .lt 9, 3) := by decide +kernel
theorem dX4_readClaim_41 : decode cX4_readClaim 41 = .ok (.aload_n 0, 1) := by decide +kernel
theorem dX4_readClaim_42 : decode cX4_readClaim 42 = .ok (.iconst 3, 1) := by decide +kernel
theorem dX4_readClaim_43 : decode cX4_readClaim 43 = .ok (.invokevirtual 50, 3) := by decide +kernel
theorem dX4_readClaim_46 : decode cX4_readClaim 46 = .ok (.ireturn, 1) := by decide +kernel
theorem dX4_readClaim_47 : decode cX4_readClaim 47 = .ok (.aload_n 0, 1) := by decide +kernel
theorem dX4_readClaim_48 : decode cX4_readClaim 48 = .ok (.invokevirtual 54, 3) := by decide +kernel
theorem dX4_readClaim_51 : decode cX4_readClaim 51 = .ok (.iload_n 2, 1) := by decide +kernel
theorem dX4_readClaim_52 : decode cX4_readClaim 52 = .ok (.ifCond .ne 23, 3) := by decide +kernel
theorem dX4_readClaim_55 : decode cX4_readClaim 55 = .ok (.aload_n 0, 1) := by decide +kernel
theorem dX4_readClaim_56 : decode cX4_readClaim 56 = .ok (.iload_n 1, 1) := by decide +kernel
theorem dX4_readClaim_57 : decode cX4_readClaim 57 = .ok (.iconst 1, 1) := by decide +kernel
theorem dX4_readClaim_58 : decode cX4_readClaim 58 = .ok (.iadd, 1) := by decide +kernel
theorem dX4_readClaim_59 : decode cX4_readClaim 59 = .ok (.invokevirtual 67, 3) := by decide +kernel
theorem dX4_readClaim_62 : decode cX4_readClaim 62 = .ok (.istore_n 3, 1) := by decide +kernel
theorem dX4_readClaim_63 : decode cX4_readClaim 63 = .ok (.aload_n 0, 1) := by decide +kernel
theorem dX4_readClaim_64 : decode cX4_readClaim 64 = .ok (.getfield 21, 3) := by decide +kernel
theorem dX4_readClaim_67 : decode cX4_readClaim 67 = .ok (.sipush 10005, 3) := by decide +kernel
theorem dX4_readClaim_70 : decode cX4_readClaim 70 = .ok (.invokevirtual 60, 3) := by decide +kernel
theorem dX4_readClaim_73 : decode cX4_readClaim 73 = .ok (.iload_n 3, 1) := by decide +kernel
theorem dX4_readClaim_74 : decode cX4_readClaim 74 = .ok (.ireturn, 1) := by decide +kernel
theorem dX4_readClaim_75 : decode cX4_readClaim 75 = .ok (.aload_n 0, 1) := by decide +kernel
theorem dX4_readClaim_76 : decode cX4_readClaim 76 = .ok (.iload_n 1, 1) := by decide +kernel
theorem dX4_readClaim_77 : decode cX4_readClaim 77 = .ok (.iconst 1, 1) := by decide +kernel
theorem dX4_readClaim_78 : decode cX4_readClaim 78 = .ok (.iadd, 1) := by decide +kernel
theorem dX4_readClaim_79 : decode cX4_readClaim 79 = .ok (.invokevirtual 57, 3) := by decide +kernel
theorem dX4_readClaim_82 : decode cX4_readClaim 82 = .ok (.ifCond .ne 5, 3) := by decide +kernel
theorem dX4_readClaim_85 : decode cX4_readClaim 85 = .ok (.iconst 0, 1) := by decide +kernel
theorem dX4_readClaim_86 : decode cX4_readClaim 86 = .ok (.ireturn, 1) := by decide +kernel
theorem dX4_readClaim_87 : decode cX4_readClaim 87 = .ok (.aload_n 0, 1) := by decide +kernel
theorem dX4_readClaim_88 : decode cX4_readClaim 88 = .ok (.getfield 47, 3) := by decide +kernel
theorem dX4_readClaim_91 : decode cX4_readClaim 91 = .ok (.sipush 20041, 3) := by decide +kernel
theorem dX4_readClaim_94 : decode cX4_readClaim 94 = .ok (.if_icmp .eq 9, 3) := by decide +kernel
theorem dX4_readClaim_97 : decode cX4_readClaim 97 = .ok (.aload_n 0, 1) := by decide +kernel
theorem dX4_readClaim_98 : decode cX4_readClaim 98 = .ok (.iconst 1, 1) := by decide +kernel
theorem dX4_readClaim_99 : decode cX4_readClaim 99 = .ok (.invokevirtual 50, 3) := by decide +kernel
theorem dX4_readClaim_102 : decode cX4_readClaim 102 = .ok (.ireturn, 1) := by decide +kernel
theorem dX4_readClaim_103 : decode cX4_readClaim 103 = .ok (.aload_n 0, 1) := by decide +kernel
theorem dX4_readClaim_104 : decode cX4_readClaim 104 = .ok (.invokevirtual 54, 3) := by decide +kernel
theorem dX4_readClaim_107 : decode cX4_readClaim 107 = .ok (.iconst 1, 1) := by decide +kernel
theorem dX4_readClaim_108 : decode cX4_readClaim 108 = .ok (.ireturn, 1) := by decide +kernel
def tX4_readClaim_0 : Nat → Option am_Act := am_nd 24 (am_nd 14 (am_nd 7 (am_nd 1 (am_lf 0 (a_aload 0 1)) (am_nd 4 (am_lf 1 (a_get tT 4 8 4)) (am_lf 4 (a_const (nI 20040) 7)))) (am_nd 10 (am_lf 7 (a_cmp (fun x y => x = y) 10 14)) (am_nd 11 (am_lf 10 (a_const (nI 1) 11)) (am_lf 11 (a_goto 15))))) (am_nd 17 (am_nd 15 (am_lf 14 (a_const (nI 0) 15)) (am_nd 16 (am_lf 15 (a_istore 2 16)) (am_lf 16 (a_iload 2 17)))) (am_nd 20 (am_lf 17 (a_if (fun x => x = nI 0) 20 35)) (am_nd 21 (am_lf 20 (a_aload 0 21)) (am_lf 21 (a_get tT 4 8 24)))))) (am_nd 36 (am_nd 31 (am_nd 27 (am_lf 24 (a_const (nI 10005) 27)) (am_nd 30 (am_lf 27 (a_cmp (fun x y => x = y) 35 30)) (am_lf 30 (a_aload 0 31)))) (am_nd 34 (am_lf 31 (a_cvI tT mX4_readComparison 4 0 34)) (am_nd 35 (am_lf 34 (a_zret)) (am_lf 35 (a_iload 1 36))))) (am_nd 42 (am_nd 38 (am_lf 36 (a_const (nI 8) 38)) (am_nd 41 (am_lf 38 (a_cmp (fun x y => x < y) 47 41)) (am_lf 41 (a_aload 0 42)))) (am_nd 43 (am_lf 42 (a_const (nI 3) 43)) (am_nd 46 (am_lf 43 (a_cvI tT mX4_refuse 4 1 46)) (am_lf 46 (a_zret))))))
theorem gX4_readClaim_0 : am_Good tT mX4_readClaim tX4_readClaim_0 := am_nd_ok (am_nd_ok (am_nd_ok (am_nd_ok (am_lf_ok (fun _ => ok_aload_n dX4_readClaim_0 rfl rfl)) (am_nd_ok (am_lf_ok (fun _ => ok_get (C := RX4) (TT := TX4) (N := 9) rfl inw_X4 (Nat.le_of_ble_eq_true rfl) wd_93 dX4_readClaim_1 rfl)) (am_lf_ok (fun _ => ok_sipush dX4_readClaim_4 cv_sipush_20040 rfl)))) (am_nd_ok (am_lf_ok (fun _ => ok_cmp_ne dX4_readClaim_7 rfl rfl)) (am_nd_ok (am_lf_ok (fun _ => ok_iconst dX4_readClaim_10 cv_iconst_1 rfl)) (am_lf_ok (fun _ => ok_goto dX4_readClaim_11 rfl))))) (am_nd_ok (am_nd_ok (am_lf_ok (fun _ => ok_iconst dX4_readClaim_14 cv_iconst_0 rfl)) (am_nd_ok (am_lf_ok (fun _ => ok_istore_n dX4_readClaim_15 rfl (Nat.le_of_ble_eq_true rfl) rfl)) (am_lf_ok (fun _ => ok_iload_n dX4_readClaim_16 rfl rfl)))) (am_nd_ok (am_lf_ok (fun _ => ok_if_ne dX4_readClaim_17 rfl rfl)) (am_nd_ok (am_lf_ok (fun _ => ok_aload_n dX4_readClaim_20 rfl rfl)) (am_lf_ok (fun _ => ok_get (C := RX4) (TT := TX4) (N := 9) rfl inw_X4 (Nat.le_of_ble_eq_true rfl) wd_93 dX4_readClaim_21 rfl)))))) (am_nd_ok (am_nd_ok (am_nd_ok (am_lf_ok (fun _ => ok_sipush dX4_readClaim_24 cv_sipush_10005 rfl)) (am_nd_ok (am_lf_ok (fun _ => ok_cmp_eq dX4_readClaim_27 rfl rfl)) (am_lf_ok (fun _ => ok_aload_n dX4_readClaim_30 rfl rfl)))) (am_nd_ok (am_lf_ok (fun _ => ok_cvI rfl mw_X4_readComparison (ci := 4) rfl rfl wd_110 wd_111 wd_112 dX4_readClaim_31 rfl)) (am_nd_ok (am_lf_ok (fun _ => ok_zret rfl dX4_readClaim_34)) (am_lf_ok (fun _ => ok_iload_n dX4_readClaim_35 rfl rfl))))) (am_nd_ok (am_nd_ok (am_lf_ok (fun _ => ok_bipush dX4_readClaim_36 cv_bipush_8 rfl)) (am_nd_ok (am_lf_ok (fun _ => ok_cmp_lt dX4_readClaim_38 rfl rfl)) (am_lf_ok (fun _ => ok_aload_n dX4_readClaim_41 rfl rfl)))) (am_nd_ok (am_lf_ok (fun _ => ok_iconst dX4_readClaim_42 cv_iconst_3 rfl)) (am_nd_ok (am_lf_ok (fun _ => ok_cvI rfl mw_X4_refuse (ci := 4) rfl rfl wd_94 wd_95 wd_96 dX4_readClaim_43 rfl)) (am_lf_ok (fun _ => ok_zret rfl dX4_readClaim_46))))))
def tX4_readClaim_1 : Nat → Option am_Act := am_nd 67 (am_nd 57 (am_nd 52 (am_nd 48 (am_lf 47 (a_aload 0 48)) (am_nd 51 (am_lf 48 (a_cvV tT mX4_next 4 0 51)) (am_lf 51 (a_iload 2 52)))) (am_nd 55 (am_lf 52 (a_if (fun x => x = nI 0) 55 75)) (am_nd 56 (am_lf 55 (a_aload 0 56)) (am_lf 56 (a_iload 1 57))))) (am_nd 62 (am_nd 58 (am_lf 57 (a_const (nI 1) 58)) (am_nd 59 (am_lf 58 (a_bin (fun x y => x + y) 59)) (am_lf 59 (a_cvI tT mX4_readClaim 4 1 62)))) (am_nd 63 (am_lf 62 (a_istore 3 63)) (am_nd 64 (am_lf 63 (a_aload 0 64)) (am_lf 64 (a_get tT 4 3 67)))))) (am_nd 77 (am_nd 74 (am_nd 70 (am_lf 67 (a_const (nI 10005) 70)) (am_nd 73 (am_lf 70 (a_cvV tT mX3_emit 3 1 73)) (am_lf 73 (a_iload 3 74)))) (am_nd 75 (am_lf 74 (a_zret)) (am_nd 76 (am_lf 75 (a_aload 0 76)) (am_lf 76 (a_iload 1 77))))) (am_nd 82 (am_nd 78 (am_lf 77 (a_const (nI 1) 78)) (am_nd 79 (am_lf 78 (a_bin (fun x y => x + y) 79)) (am_lf 79 (a_cvI tT mX4_readCondition 4 1 82)))) (am_nd 85 (am_lf 82 (a_if (fun x => x = nI 0) 85 87)) (am_nd 86 (am_lf 85 (a_const (nI 0) 86)) (am_lf 86 (a_zret))))))
theorem gX4_readClaim_1 : am_Good tT mX4_readClaim tX4_readClaim_1 := am_nd_ok (am_nd_ok (am_nd_ok (am_nd_ok (am_lf_ok (fun _ => ok_aload_n dX4_readClaim_47 rfl rfl)) (am_nd_ok (am_lf_ok (fun _ => ok_cvV rfl mw_X4_next (ci := 4) rfl rfl wd_97 wd_98 wd_99 dX4_readClaim_48 rfl)) (am_lf_ok (fun _ => ok_iload_n dX4_readClaim_51 rfl rfl)))) (am_nd_ok (am_lf_ok (fun _ => ok_if_ne dX4_readClaim_52 rfl rfl)) (am_nd_ok (am_lf_ok (fun _ => ok_aload_n dX4_readClaim_55 rfl rfl)) (am_lf_ok (fun _ => ok_iload_n dX4_readClaim_56 rfl rfl))))) (am_nd_ok (am_nd_ok (am_lf_ok (fun _ => ok_iconst dX4_readClaim_57 cv_iconst_1 rfl)) (am_nd_ok (am_lf_ok (fun _ => ok_iadd dX4_readClaim_58 rfl)) (am_lf_ok (fun _ => ok_cvI rfl mw_X4_readClaim (ci := 4) rfl rfl wd_107 wd_108 wd_109 dX4_readClaim_59 rfl)))) (am_nd_ok (am_lf_ok (fun _ => ok_istore_n dX4_readClaim_62 rfl (Nat.le_of_ble_eq_true rfl) rfl)) (am_nd_ok (am_lf_ok (fun _ => ok_aload_n dX4_readClaim_63 rfl rfl)) (am_lf_ok (fun _ => ok_get (C := RX4) (TT := TX4) (N := 9) rfl inw_X4 (Nat.le_of_ble_eq_true rfl) wd_84 dX4_readClaim_64 rfl)))))) (am_nd_ok (am_nd_ok (am_nd_ok (am_lf_ok (fun _ => ok_sipush dX4_readClaim_67 cv_sipush_10005 rfl)) (am_nd_ok (am_lf_ok (fun _ => ok_cvV rfl mw_X3_emit (ci := 3) rfl rfl wd_103 wd_104 wd_105 dX4_readClaim_70 rfl)) (am_lf_ok (fun _ => ok_iload_n dX4_readClaim_73 rfl rfl)))) (am_nd_ok (am_lf_ok (fun _ => ok_zret rfl dX4_readClaim_74)) (am_nd_ok (am_lf_ok (fun _ => ok_aload_n dX4_readClaim_75 rfl rfl)) (am_lf_ok (fun _ => ok_iload_n dX4_readClaim_76 rfl rfl))))) (am_nd_ok (am_nd_ok (am_lf_ok (fun _ => ok_iconst dX4_readClaim_77 cv_iconst_1 rfl)) (am_nd_ok (am_lf_ok (fun _ => ok_iadd dX4_readClaim_78 rfl)) (am_lf_ok (fun _ => ok_cvI rfl mw_X4_readCondition (ci := 4) rfl rfl wd_100 wd_101 wd_102 dX4_readClaim_79 rfl)))) (am_nd_ok (am_lf_ok (fun _ => ok_if_ne dX4_readClaim_82 rfl rfl)) (am_nd_ok (am_lf_ok (fun _ => ok_iconst dX4_readClaim_85 cv_iconst_0 rfl)) (am_lf_ok (fun _ => ok_zret rfl dX4_readClaim_86))))))
def tX4_readClaim_2 : Nat → Option am_Act := am_nd 99 (am_nd 94 (am_nd 88 (am_lf 87 (a_aload 0 88)) (am_nd 91 (am_lf 88 (a_get tT 4 8 91)) (am_lf 91 (a_const (nI 20041) 94)))) (am_nd 97 (am_lf 94 (a_cmp (fun x y => x = y) 103 97)) (am_nd 98 (am_lf 97 (a_aload 0 98)) (am_lf 98 (a_const (nI 1) 99))))) (am_nd 104 (am_nd 102 (am_lf 99 (a_cvI tT mX4_refuse 4 1 102)) (am_nd 103 (am_lf 102 (a_zret)) (am_lf 103 (a_aload 0 104)))) (am_nd 107 (am_lf 104 (a_cvV tT mX4_next 4 0 107)) (am_nd 108 (am_lf 107 (a_const (nI 1) 108)) (am_lf 108 (a_zret)))))
theorem gX4_readClaim_2 : am_Good tT mX4_readClaim tX4_readClaim_2 := am_nd_ok (am_nd_ok (am_nd_ok (am_lf_ok (fun _ => ok_aload_n dX4_readClaim_87 rfl rfl)) (am_nd_ok (am_lf_ok (fun _ => ok_get (C := RX4) (TT := TX4) (N := 9) rfl inw_X4 (Nat.le_of_ble_eq_true rfl) wd_93 dX4_readClaim_88 rfl)) (am_lf_ok (fun _ => ok_sipush dX4_readClaim_91 cv_sipush_20041 rfl)))) (am_nd_ok (am_lf_ok (fun _ => ok_cmp_eq dX4_readClaim_94 rfl rfl)) (am_nd_ok (am_lf_ok (fun _ => ok_aload_n dX4_readClaim_97 rfl rfl)) (am_lf_ok (fun _ => ok_iconst dX4_readClaim_98 cv_iconst_1 rfl))))) (am_nd_ok (am_nd_ok (am_lf_ok (fun _ => ok_cvI rfl mw_X4_refuse (ci := 4) rfl rfl wd_94 wd_95 wd_96 dX4_readClaim_99 rfl)) (am_nd_ok (am_lf_ok (fun _ => ok_zret rfl dX4_readClaim_102)) (am_lf_ok (fun _ => ok_aload_n dX4_readClaim_103 rfl rfl)))) (am_nd_ok (am_lf_ok (fun _ => ok_cvV rfl mw_X4_next (ci := 4) rfl rfl wd_97 wd_98 wd_99 dX4_readClaim_104 rfl)) (am_nd_ok (am_lf_ok (fun _ => ok_iconst dX4_readClaim_107 cv_iconst_1 rfl)) (am_lf_ok (fun _ => ok_zret rfl dX4_readClaim_108)))))
def tX4_readClaim : Nat → Option am_Act := am_nd 47 (tX4_readClaim_0) (am_nd 87 (tX4_readClaim_1) (tX4_readClaim_2))
theorem gX4_readClaim : am_Good tT mX4_readClaim tX4_readClaim := am_nd_ok (gX4_readClaim_0) (am_nd_ok (gX4_readClaim_1) (gX4_readClaim_2))
theorem dX4_readComparison_0 : decode cX4_readComparison 0 = .ok (.aload_n 0, 1) := by decide +kernel
theorem dX4_readComparison_1 : decode cX4_readComparison 1 = .ok (.invokevirtual 74, 3) := by decide +kernel
theorem dX4_readComparison_4 : decode cX4_readComparison 4 = .ok (.ifCond .ne 5, 3) := by decide +kernel
theorem dX4_readComparison_7 : decode cX4_readComparison 7 = .ok (.iconst 0, 1) := by decide +kernel
theorem dX4_readComparison_8 : decode cX4_readComparison 8 = .ok (.ireturn, 1) := by decide +kernel
theorem dX4_readComparison_9 : decode cX4_readComparison 9 = .ok (.aload_n 0, 1) := by decide +kernel
theorem dX4_readComparison_10 : decode cX4_readComparison 10 = .ok (.getfield 47, 3) := by decide +kernel
theorem dX4_readComparison_13 : decode cX4_readComparison 13 = .ok (.istore_n 1, 1) := by decide +kernel
theorem dX4_readComparison_14 : decode cX4_readComparison 14 = .ok (.iload_n 1, 1) := by decide +kernel
theorem dX4_readComparison_15 : decode cX4_readComparison 15 = .ok (.sipush 20060, 3) := by decide +kernel
theorem dX4_readComparison_18 : decode cX4_readComparison 18 = .ok (.if_icmp .eq 23, 3) := by decide +kernel
theorem dX4_readComparison_21 : decode cX4_readComparison 21 = .ok (.iload_n 1, 1) := by decide +kernel
theorem dX4_readComparison_22 : decode cX4_readComparison 22 = .ok (.sipush 20061, 3) := by decide +kernel
theorem dX4_readComparison_25 : decode cX4_readComparison 25 = .ok (.if_icmp .eq 16, 3) := by decide +kernel
theorem dX4_readComparison_28 : decode cX4_readComparison 28 = .ok (.iload_n 1, 1) := by decide +kernel
theorem dX4_readComparison_29 : decode cX4_readComparison 29 = .ok (.sipush 20062, 3) := by decide +kernel
theorem dX4_readComparison_32 : decode cX4_readComparison 32 = .ok (.if_icmp .eq 9, 3) := by decide +kernel
theorem dX4_readComparison_35 : decode cX4_readComparison 35 = .ok (.aload_n 0, 1) := by decide +kernel
theorem dX4_readComparison_36 : decode cX4_readComparison 36 = .ok (.iconst 1, 1) := by decide +kernel
theorem dX4_readComparison_37 : decode cX4_readComparison 37 = .ok (.invokevirtual 50, 3) := by decide +kernel
theorem dX4_readComparison_40 : decode cX4_readComparison 40 = .ok (.ireturn, 1) := by decide +kernel
theorem dX4_readComparison_41 : decode cX4_readComparison 41 = .ok (.aload_n 0, 1) := by decide +kernel
theorem dX4_readComparison_42 : decode cX4_readComparison 42 = .ok (.invokevirtual 54, 3) := by decide +kernel
theorem dX4_readComparison_45 : decode cX4_readComparison 45 = .ok (.aload_n 0, 1) := by decide +kernel
theorem dX4_readComparison_46 : decode cX4_readComparison 46 = .ok (.invokevirtual 74, 3) := by decide +kernel
theorem dX4_readComparison_49 : decode cX4_readComparison 49 = .ok (.ifCond .ne 5, 3) := by decide +kernel
theorem dX4_readComparison_52 : decode cX4_readComparison 52 = .ok (.iconst 0, 1) := by decide +kernel
theorem dX4_readComparison_53 : decode cX4_readComparison 53 = .ok (.ireturn, 1) := by decide +kernel
theorem dX4_readComparison_54 : decode cX4_readComparison 54 = .ok (.aload_n 0, 1) := by decide +kernel
theorem dX4_readComparison_55 : decode cX4_readComparison 55 = .ok (.getfield 21, 3) := by decide +kernel
theorem dX4_readComparison_58 : decode cX4_readComparison 58 = .ok (.iload_n 1, 1) := by decide +kernel
theorem dX4_readComparison_59 : decode cX4_readComparison 59 = .ok (.invokevirtual 60, 3) := by decide +kernel
theorem dX4_readComparison_62 : decode cX4_readComparison 62 = .ok (.iconst 1, 1) := by decide +kernel
theorem dX4_readComparison_63 : decode cX4_readComparison 63 = .ok (.ireturn, 1) := by decide +kernel
def tX4_readComparison_0 : Nat → Option am_Act := am_nd 22 (am_nd 10 (am_nd 7 (am_nd 1 (am_lf 0 (a_aload 0 1)) (am_nd 4 (am_lf 1 (a_cvI tT mX4_readSum 4 0 4)) (am_lf 4 (a_if (fun x => x = nI 0) 7 9)))) (am_nd 8 (am_lf 7 (a_const (nI 0) 8)) (am_nd 9 (am_lf 8 (a_zret)) (am_lf 9 (a_aload 0 10))))) (am_nd 15 (am_nd 13 (am_lf 10 (a_get tT 4 8 13)) (am_nd 14 (am_lf 13 (a_istore 1 14)) (am_lf 14 (a_iload 1 15)))) (am_nd 18 (am_lf 15 (a_const (nI 20060) 18)) (am_nd 21 (am_lf 18 (a_cmp (fun x y => x = y) 41 21)) (am_lf 21 (a_iload 1 22)))))) (am_nd 36 (am_nd 29 (am_nd 25 (am_lf 22 (a_const (nI 20061) 25)) (am_nd 28 (am_lf 25 (a_cmp (fun x y => x = y) 41 28)) (am_lf 28 (a_iload 1 29)))) (am_nd 32 (am_lf 29 (a_const (nI 20062) 32)) (am_nd 35 (am_lf 32 (a_cmp (fun x y => x = y) 41 35)) (am_lf 35 (a_aload 0 36))))) (am_nd 41 (am_nd 37 (am_lf 36 (a_const (nI 1) 37)) (am_nd 40 (am_lf 37 (a_cvI tT mX4_refuse 4 1 40)) (am_lf 40 (a_zret)))) (am_nd 42 (am_lf 41 (a_aload 0 42)) (am_nd 45 (am_lf 42 (a_cvV tT mX4_next 4 0 45)) (am_lf 45 (a_aload 0 46))))))
theorem gX4_readComparison_0 : am_Good tT mX4_readComparison tX4_readComparison_0 := am_nd_ok (am_nd_ok (am_nd_ok (am_nd_ok (am_lf_ok (fun _ => ok_aload_n dX4_readComparison_0 rfl rfl)) (am_nd_ok (am_lf_ok (fun _ => ok_cvI rfl mw_X4_readSum (ci := 4) rfl rfl wd_113 wd_114 wd_115 dX4_readComparison_1 rfl)) (am_lf_ok (fun _ => ok_if_ne dX4_readComparison_4 rfl rfl)))) (am_nd_ok (am_lf_ok (fun _ => ok_iconst dX4_readComparison_7 cv_iconst_0 rfl)) (am_nd_ok (am_lf_ok (fun _ => ok_zret rfl dX4_readComparison_8)) (am_lf_ok (fun _ => ok_aload_n dX4_readComparison_9 rfl rfl))))) (am_nd_ok (am_nd_ok (am_lf_ok (fun _ => ok_get (C := RX4) (TT := TX4) (N := 9) rfl inw_X4 (Nat.le_of_ble_eq_true rfl) wd_93 dX4_readComparison_10 rfl)) (am_nd_ok (am_lf_ok (fun _ => ok_istore_n dX4_readComparison_13 rfl (Nat.le_of_ble_eq_true rfl) rfl)) (am_lf_ok (fun _ => ok_iload_n dX4_readComparison_14 rfl rfl)))) (am_nd_ok (am_lf_ok (fun _ => ok_sipush dX4_readComparison_15 cv_sipush_20060 rfl)) (am_nd_ok (am_lf_ok (fun _ => ok_cmp_eq dX4_readComparison_18 rfl rfl)) (am_lf_ok (fun _ => ok_iload_n dX4_readComparison_21 rfl rfl)))))) (am_nd_ok (am_nd_ok (am_nd_ok (am_lf_ok (fun _ => ok_sipush dX4_readComparison_22 cv_sipush_20061 rfl)) (am_nd_ok (am_lf_ok (fun _ => ok_cmp_eq dX4_readComparison_25 rfl rfl)) (am_lf_ok (fun _ => ok_iload_n dX4_readComparison_28 rfl rfl)))) (am_nd_ok (am_lf_ok (fun _ => ok_sipush dX4_readComparison_29 cv_sipush_20062 rfl)) (am_nd_ok (am_lf_ok (fun _ => ok_cmp_eq dX4_readComparison_32 rfl rfl)) (am_lf_ok (fun _ => ok_aload_n dX4_readComparison_35 rfl rfl))))) (am_nd_ok (am_nd_ok (am_lf_ok (fun _ => ok_iconst dX4_readComparison_36 cv_iconst_1 rfl)) (am_nd_ok (am_lf_ok (fun _ => ok_cvI rfl mw_X4_refuse (ci := 4) rfl rfl wd_94 wd_95 wd_96 dX4_readComparison_37 rfl)) (am_lf_ok (fun _ => ok_zret rfl dX4_readComparison_40)))) (am_nd_ok (am_lf_ok (fun _ => ok_aload_n dX4_readComparison_41 rfl rfl)) (am_nd_ok (am_lf_ok (fun _ => ok_cvV rfl mw_X4_next (ci := 4) rfl rfl wd_97 wd_98 wd_99 dX4_readComparison_42 rfl)) (am_lf_ok (fun _ => ok_aload_n dX4_readComparison_45 rfl rfl))))))
def tX4_readComparison_1 : Nat → Option am_Act := am_nd 55 (am_nd 52 (am_nd 49 (am_lf 46 (a_cvI tT mX4_readSum 4 0 49)) (am_lf 49 (a_if (fun x => x = nI 0) 52 54))) (am_nd 53 (am_lf 52 (a_const (nI 0) 53)) (am_nd 54 (am_lf 53 (a_zret)) (am_lf 54 (a_aload 0 55))))) (am_nd 59 (am_nd 58 (am_lf 55 (a_get tT 4 3 58)) (am_lf 58 (a_iload 1 59))) (am_nd 62 (am_lf 59 (a_cvV tT mX3_emit 3 1 62)) (am_nd 63 (am_lf 62 (a_const (nI 1) 63)) (am_lf 63 (a_zret)))))
theorem gX4_readComparison_1 : am_Good tT mX4_readComparison tX4_readComparison_1 := am_nd_ok (am_nd_ok (am_nd_ok (am_lf_ok (fun _ => ok_cvI rfl mw_X4_readSum (ci := 4) rfl rfl wd_113 wd_114 wd_115 dX4_readComparison_46 rfl)) (am_lf_ok (fun _ => ok_if_ne dX4_readComparison_49 rfl rfl))) (am_nd_ok (am_lf_ok (fun _ => ok_iconst dX4_readComparison_52 cv_iconst_0 rfl)) (am_nd_ok (am_lf_ok (fun _ => ok_zret rfl dX4_readComparison_53)) (am_lf_ok (fun _ => ok_aload_n dX4_readComparison_54 rfl rfl))))) (am_nd_ok (am_nd_ok (am_lf_ok (fun _ => ok_get (C := RX4) (TT := TX4) (N := 9) rfl inw_X4 (Nat.le_of_ble_eq_true rfl) wd_84 dX4_readComparison_55 rfl)) (am_lf_ok (fun _ => ok_iload_n dX4_readComparison_58 rfl rfl))) (am_nd_ok (am_lf_ok (fun _ => ok_cvV rfl mw_X3_emit (ci := 3) rfl rfl wd_103 wd_104 wd_105 dX4_readComparison_59 rfl)) (am_nd_ok (am_lf_ok (fun _ => ok_iconst dX4_readComparison_62 cv_iconst_1 rfl)) (am_lf_ok (fun _ => ok_zret rfl dX4_readComparison_63)))))
def tX4_readComparison : Nat → Option am_Act := am_nd 46 (tX4_readComparison_0) (tX4_readComparison_1)
theorem gX4_readComparison : am_Good tT mX4_readComparison tX4_readComparison := am_nd_ok (gX4_readComparison_0) (gX4_readComparison_1)
theorem dX4_readSum_0 : decode cX4_readSum 0 = .ok (.iconst (-1), 1) := by decide +kernel
theorem dX4_readSum_1 : decode cX4_readSum 1 = .ok (.istore_n 1, 1) := by decide +kernel
theorem dX4_readSum_2 : decode cX4_readSum 2 = .ok (.iconst 0, 1) := by decide +kernel
theorem dX4_readSum_3 : decode cX4_readSum 3 = .ok (.istore_n 2, 1) := by decide +kernel
theorem dX4_readSum_4 : decode cX4_readSum 4 = .ok (.iload_n 2, 1) := by decide +kernel
theorem dX4_readSum_5 : decode cX4_readSum 5 = .ok (.sipush 400, 3) := by decide +kernel
theorem dX4_readSum_8 : decode cX4_readSum 8 = .ok (.if_icmp .ge 62, 3) := by decide +kernel
theorem dX4_readSum_11 : decode cX4_readSum 11 = .ok (.aload_n 0, 1) := by decide +kernel
theorem dX4_readSum_12 : decode cX4_readSum 12 = .ok (.invokevirtual 77, 3) := by decide +kernel
theorem dX4_readSum_15 : decode cX4_readSum 15 = .ok (.ifCond .ne 5, 3) := by decide +kernel
theorem dX4_readSum_18 : decode cX4_readSum 18 = .ok (.iconst 0, 1) := by decide +kernel
theorem dX4_readSum_19 : decode cX4_readSum 19 = .ok (.ireturn, 1) := by decide +kernel
theorem dX4_readSum_20 : decode cX4_readSum 20 = .ok (.iload_n 1, 1) := by decide +kernel
theorem dX4_readSum_21 : decode cX4_readSum 21 = .ok (.iconst (-1), 1) := by decide +kernel
theorem dX4_readSum_22 : decode cX4_readSum 22 = .ok (.if_icmp .eq 11, 3) := by decide +kernel
theorem dX4_readSum_25 : decode cX4_readSum 25 = .ok (.aload_n 0, 1) := by decide +kernel
theorem dX4_readSum_26 : decode cX4_readSum 26 = .ok (.getfield 21, 3) := by decide +kernel
theorem dX4_readSum_29 : decode cX4_readSum 29 = .ok (.iload_n 1, 1) := by decide +kernel
theorem dX4_readSum_30 : decode cX4_readSum 30 = .ok (.invokevirtual 60, 3) := by decide +kernel
theorem dX4_readSum_33 : decode cX4_readSum 33 = .ok (.aload_n 0, 1) := by decide +kernel
theorem dX4_readSum_34 : decode cX4_readSum 34 = .ok (.getfield 47, 3) := by decide +kernel
theorem dX4_readSum_37 : decode cX4_readSum 37 = .ok (.sipush 20043, 3) := by decide +kernel
theorem dX4_readSum_40 : decode cX4_readSum 40 = .ok (.if_icmp .eq 15, 3) := by decide +kernel
theorem dX4_readSum_43 : decode cX4_readSum 43 = .ok (.aload_n 0, 1) := by decide +kernel
theorem dX4_readSum_44 : decode cX4_readSum 44 = .ok (.getfield 47, 3) := by decide +kernel
theorem dX4_readSum_47 : decode cX4_readSum 47 = .ok (.sipush 20045, 3) := by decide +kernel
theorem dX4_readSum_50 : decode cX4_readSum 50 = .ok (.if_icmp .eq 5, 3) := by decide +kernel
theorem dX4_readSum_53 : decode cX4_readSum 53 = .ok (.iconst 1, 1) := by decide +kernel
theorem dX4_readSum_54 : decode cX4_readSum 54 = .ok (.ireturn, 1) := by decide +kernel
theorem dX4_readSum_55 : decode cX4_readSum 55 = .ok (.aload_n 0, 1) := by decide +kernel
theorem dX4_readSum_56 : decode cX4_readSum 56 = .ok (.getfield 47, 3) := by decide +kernel
theorem dX4_readSum_59 : decode cX4_readSum 59 = .ok (.istore_n 1, 1) := by decide +kernel
theorem dX4_readSum_60 : decode cX4_readSum 60 = .ok (.aload_n 0, 1) := by decide +kernel
theorem dX4_readSum_61 : decode cX4_readSum 61 = .ok (.invokevirtual 54, 3) := by decide +kernel
theorem dX4_readSum_64 : decode cX4_readSum 64 = .ok (.iinc 2 1, 3) := by decide +kernel
theorem dX4_readSum_67 : decode cX4_readSum 67 = .ok (.goto (-63), 3) := by decide +kernel
theorem dX4_readSum_70 : decode cX4_readSum 70 = .ok (.iconst 0, 1) := by decide +kernel
theorem dX4_readSum_71 : decode cX4_readSum 71 = .ok (.ireturn, 1) := by decide +kernel
def tX4_readSum_0 : Nat → Option am_Act := am_nd 20 (am_nd 8 (am_nd 3 (am_nd 1 (am_lf 0 (a_const (-1) 1)) (am_nd 2 (am_lf 1 (a_istore 1 2)) (am_lf 2 (a_const (nI 0) 3)))) (am_nd 4 (am_lf 3 (a_istore 2 4)) (am_nd 5 (am_lf 4 (a_iload 2 5)) (am_lf 5 (a_const (nI 400) 8))))) (am_nd 15 (am_nd 11 (am_lf 8 (a_cmp (fun x y => y ≤ x) 70 11)) (am_nd 12 (am_lf 11 (a_aload 0 12)) (am_lf 12 (a_cvI tT mX4_readProduct 4 0 15)))) (am_nd 18 (am_lf 15 (a_if (fun x => x = nI 0) 18 20)) (am_nd 19 (am_lf 18 (a_const (nI 0) 19)) (am_lf 19 (a_zret)))))) (am_nd 30 (am_nd 25 (am_nd 21 (am_lf 20 (a_iload 1 21)) (am_nd 22 (am_lf 21 (a_const (-1) 22)) (am_lf 22 (a_cmp (fun x y => x = y) 33 25)))) (am_nd 26 (am_lf 25 (a_aload 0 26)) (am_nd 29 (am_lf 26 (a_get tT 4 3 29)) (am_lf 29 (a_iload 1 30))))) (am_nd 37 (am_nd 33 (am_lf 30 (a_cvV tT mX3_emit 3 1 33)) (am_nd 34 (am_lf 33 (a_aload 0 34)) (am_lf 34 (a_get tT 4 8 37)))) (am_nd 40 (am_lf 37 (a_const (nI 20043) 40)) (am_nd 43 (am_lf 40 (a_cmp (fun x y => x = y) 55 43)) (am_lf 43 (a_aload 0 44))))))
theorem gX4_readSum_0 : am_Good tT mX4_readSum tX4_readSum_0 := am_nd_ok (am_nd_ok (am_nd_ok (am_nd_ok (am_lf_ok (fun _ => ok_iconst dX4_readSum_0 cv_iconst_m1 rfl)) (am_nd_ok (am_lf_ok (fun _ => ok_istore_n dX4_readSum_1 rfl (Nat.le_of_ble_eq_true rfl) rfl)) (am_lf_ok (fun _ => ok_iconst dX4_readSum_2 cv_iconst_0 rfl)))) (am_nd_ok (am_lf_ok (fun _ => ok_istore_n dX4_readSum_3 rfl (Nat.le_of_ble_eq_true rfl) rfl)) (am_nd_ok (am_lf_ok (fun _ => ok_iload_n dX4_readSum_4 rfl rfl)) (am_lf_ok (fun _ => ok_sipush dX4_readSum_5 cv_sipush_400 rfl))))) (am_nd_ok (am_nd_ok (am_lf_ok (fun _ => ok_cmp_ge dX4_readSum_8 rfl rfl)) (am_nd_ok (am_lf_ok (fun _ => ok_aload_n dX4_readSum_11 rfl rfl)) (am_lf_ok (fun _ => ok_cvI rfl mw_X4_readProduct (ci := 4) rfl rfl wd_116 wd_117 wd_118 dX4_readSum_12 rfl)))) (am_nd_ok (am_lf_ok (fun _ => ok_if_ne dX4_readSum_15 rfl rfl)) (am_nd_ok (am_lf_ok (fun _ => ok_iconst dX4_readSum_18 cv_iconst_0 rfl)) (am_lf_ok (fun _ => ok_zret rfl dX4_readSum_19)))))) (am_nd_ok (am_nd_ok (am_nd_ok (am_lf_ok (fun _ => ok_iload_n dX4_readSum_20 rfl rfl)) (am_nd_ok (am_lf_ok (fun _ => ok_iconst dX4_readSum_21 cv_iconst_m1 rfl)) (am_lf_ok (fun _ => ok_cmp_eq dX4_readSum_22 rfl rfl)))) (am_nd_ok (am_lf_ok (fun _ => ok_aload_n dX4_readSum_25 rfl rfl)) (am_nd_ok (am_lf_ok (fun _ => ok_get (C := RX4) (TT := TX4) (N := 9) rfl inw_X4 (Nat.le_of_ble_eq_true rfl) wd_84 dX4_readSum_26 rfl)) (am_lf_ok (fun _ => ok_iload_n dX4_readSum_29 rfl rfl))))) (am_nd_ok (am_nd_ok (am_lf_ok (fun _ => ok_cvV rfl mw_X3_emit (ci := 3) rfl rfl wd_103 wd_104 wd_105 dX4_readSum_30 rfl)) (am_nd_ok (am_lf_ok (fun _ => ok_aload_n dX4_readSum_33 rfl rfl)) (am_lf_ok (fun _ => ok_get (C := RX4) (TT := TX4) (N := 9) rfl inw_X4 (Nat.le_of_ble_eq_true rfl) wd_93 dX4_readSum_34 rfl)))) (am_nd_ok (am_lf_ok (fun _ => ok_sipush dX4_readSum_37 cv_sipush_20043 rfl)) (am_nd_ok (am_lf_ok (fun _ => ok_cmp_eq dX4_readSum_40 rfl rfl)) (am_lf_ok (fun _ => ok_aload_n dX4_readSum_43 rfl rfl))))))
def tX4_readSum_1 : Nat → Option am_Act := am_nd 59 (am_nd 53 (am_nd 47 (am_lf 44 (a_get tT 4 8 47)) (am_nd 50 (am_lf 47 (a_const (nI 20045) 50)) (am_lf 50 (a_cmp (fun x y => x = y) 55 53)))) (am_nd 55 (am_nd 54 (am_lf 53 (a_const (nI 1) 54)) (am_lf 54 (a_zret))) (am_nd 56 (am_lf 55 (a_aload 0 56)) (am_lf 56 (a_get tT 4 8 59))))) (am_nd 64 (am_nd 60 (am_lf 59 (a_istore 1 60)) (am_nd 61 (am_lf 60 (a_aload 0 61)) (am_lf 61 (a_cvV tT mX4_next 4 0 64)))) (am_nd 70 (am_nd 67 (am_lf 64 (a_iinc 2 (nI 1) 67)) (am_lf 67 (a_goto 4))) (am_nd 71 (am_lf 70 (a_const (nI 0) 71)) (am_lf 71 (a_zret)))))
theorem gX4_readSum_1 : am_Good tT mX4_readSum tX4_readSum_1 := am_nd_ok (am_nd_ok (am_nd_ok (am_lf_ok (fun _ => ok_get (C := RX4) (TT := TX4) (N := 9) rfl inw_X4 (Nat.le_of_ble_eq_true rfl) wd_93 dX4_readSum_44 rfl)) (am_nd_ok (am_lf_ok (fun _ => ok_sipush dX4_readSum_47 cv_sipush_20045 rfl)) (am_lf_ok (fun _ => ok_cmp_eq dX4_readSum_50 rfl rfl)))) (am_nd_ok (am_nd_ok (am_lf_ok (fun _ => ok_iconst dX4_readSum_53 cv_iconst_1 rfl)) (am_lf_ok (fun _ => ok_zret rfl dX4_readSum_54))) (am_nd_ok (am_lf_ok (fun _ => ok_aload_n dX4_readSum_55 rfl rfl)) (am_lf_ok (fun _ => ok_get (C := RX4) (TT := TX4) (N := 9) rfl inw_X4 (Nat.le_of_ble_eq_true rfl) wd_93 dX4_readSum_56 rfl))))) (am_nd_ok (am_nd_ok (am_lf_ok (fun _ => ok_istore_n dX4_readSum_59 rfl (Nat.le_of_ble_eq_true rfl) rfl)) (am_nd_ok (am_lf_ok (fun _ => ok_aload_n dX4_readSum_60 rfl rfl)) (am_lf_ok (fun _ => ok_cvV rfl mw_X4_next (ci := 4) rfl rfl wd_97 wd_98 wd_99 dX4_readSum_61 rfl)))) (am_nd_ok (am_nd_ok (am_lf_ok (fun _ => ok_iinc dX4_readSum_64 cv_iconst_1 (Nat.le_of_ble_eq_true rfl) rfl)) (am_lf_ok (fun _ => ok_goto dX4_readSum_67 rfl))) (am_nd_ok (am_lf_ok (fun _ => ok_iconst dX4_readSum_70 cv_iconst_0 rfl)) (am_lf_ok (fun _ => ok_zret rfl dX4_readSum_71)))))
def tX4_readSum : Nat → Option am_Act := am_nd 44 (tX4_readSum_0) (tX4_readSum_1)
theorem gX4_readSum : am_Good tT mX4_readSum tX4_readSum := am_nd_ok (gX4_readSum_0) (gX4_readSum_1)
theorem dX4_readProduct_0 : decode cX4_readProduct 0 = .ok (.iconst (-1), 1) := by decide +kernel
theorem dX4_readProduct_1 : decode cX4_readProduct 1 = .ok (.istore_n 1, 1) := by decide +kernel
theorem dX4_readProduct_2 : decode cX4_readProduct 2 = .ok (.iconst 0, 1) := by decide +kernel
theorem dX4_readProduct_3 : decode cX4_readProduct 3 = .ok (.istore_n 2, 1) := by decide +kernel
theorem dX4_readProduct_4 : decode cX4_readProduct 4 = .ok (.iload_n 2, 1) := by decide +kernel
theorem dX4_readProduct_5 : decode cX4_readProduct 5 = .ok (.sipush 400, 3) := by decide +kernel
theorem dX4_readProduct_8 : decode cX4_readProduct 8 = .ok (.if_icmp .ge 127, 3) := by decide +kernel
theorem dX4_readProduct_11 : decode cX4_readProduct 11 = .ok (.aload_n 0, 1) := by decide +kernel
theorem dX4_readProduct_12 : decode cX4_readProduct 12 = .ok (.getfield 47, 3) := by decide +kernel
theorem dX4_readProduct_15 : decode cX4_readProduct 15 = .ok (.iconst 0, 1) := by decide +kernel
theorem dX4_readProduct_16 : decode cX4_readProduct 16 = .ok (.sipush 9999, 3) := by decide +kernel
theorem dX4_readProduct_19 : decode cX4_readProduct 19 = .ok (.invokestatic 80, 3) := by decide +kernel
theorem dX4_readProduct_22 : decode cX4_readProduct 22 = .ok (.istore_n 3, 1) := by decide +kernel
theorem dX4_readProduct_23 : decode cX4_readProduct 23 = .ok (.iload_n 3, 1) := by decide +kernel
theorem dX4_readProduct_24 : decode cX4_readProduct 24 = .ok (.ifCond .ne 26, 3) := by decide +kernel
theorem dX4_readProduct_27 : decode cX4_readProduct 27 = .ok (.aload_n 0, 1) := by decide +kernel
theorem dX4_readProduct_28 : decode cX4_readProduct 28 = .ok (.getfield 47, 3) := by decide +kernel
theorem dX4_readProduct_31 : decode cX4_readProduct 31 = .ok (.invokestatic 84, 3) := by decide +kernel
theorem dX4_readProduct_34 : decode cX4_readProduct 34 = .ok (.ifCond .eq 10, 3) := by decide +kernel
theorem dX4_readProduct_37 : decode cX4_readProduct 37 = .ok (.iload_n 1, 1) := by decide +kernel
theorem dX4_readProduct_38 : decode cX4_readProduct 38 = .ok (.sipush 20047, 3) := by decide +kernel
theorem dX4_readProduct_41 : decode cX4_readProduct 41 = .ok (.if_icmp .ne 9, 3) := by decide +kernel
theorem dX4_readProduct_44 : decode cX4_readProduct 44 = .ok (.aload_n 0, 1) := by decide +kernel
theorem dX4_readProduct_45 : decode cX4_readProduct 45 = .ok (.iconst 1, 1) := by decide +kernel
theorem dX4_readProduct_46 : decode cX4_readProduct 46 = .ok (.invokevirtual 50, 3) := by decide +kernel
theorem dX4_readProduct_49 : decode cX4_readProduct 49 = .ok (.ireturn, 1) := by decide +kernel
theorem dX4_readProduct_50 : decode cX4_readProduct 50 = .ok (.aload_n 0, 1) := by decide +kernel
theorem dX4_readProduct_51 : decode cX4_readProduct 51 = .ok (.getfield 47, 3) := by decide +kernel
theorem dX4_readProduct_54 : decode cX4_readProduct 54 = .ok (.ifCond .ne 16, 3) := by decide +kernel
theorem dX4_readProduct_57 : decode cX4_readProduct 57 = .ok (.iload_n 1, 1) := by decide +kernel
theorem dX4_readProduct_58 : decode cX4_readProduct 58 = .ok (.sipush 20047, 3) := by decide +kernel
theorem dX4_readProduct_61 : decode cX4_readProduct 61 = .ok (.if_icmp .ne 9, 3) := by decide +kernel
theorem dX4_readProduct_64 : decode cX4_readProduct 64 = .ok (.aload_n 0, 1) := by decide +kernel
theorem dX4_readProduct_65 : decode cX4_readProduct 65 = .ok (.iconst 2, 1) := by decide +kernel
theorem dX4_readProduct_66 : decode cX4_readProduct 66 = .ok (.invokevirtual 50, 3) := by decide +kernel
theorem dX4_readProduct_69 : decode cX4_readProduct 69 = .ok (.ireturn, 1) := by decide +kernel
theorem dX4_readProduct_70 : decode cX4_readProduct 70 = .ok (.aload_n 0, 1) := by decide +kernel
theorem dX4_readProduct_71 : decode cX4_readProduct 71 = .ok (.getfield 21, 3) := by decide +kernel
theorem dX4_readProduct_74 : decode cX4_readProduct 74 = .ok (.aload_n 0, 1) := by decide +kernel
theorem dX4_readProduct_75 : decode cX4_readProduct 75 = .ok (.getfield 47, 3) := by decide +kernel
theorem dX4_readProduct_78 : decode cX4_readProduct 78 = .ok (.invokevirtual 60, 3) := by decide +kernel
theorem dX4_readProduct_81 : decode cX4_readProduct 81 = .ok (.iload_n 1, 1) := by decide +kernel
theorem dX4_readProduct_82 : decode cX4_readProduct 82 = .ok (.iconst (-1), 1) := by decide +kernel
theorem dX4_readProduct_83 : decode cX4_readProduct 83 = .ok (.if_icmp .eq 11, 3) := by decide +kernel
theorem dX4_readProduct_86 : decode cX4_readProduct 86 = .ok (.aload_n 0, 1) := by decide +kernel
theorem dX4_readProduct_87 : decode cX4_readProduct 87 = .ok (.getfield 21, 3) := by decide +kernel
theorem dX4_readProduct_90 : decode cX4_readProduct 90 = .ok (.iload_n 1, 1) := by decide +kernel
theorem dX4_readProduct_91 : decode cX4_readProduct 91 = .ok (.invokevirtual 60, 3) := by decide +kernel
theorem dX4_readProduct_94 : decode cX4_readProduct 94 = .ok (.aload_n 0, 1) := by decide +kernel
theorem dX4_readProduct_95 : decode cX4_readProduct 95 = .ok (.invokevirtual 54, 3) := by decide +kernel
theorem dX4_readProduct_98 : decode cX4_readProduct 98 = .ok (.aload_n 0, 1) := by decide +kernel
theorem dX4_readProduct_99 : decode cX4_readProduct 99 = .ok (.getfield 47, 3) := by decide +kernel
theorem dX4_readProduct_102 : decode cX4_readProduct 102 = .ok (.sipush 20042, 3) := by decide +kernel
theorem dX4_readProduct_105 : decode cX4_readProduct 105 = .ok (.if_icmp .eq 15, 3) := by decide +kernel
theorem dX4_readProduct_108 : decode cX4_readProduct 108 = .ok (.aload_n 0, 1) := by decide +kernel
theorem dX4_readProduct_109 : decode cX4_readProduct 109 = .ok (.getfield 47, 3) := by decide +kernel
theorem dX4_readProduct_112 : decode cX4_readProduct 112 = .ok (.sipush 20047, 3) := by decide +kernel
theorem dX4_readProduct_115 : decode cX4_readProduct 115 = .ok (.if_icmp .eq 5, 3) := by decide +kernel
theorem dX4_readProduct_118 : decode cX4_readProduct 118 = .ok (.iconst 1, 1) := by decide +kernel
theorem dX4_readProduct_119 : decode cX4_readProduct 119 = .ok (.ireturn, 1) := by decide +kernel
theorem dX4_readProduct_120 : decode cX4_readProduct 120 = .ok (.aload_n 0, 1) := by decide +kernel
theorem dX4_readProduct_121 : decode cX4_readProduct 121 = .ok (.getfield 47, 3) := by decide +kernel
theorem dX4_readProduct_124 : decode cX4_readProduct 124 = .ok (.istore_n 1, 1) := by decide +kernel
theorem dX4_readProduct_125 : decode cX4_readProduct 125 = .ok (.aload_n 0, 1) := by decide +kernel
theorem dX4_readProduct_126 : decode cX4_readProduct 126 = .ok (.invokevirtual 54, 3) := by decide +kernel
theorem dX4_readProduct_129 : decode cX4_readProduct 129 = .ok (.iinc 2 1, 3) := by decide +kernel
theorem dX4_readProduct_132 : decode cX4_readProduct 132 = .ok (.goto (-128), 3) := by decide +kernel
theorem dX4_readProduct_135 : decode cX4_readProduct 135 = .ok (.iconst 0, 1) := by decide +kernel
theorem dX4_readProduct_136 : decode cX4_readProduct 136 = .ok (.ireturn, 1) := by decide +kernel
def tX4_readProduct_0 : Nat → Option am_Act := am_nd 22 (am_nd 8 (am_nd 3 (am_nd 1 (am_lf 0 (a_const (-1) 1)) (am_nd 2 (am_lf 1 (a_istore 1 2)) (am_lf 2 (a_const (nI 0) 3)))) (am_nd 4 (am_lf 3 (a_istore 2 4)) (am_nd 5 (am_lf 4 (a_iload 2 5)) (am_lf 5 (a_const (nI 400) 8))))) (am_nd 15 (am_nd 11 (am_lf 8 (a_cmp (fun x y => y ≤ x) 135 11)) (am_nd 12 (am_lf 11 (a_aload 0 12)) (am_lf 12 (a_get tT 4 8 15)))) (am_nd 16 (am_lf 15 (a_const (nI 0) 16)) (am_nd 19 (am_lf 16 (a_const (nI 9999) 19)) (am_lf 19 (a_csI mX11_within 3 22)))))) (am_nd 34 (am_nd 27 (am_nd 23 (am_lf 22 (a_istore 3 23)) (am_nd 24 (am_lf 23 (a_iload 3 24)) (am_lf 24 (a_if (fun x => x = nI 0) 27 50)))) (am_nd 28 (am_lf 27 (a_aload 0 28)) (am_nd 31 (am_lf 28 (a_get tT 4 8 31)) (am_lf 31 (a_csI mX11_isFact 1 34))))) (am_nd 41 (am_nd 37 (am_lf 34 (a_if (fun x => x = nI 0) 44 37)) (am_nd 38 (am_lf 37 (a_iload 1 38)) (am_lf 38 (a_const (nI 20047) 41)))) (am_nd 44 (am_lf 41 (a_cmp (fun x y => x = y) 44 50)) (am_nd 45 (am_lf 44 (a_aload 0 45)) (am_lf 45 (a_const (nI 1) 46))))))
theorem gX4_readProduct_0 : am_Good tT mX4_readProduct tX4_readProduct_0 := am_nd_ok (am_nd_ok (am_nd_ok (am_nd_ok (am_lf_ok (fun _ => ok_iconst dX4_readProduct_0 cv_iconst_m1 rfl)) (am_nd_ok (am_lf_ok (fun _ => ok_istore_n dX4_readProduct_1 rfl (Nat.le_of_ble_eq_true rfl) rfl)) (am_lf_ok (fun _ => ok_iconst dX4_readProduct_2 cv_iconst_0 rfl)))) (am_nd_ok (am_lf_ok (fun _ => ok_istore_n dX4_readProduct_3 rfl (Nat.le_of_ble_eq_true rfl) rfl)) (am_nd_ok (am_lf_ok (fun _ => ok_iload_n dX4_readProduct_4 rfl rfl)) (am_lf_ok (fun _ => ok_sipush dX4_readProduct_5 cv_sipush_400 rfl))))) (am_nd_ok (am_nd_ok (am_lf_ok (fun _ => ok_cmp_ge dX4_readProduct_8 rfl rfl)) (am_nd_ok (am_lf_ok (fun _ => ok_aload_n dX4_readProduct_11 rfl rfl)) (am_lf_ok (fun _ => ok_get (C := RX4) (TT := TX4) (N := 9) rfl inw_X4 (Nat.le_of_ble_eq_true rfl) wd_93 dX4_readProduct_12 rfl)))) (am_nd_ok (am_lf_ok (fun _ => ok_iconst dX4_readProduct_15 cv_iconst_0 rfl)) (am_nd_ok (am_lf_ok (fun _ => ok_sipush dX4_readProduct_16 cv_sipush_9999 rfl)) (am_lf_ok (fun _ => ok_csIN rfl mw_X11_within wd_119 wd_120 dX4_readProduct_19 rfl)))))) (am_nd_ok (am_nd_ok (am_nd_ok (am_lf_ok (fun _ => ok_istore_n dX4_readProduct_22 rfl (Nat.le_of_ble_eq_true rfl) rfl)) (am_nd_ok (am_lf_ok (fun _ => ok_iload_n dX4_readProduct_23 rfl rfl)) (am_lf_ok (fun _ => ok_if_ne dX4_readProduct_24 rfl rfl)))) (am_nd_ok (am_lf_ok (fun _ => ok_aload_n dX4_readProduct_27 rfl rfl)) (am_nd_ok (am_lf_ok (fun _ => ok_get (C := RX4) (TT := TX4) (N := 9) rfl inw_X4 (Nat.le_of_ble_eq_true rfl) wd_93 dX4_readProduct_28 rfl)) (am_lf_ok (fun _ => ok_csIN rfl mw_X11_isFact wd_121 wd_78 dX4_readProduct_31 rfl))))) (am_nd_ok (am_nd_ok (am_lf_ok (fun _ => ok_if_eq dX4_readProduct_34 rfl rfl)) (am_nd_ok (am_lf_ok (fun _ => ok_iload_n dX4_readProduct_37 rfl rfl)) (am_lf_ok (fun _ => ok_sipush dX4_readProduct_38 cv_sipush_20047 rfl)))) (am_nd_ok (am_lf_ok (fun _ => ok_cmp_ne dX4_readProduct_41 rfl rfl)) (am_nd_ok (am_lf_ok (fun _ => ok_aload_n dX4_readProduct_44 rfl rfl)) (am_lf_ok (fun _ => ok_iconst dX4_readProduct_45 cv_iconst_1 rfl))))))
def tX4_readProduct_1 : Nat → Option am_Act := am_nd 70 (am_nd 58 (am_nd 51 (am_nd 49 (am_lf 46 (a_cvI tT mX4_refuse 4 1 49)) (am_nd 50 (am_lf 49 (a_zret)) (am_lf 50 (a_aload 0 51)))) (am_nd 54 (am_lf 51 (a_get tT 4 8 54)) (am_nd 57 (am_lf 54 (a_if (fun x => x = nI 0) 57 70)) (am_lf 57 (a_iload 1 58))))) (am_nd 65 (am_nd 61 (am_lf 58 (a_const (nI 20047) 61)) (am_nd 64 (am_lf 61 (a_cmp (fun x y => x = y) 64 70)) (am_lf 64 (a_aload 0 65)))) (am_nd 66 (am_lf 65 (a_const (nI 2) 66)) (am_nd 69 (am_lf 66 (a_cvI tT mX4_refuse 4 1 69)) (am_lf 69 (a_zret)))))) (am_nd 82 (am_nd 75 (am_nd 71 (am_lf 70 (a_aload 0 71)) (am_nd 74 (am_lf 71 (a_get tT 4 3 74)) (am_lf 74 (a_aload 0 75)))) (am_nd 78 (am_lf 75 (a_get tT 4 8 78)) (am_nd 81 (am_lf 78 (a_cvV tT mX3_emit 3 1 81)) (am_lf 81 (a_iload 1 82))))) (am_nd 87 (am_nd 83 (am_lf 82 (a_const (-1) 83)) (am_nd 86 (am_lf 83 (a_cmp (fun x y => x = y) 94 86)) (am_lf 86 (a_aload 0 87)))) (am_nd 90 (am_lf 87 (a_get tT 4 3 90)) (am_nd 91 (am_lf 90 (a_iload 1 91)) (am_lf 91 (a_cvV tT mX3_emit 3 1 94))))))
theorem gX4_readProduct_1 : am_Good tT mX4_readProduct tX4_readProduct_1 := am_nd_ok (am_nd_ok (am_nd_ok (am_nd_ok (am_lf_ok (fun _ => ok_cvI rfl mw_X4_refuse (ci := 4) rfl rfl wd_94 wd_95 wd_96 dX4_readProduct_46 rfl)) (am_nd_ok (am_lf_ok (fun _ => ok_zret rfl dX4_readProduct_49)) (am_lf_ok (fun _ => ok_aload_n dX4_readProduct_50 rfl rfl)))) (am_nd_ok (am_lf_ok (fun _ => ok_get (C := RX4) (TT := TX4) (N := 9) rfl inw_X4 (Nat.le_of_ble_eq_true rfl) wd_93 dX4_readProduct_51 rfl)) (am_nd_ok (am_lf_ok (fun _ => ok_if_ne dX4_readProduct_54 rfl rfl)) (am_lf_ok (fun _ => ok_iload_n dX4_readProduct_57 rfl rfl))))) (am_nd_ok (am_nd_ok (am_lf_ok (fun _ => ok_sipush dX4_readProduct_58 cv_sipush_20047 rfl)) (am_nd_ok (am_lf_ok (fun _ => ok_cmp_ne dX4_readProduct_61 rfl rfl)) (am_lf_ok (fun _ => ok_aload_n dX4_readProduct_64 rfl rfl)))) (am_nd_ok (am_lf_ok (fun _ => ok_iconst dX4_readProduct_65 cv_iconst_2 rfl)) (am_nd_ok (am_lf_ok (fun _ => ok_cvI rfl mw_X4_refuse (ci := 4) rfl rfl wd_94 wd_95 wd_96 dX4_readProduct_66 rfl)) (am_lf_ok (fun _ => ok_zret rfl dX4_readProduct_69)))))) (am_nd_ok (am_nd_ok (am_nd_ok (am_lf_ok (fun _ => ok_aload_n dX4_readProduct_70 rfl rfl)) (am_nd_ok (am_lf_ok (fun _ => ok_get (C := RX4) (TT := TX4) (N := 9) rfl inw_X4 (Nat.le_of_ble_eq_true rfl) wd_84 dX4_readProduct_71 rfl)) (am_lf_ok (fun _ => ok_aload_n dX4_readProduct_74 rfl rfl)))) (am_nd_ok (am_lf_ok (fun _ => ok_get (C := RX4) (TT := TX4) (N := 9) rfl inw_X4 (Nat.le_of_ble_eq_true rfl) wd_93 dX4_readProduct_75 rfl)) (am_nd_ok (am_lf_ok (fun _ => ok_cvV rfl mw_X3_emit (ci := 3) rfl rfl wd_103 wd_104 wd_105 dX4_readProduct_78 rfl)) (am_lf_ok (fun _ => ok_iload_n dX4_readProduct_81 rfl rfl))))) (am_nd_ok (am_nd_ok (am_lf_ok (fun _ => ok_iconst dX4_readProduct_82 cv_iconst_m1 rfl)) (am_nd_ok (am_lf_ok (fun _ => ok_cmp_eq dX4_readProduct_83 rfl rfl)) (am_lf_ok (fun _ => ok_aload_n dX4_readProduct_86 rfl rfl)))) (am_nd_ok (am_lf_ok (fun _ => ok_get (C := RX4) (TT := TX4) (N := 9) rfl inw_X4 (Nat.le_of_ble_eq_true rfl) wd_84 dX4_readProduct_87 rfl)) (am_nd_ok (am_lf_ok (fun _ => ok_iload_n dX4_readProduct_90 rfl rfl)) (am_lf_ok (fun _ => ok_cvV rfl mw_X3_emit (ci := 3) rfl rfl wd_103 wd_104 wd_105 dX4_readProduct_91 rfl))))))
def tX4_readProduct_2 : Nat → Option am_Act := am_nd 118 (am_nd 105 (am_nd 98 (am_nd 95 (am_lf 94 (a_aload 0 95)) (am_lf 95 (a_cvV tT mX4_next 4 0 98))) (am_nd 99 (am_lf 98 (a_aload 0 99)) (am_nd 102 (am_lf 99 (a_get tT 4 8 102)) (am_lf 102 (a_const (nI 20042) 105))))) (am_nd 109 (am_nd 108 (am_lf 105 (a_cmp (fun x y => x = y) 120 108)) (am_lf 108 (a_aload 0 109))) (am_nd 112 (am_lf 109 (a_get tT 4 8 112)) (am_nd 115 (am_lf 112 (a_const (nI 20047) 115)) (am_lf 115 (a_cmp (fun x y => x = y) 120 118)))))) (am_nd 125 (am_nd 120 (am_nd 119 (am_lf 118 (a_const (nI 1) 119)) (am_lf 119 (a_zret))) (am_nd 121 (am_lf 120 (a_aload 0 121)) (am_nd 124 (am_lf 121 (a_get tT 4 8 124)) (am_lf 124 (a_istore 1 125))))) (am_nd 132 (am_nd 126 (am_lf 125 (a_aload 0 126)) (am_nd 129 (am_lf 126 (a_cvV tT mX4_next 4 0 129)) (am_lf 129 (a_iinc 2 (nI 1) 132)))) (am_nd 135 (am_lf 132 (a_goto 4)) (am_nd 136 (am_lf 135 (a_const (nI 0) 136)) (am_lf 136 (a_zret))))))
theorem gX4_readProduct_2 : am_Good tT mX4_readProduct tX4_readProduct_2 := am_nd_ok (am_nd_ok (am_nd_ok (am_nd_ok (am_lf_ok (fun _ => ok_aload_n dX4_readProduct_94 rfl rfl)) (am_lf_ok (fun _ => ok_cvV rfl mw_X4_next (ci := 4) rfl rfl wd_97 wd_98 wd_99 dX4_readProduct_95 rfl))) (am_nd_ok (am_lf_ok (fun _ => ok_aload_n dX4_readProduct_98 rfl rfl)) (am_nd_ok (am_lf_ok (fun _ => ok_get (C := RX4) (TT := TX4) (N := 9) rfl inw_X4 (Nat.le_of_ble_eq_true rfl) wd_93 dX4_readProduct_99 rfl)) (am_lf_ok (fun _ => ok_sipush dX4_readProduct_102 cv_sipush_20042 rfl))))) (am_nd_ok (am_nd_ok (am_lf_ok (fun _ => ok_cmp_eq dX4_readProduct_105 rfl rfl)) (am_lf_ok (fun _ => ok_aload_n dX4_readProduct_108 rfl rfl))) (am_nd_ok (am_lf_ok (fun _ => ok_get (C := RX4) (TT := TX4) (N := 9) rfl inw_X4 (Nat.le_of_ble_eq_true rfl) wd_93 dX4_readProduct_109 rfl)) (am_nd_ok (am_lf_ok (fun _ => ok_sipush dX4_readProduct_112 cv_sipush_20047 rfl)) (am_lf_ok (fun _ => ok_cmp_eq dX4_readProduct_115 rfl rfl)))))) (am_nd_ok (am_nd_ok (am_nd_ok (am_lf_ok (fun _ => ok_iconst dX4_readProduct_118 cv_iconst_1 rfl)) (am_lf_ok (fun _ => ok_zret rfl dX4_readProduct_119))) (am_nd_ok (am_lf_ok (fun _ => ok_aload_n dX4_readProduct_120 rfl rfl)) (am_nd_ok (am_lf_ok (fun _ => ok_get (C := RX4) (TT := TX4) (N := 9) rfl inw_X4 (Nat.le_of_ble_eq_true rfl) wd_93 dX4_readProduct_121 rfl)) (am_lf_ok (fun _ => ok_istore_n dX4_readProduct_124 rfl (Nat.le_of_ble_eq_true rfl) rfl))))) (am_nd_ok (am_nd_ok (am_lf_ok (fun _ => ok_aload_n dX4_readProduct_125 rfl rfl)) (am_nd_ok (am_lf_ok (fun _ => ok_cvV rfl mw_X4_next (ci := 4) rfl rfl wd_97 wd_98 wd_99 dX4_readProduct_126 rfl)) (am_lf_ok (fun _ => ok_iinc dX4_readProduct_129 cv_iconst_1 (Nat.le_of_ble_eq_true rfl) rfl)))) (am_nd_ok (am_lf_ok (fun _ => ok_goto dX4_readProduct_132 rfl)) (am_nd_ok (am_lf_ok (fun _ => ok_iconst dX4_readProduct_135 cv_iconst_0 rfl)) (am_lf_ok (fun _ => ok_zret rfl dX4_readProduct_136))))))
def tX4_readProduct : Nat → Option am_Act := am_nd 46 (tX4_readProduct_0) (am_nd 94 (tX4_readProduct_1) (tX4_readProduct_2))
theorem gX4_readProduct : am_Good tT mX4_readProduct tX4_readProduct := am_nd_ok (gX4_readProduct_0) (am_nd_ok (gX4_readProduct_1) (gX4_readProduct_2))
theorem dX4_refuse_0 : decode cX4_refuse 0 = .ok (.aload_n 0, 1) := by decide +kernel
theorem dX4_refuse_1 : decode cX4_refuse 1 = .ok (.iload_n 1, 1) := by decide +kernel
theorem dX4_refuse_2 : decode cX4_refuse 2 = .ok (.putfield 9, 3) := by decide +kernel
theorem dX4_refuse_5 : decode cX4_refuse 5 = .ok (.aload_n 0, 1) := by decide +kernel
theorem dX4_refuse_6 : decode cX4_refuse 6 = .ok (.aload_n 0, 1) := by decide +kernel
theorem dX4_refuse_7 : decode cX4_refuse 7 = .ok (.getfield 32, 3) := by decide +kernel
theorem dX4_refuse_10 : decode cX4_refuse 10 = .ok (.aload_n 0, 1) := by decide +kernel
theorem dX4_refuse_11 : decode cX4_refuse 11 = .ok (.getfield 44, 3) := by decide +kernel
theorem dX4_refuse_14 : decode cX4_refuse 14 = .ok (.iaload, 1) := by decide +kernel
theorem dX4_refuse_15 : decode cX4_refuse 15 = .ok (.putfield 15, 3) := by decide +kernel
theorem dX4_refuse_18 : decode cX4_refuse 18 = .ok (.iconst 0, 1) := by decide +kernel
theorem dX4_refuse_19 : decode cX4_refuse 19 = .ok (.ireturn, 1) := by decide +kernel
def tX4_refuse_0 : Nat → Option am_Act := am_nd 10 (am_nd 5 (am_nd 1 (am_lf 0 (a_aload 0 1)) (am_nd 2 (am_lf 1 (a_iload 1 2)) (am_lf 2 (a_put tT 4 1 5)))) (am_nd 6 (am_lf 5 (a_aload 0 6)) (am_nd 7 (am_lf 6 (a_aload 0 7)) (am_lf 7 (a_get tT 4 6 10))))) (am_nd 15 (am_nd 11 (am_lf 10 (a_aload 0 11)) (am_nd 14 (am_lf 11 (a_get tT 4 7 14)) (am_lf 14 (a_iald tT 15)))) (am_nd 18 (am_lf 15 (a_put tT 4 2 18)) (am_nd 19 (am_lf 18 (a_const (nI 0) 19)) (am_lf 19 (a_zret)))))
theorem gX4_refuse_0 : am_Good tT mX4_refuse tX4_refuse_0 := am_nd_ok (am_nd_ok (am_nd_ok (am_lf_ok (fun _ => ok_aload_n dX4_refuse_0 rfl rfl)) (am_nd_ok (am_lf_ok (fun _ => ok_iload_n dX4_refuse_1 rfl rfl)) (am_lf_ok (fun _ => ok_put (C := RX4) (TT := TX4) (N := 9) (ty0 := tyX4) rfl inw_X4 tyX4_ok nmX4 (Nat.le_of_ble_eq_true rfl) rfl rfl wd_82 dX4_refuse_2 rfl)))) (am_nd_ok (am_lf_ok (fun _ => ok_aload_n dX4_refuse_5 rfl rfl)) (am_nd_ok (am_lf_ok (fun _ => ok_aload_n dX4_refuse_6 rfl rfl)) (am_lf_ok (fun _ => ok_get (C := RX4) (TT := TX4) (N := 9) rfl inw_X4 (Nat.le_of_ble_eq_true rfl) wd_122 dX4_refuse_7 rfl))))) (am_nd_ok (am_nd_ok (am_lf_ok (fun _ => ok_aload_n dX4_refuse_10 rfl rfl)) (am_nd_ok (am_lf_ok (fun _ => ok_get (C := RX4) (TT := TX4) (N := 9) rfl inw_X4 (Nat.le_of_ble_eq_true rfl) wd_91 dX4_refuse_11 rfl)) (am_lf_ok (fun _ => ok_iald dX4_refuse_14 rfl)))) (am_nd_ok (am_lf_ok (fun _ => ok_put (C := RX4) (TT := TX4) (N := 9) (ty0 := tyX4) rfl inw_X4 tyX4_ok nmX4 (Nat.le_of_ble_eq_true rfl) rfl rfl wd_83 dX4_refuse_15 rfl)) (am_nd_ok (am_lf_ok (fun _ => ok_iconst dX4_refuse_18 cv_iconst_0 rfl)) (am_lf_ok (fun _ => ok_zret rfl dX4_refuse_19)))))
def tX4_refuse : Nat → Option am_Act := tX4_refuse_0
theorem gX4_refuse : am_Good tT mX4_refuse tX4_refuse := gX4_refuse_0
theorem dX4_next_0 : decode cX4_next 0 = .ok (.aload_n 0, 1) := by decide +kernel
theorem dX4_next_1 : decode cX4_next 1 = .ok (.getfield 47, 3) := by decide +kernel
theorem dX4_next_4 : decode cX4_next 4 = .ok (.iconst (-1), 1) := by decide +kernel
theorem dX4_next_5 : decode cX4_next 5 = .ok (.if_icmp .eq 36, 3) := by decide +kernel
theorem dX4_next_8 : decode cX4_next 8 = .ok (.aload_n 0, 1) := by decide +kernel
theorem dX4_next_9 : decode cX4_next 9 = .ok (.getfield 44, 3) := by decide +kernel
theorem dX4_next_12 : decode cX4_next 12 = .ok (.sipush 400, 3) := by decide +kernel
theorem dX4_next_15 : decode cX4_next 15 = .ok (.if_icmp .ge 26, 3) := by decide +kernel
theorem dX4_next_18 : decode cX4_next 18 = .ok (.aload_n 0, 1) := by decide +kernel
theorem dX4_next_19 : decode cX4_next 19 = .ok (.dup, 1) := by decide +kernel
theorem dX4_next_20 : decode cX4_next 20 = .ok (.getfield 44, 3) := by decide +kernel
theorem dX4_next_23 : decode cX4_next 23 = .ok (.iconst 1, 1) := by decide +kernel
theorem dX4_next_24 : decode cX4_next 24 = .ok (.iadd, 1) := by decide +kernel
theorem dX4_next_25 : decode cX4_next 25 = .ok (.putfield 44, 3) := by decide +kernel
theorem dX4_next_28 : decode cX4_next 28 = .ok (.aload_n 0, 1) := by decide +kernel
theorem dX4_next_29 : decode cX4_next 29 = .ok (.aload_n 0, 1) := by decide +kernel
theorem dX4_next_30 : decode cX4_next 30 = .ok (.getfield 29, 3) := by decide +kernel
theorem dX4_next_33 : decode cX4_next 33 = .ok (.aload_n 0, 1) := by decide +kernel
theorem dX4_next_34 : decode cX4_next 34 = .ok (.getfield 44, 3) := by decide +kernel
theorem dX4_next_37 : decode cX4_next 37 = .ok (.iaload, 1) := by decide +kernel
theorem dX4_next_38 : decode cX4_next 38 = .ok (.putfield 47, 3) := by decide +kernel
theorem dX4_next_41 : decode cX4_next 41 = .ok (.return_, 1) := by decide +kernel
def tX4_next_0 : Nat → Option am_Act := am_nd 23 (am_nd 9 (am_nd 4 (am_nd 1 (am_lf 0 (a_aload 0 1)) (am_lf 1 (a_get tT 4 8 4))) (am_nd 5 (am_lf 4 (a_const (-1) 5)) (am_nd 8 (am_lf 5 (a_cmp (fun x y => x = y) 41 8)) (am_lf 8 (a_aload 0 9))))) (am_nd 18 (am_nd 12 (am_lf 9 (a_get tT 4 7 12)) (am_nd 15 (am_lf 12 (a_const (nI 400) 15)) (am_lf 15 (a_cmp (fun x y => y ≤ x) 41 18)))) (am_nd 19 (am_lf 18 (a_aload 0 19)) (am_nd 20 (am_lf 19 (a_dup 20)) (am_lf 20 (a_get tT 4 7 23)))))) (am_nd 30 (am_nd 25 (am_nd 24 (am_lf 23 (a_const (nI 1) 24)) (am_lf 24 (a_bin (fun x y => x + y) 25))) (am_nd 28 (am_lf 25 (a_put tT 4 7 28)) (am_nd 29 (am_lf 28 (a_aload 0 29)) (am_lf 29 (a_aload 0 30))))) (am_nd 37 (am_nd 33 (am_lf 30 (a_get tT 4 5 33)) (am_nd 34 (am_lf 33 (a_aload 0 34)) (am_lf 34 (a_get tT 4 7 37)))) (am_nd 38 (am_lf 37 (a_iald tT 38)) (am_nd 41 (am_lf 38 (a_put tT 4 8 41)) (am_lf 41 (a_ret))))))
theorem gX4_next_0 : am_Good tT mX4_next tX4_next_0 := am_nd_ok (am_nd_ok (am_nd_ok (am_nd_ok (am_lf_ok (fun _ => ok_aload_n dX4_next_0 rfl rfl)) (am_lf_ok (fun _ => ok_get (C := RX4) (TT := TX4) (N := 9) rfl inw_X4 (Nat.le_of_ble_eq_true rfl) wd_93 dX4_next_1 rfl))) (am_nd_ok (am_lf_ok (fun _ => ok_iconst dX4_next_4 cv_iconst_m1 rfl)) (am_nd_ok (am_lf_ok (fun _ => ok_cmp_eq dX4_next_5 rfl rfl)) (am_lf_ok (fun _ => ok_aload_n dX4_next_8 rfl rfl))))) (am_nd_ok (am_nd_ok (am_lf_ok (fun _ => ok_get (C := RX4) (TT := TX4) (N := 9) rfl inw_X4 (Nat.le_of_ble_eq_true rfl) wd_91 dX4_next_9 rfl)) (am_nd_ok (am_lf_ok (fun _ => ok_sipush dX4_next_12 cv_sipush_400 rfl)) (am_lf_ok (fun _ => ok_cmp_ge dX4_next_15 rfl rfl)))) (am_nd_ok (am_lf_ok (fun _ => ok_aload_n dX4_next_18 rfl rfl)) (am_nd_ok (am_lf_ok (fun _ => ok_dup dX4_next_19 rfl)) (am_lf_ok (fun _ => ok_get (C := RX4) (TT := TX4) (N := 9) rfl inw_X4 (Nat.le_of_ble_eq_true rfl) wd_91 dX4_next_20 rfl)))))) (am_nd_ok (am_nd_ok (am_nd_ok (am_lf_ok (fun _ => ok_iconst dX4_next_23 cv_iconst_1 rfl)) (am_lf_ok (fun _ => ok_iadd dX4_next_24 rfl))) (am_nd_ok (am_lf_ok (fun _ => ok_put (C := RX4) (TT := TX4) (N := 9) (ty0 := tyX4) rfl inw_X4 tyX4_ok nmX4 (Nat.le_of_ble_eq_true rfl) rfl rfl wd_91 dX4_next_25 rfl)) (am_nd_ok (am_lf_ok (fun _ => ok_aload_n dX4_next_28 rfl rfl)) (am_lf_ok (fun _ => ok_aload_n dX4_next_29 rfl rfl))))) (am_nd_ok (am_nd_ok (am_lf_ok (fun _ => ok_get (C := RX4) (TT := TX4) (N := 9) rfl inw_X4 (Nat.le_of_ble_eq_true rfl) wd_92 dX4_next_30 rfl)) (am_nd_ok (am_lf_ok (fun _ => ok_aload_n dX4_next_33 rfl rfl)) (am_lf_ok (fun _ => ok_get (C := RX4) (TT := TX4) (N := 9) rfl inw_X4 (Nat.le_of_ble_eq_true rfl) wd_91 dX4_next_34 rfl)))) (am_nd_ok (am_lf_ok (fun _ => ok_iald dX4_next_37 rfl)) (am_nd_ok (am_lf_ok (fun _ => ok_put (C := RX4) (TT := TX4) (N := 9) (ty0 := tyX4) rfl inw_X4 tyX4_ok nmX4 (Nat.le_of_ble_eq_true rfl) rfl rfl wd_93 dX4_next_38 rfl)) (am_lf_ok (fun _ => ok_ret rfl dX4_next_41))))))
def tX4_next : Nat → Option am_Act := tX4_next_0
theorem gX4_next : am_Good tT mX4_next tX4_next := gX4_next_0
