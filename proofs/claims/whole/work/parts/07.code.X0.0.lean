/-! ===== code of TollOfNames$BestOrder ===== -/
theorem dX0_find_0 : decode cX0_find 0 = .ok (.aload_n 0, 1) := by decide +kernel
theorem dX0_find_1 : decode cX0_find 1 = .ok (.iload_n 1, 1) := by decide +kernel
theorem dX0_find_2 : decode cX0_find 2 = .ok (.putfield 26, 3) := by decide +kernel
theorem dX0_find_5 : decode cX0_find 5 = .ok (.aload_n 0, 1) := by decide +kernel
theorem dX0_find_6 : decode cX0_find 6 = .ok (.iload_n 1, 1) := by decide +kernel
theorem dX0_find_7 : decode cX0_find 7 = .ok (.invokestatic 30, 3) := by decide +kernel
theorem dX0_find_10 : decode cX0_find 10 = .ok (.putfield 36, 3) := by decide +kernel
theorem dX0_find_13 : decode cX0_find 13 = .ok (.aload_n 0, 1) := by decide +kernel
theorem dX0_find_14 : decode cX0_find 14 = .ok (.iload_n 2, 1) := by decide +kernel
theorem dX0_find_15 : decode cX0_find 15 = .ok (.putfield 39, 3) := by decide +kernel
theorem dX0_find_18 : decode cX0_find 18 = .ok (.aload_n 0, 1) := by decide +kernel
theorem dX0_find_19 : decode cX0_find 19 = .ok (.iconst (-1), 1) := by decide +kernel
theorem dX0_find_20 : decode cX0_find 20 = .ok (.putfield 42, 3) := by decide +kernel
theorem dX0_find_23 : decode cX0_find 23 = .ok (.aload_n 0, 1) := by decide +kernel
theorem dX0_find_24 : decode cX0_find 24 = .ok (.iload_n 1, 1) := by decide +kernel
theorem dX0_find_25 : decode cX0_find 25 = .ok (.iconst 0, 1) := by decide +kernel
theorem dX0_find_26 : decode cX0_find 26 = .ok (.invokevirtual 45, 3) := by decide +kernel
theorem dX0_find_29 : decode cX0_find 29 = .ok (.aload_n 0, 1) := by decide +kernel
theorem dX0_find_30 : decode cX0_find 30 = .ok (.getfield 42, 3) := by decide +kernel
theorem dX0_find_33 : decode cX0_find 33 = .ok (.iconst (-1), 1) := by decide +kernel
theorem dX0_find_34 : decode cX0_find 34 = .ok (.if_icmp .eq 7, 3) := by decide +kernel
theorem dX0_find_37 : decode cX0_find 37 = .ok (.iconst 1, 1) := by decide +kernel
theorem dX0_find_38 : decode cX0_find 38 = .ok (.goto 4, 3) := by decide +kernel
theorem dX0_find_41 : decode cX0_find 41 = .ok (.iconst 0, 1) := by decide +kernel
theorem dX0_find_42 : decode cX0_find 42 = .ok (.ireturn, 1) := by decide +kernel
def tX0_find_0 : Nat → Option am_Act := am_nd 20 (am_nd 10 (am_nd 5 (am_nd 1 (am_lf 0 (a_aload 0 1)) (am_nd 2 (am_lf 1 (a_iload 1 2)) (am_lf 2 (a_put tT 0 2 5)))) (am_nd 6 (am_lf 5 (a_aload 0 6)) (am_nd 7 (am_lf 6 (a_iload 1 7)) (am_lf 7 (a_csI mJ6_bitCount_0f7a4 1 10))))) (am_nd 15 (am_nd 13 (am_lf 10 (a_put tT 0 3 13)) (am_nd 14 (am_lf 13 (a_aload 0 14)) (am_lf 14 (a_iload 2 15)))) (am_nd 18 (am_lf 15 (a_put tT 0 4 18)) (am_nd 19 (am_lf 18 (a_aload 0 19)) (am_lf 19 (a_const (-1) 20)))))) (am_nd 30 (am_nd 25 (am_nd 23 (am_lf 20 (a_put tT 0 5 23)) (am_nd 24 (am_lf 23 (a_aload 0 24)) (am_lf 24 (a_iload 1 25)))) (am_nd 26 (am_lf 25 (a_const (nI 0) 26)) (am_nd 29 (am_lf 26 (a_cvV tT mX0_seek 0 2 29)) (am_lf 29 (a_aload 0 30))))) (am_nd 37 (am_nd 33 (am_lf 30 (a_get tT 0 5 33)) (am_nd 34 (am_lf 33 (a_const (-1) 34)) (am_lf 34 (a_cmp (fun x y => x = y) 41 37)))) (am_nd 38 (am_lf 37 (a_const (nI 1) 38)) (am_nd 41 (am_lf 38 (a_goto 42)) (am_lf 41 (a_const (nI 0) 42))))))
theorem gX0_find_0 : am_Good tT mX0_find tX0_find_0 := am_nd_ok (am_nd_ok (am_nd_ok (am_nd_ok (am_lf_ok (fun _ => ok_aload_n dX0_find_0 rfl rfl)) (am_nd_ok (am_lf_ok (fun _ => ok_iload_n dX0_find_1 rfl rfl)) (am_lf_ok (fun _ => ok_put (C := RX0) (TT := TX0) (N := 8) (ty0 := tyX0) rfl inw_X0 tyX0_ok nmX0 (Nat.le_of_ble_eq_true rfl) rfl rfl wd_0 dX0_find_2 rfl)))) (am_nd_ok (am_lf_ok (fun _ => ok_aload_n dX0_find_5 rfl rfl)) (am_nd_ok (am_lf_ok (fun _ => ok_iload_n dX0_find_6 rfl rfl)) (am_lf_ok (fun _ => ok_csI rfl mw_J6_bitCount_0f7a4 wd_1 wd_2 dX0_find_7 rfl))))) (am_nd_ok (am_nd_ok (am_lf_ok (fun _ => ok_put (C := RX0) (TT := TX0) (N := 8) (ty0 := tyX0) rfl inw_X0 tyX0_ok nmX0 (Nat.le_of_ble_eq_true rfl) rfl rfl wd_3 dX0_find_10 rfl)) (am_nd_ok (am_lf_ok (fun _ => ok_aload_n dX0_find_13 rfl rfl)) (am_lf_ok (fun _ => ok_iload_n dX0_find_14 rfl rfl)))) (am_nd_ok (am_lf_ok (fun _ => ok_put (C := RX0) (TT := TX0) (N := 8) (ty0 := tyX0) rfl inw_X0 tyX0_ok nmX0 (Nat.le_of_ble_eq_true rfl) rfl rfl wd_4 dX0_find_15 rfl)) (am_nd_ok (am_lf_ok (fun _ => ok_aload_n dX0_find_18 rfl rfl)) (am_lf_ok (fun _ => ok_iconst dX0_find_19 cv_iconst_m1 rfl)))))) (am_nd_ok (am_nd_ok (am_nd_ok (am_lf_ok (fun _ => ok_put (C := RX0) (TT := TX0) (N := 8) (ty0 := tyX0) rfl inw_X0 tyX0_ok nmX0 (Nat.le_of_ble_eq_true rfl) rfl rfl wd_5 dX0_find_20 rfl)) (am_nd_ok (am_lf_ok (fun _ => ok_aload_n dX0_find_23 rfl rfl)) (am_lf_ok (fun _ => ok_iload_n dX0_find_24 rfl rfl)))) (am_nd_ok (am_lf_ok (fun _ => ok_iconst dX0_find_25 cv_iconst_0 rfl)) (am_nd_ok (am_lf_ok (fun _ => ok_cvV rfl mw_X0_seek (ci := 0) rfl rfl wd_6 wd_7 wd_8 dX0_find_26 rfl)) (am_lf_ok (fun _ => ok_aload_n dX0_find_29 rfl rfl))))) (am_nd_ok (am_nd_ok (am_lf_ok (fun _ => ok_get (C := RX0) (TT := TX0) (N := 8) rfl inw_X0 (Nat.le_of_ble_eq_true rfl) wd_5 dX0_find_30 rfl)) (am_nd_ok (am_lf_ok (fun _ => ok_iconst dX0_find_33 cv_iconst_m1 rfl)) (am_lf_ok (fun _ => ok_cmp_eq dX0_find_34 rfl rfl)))) (am_nd_ok (am_lf_ok (fun _ => ok_iconst dX0_find_37 cv_iconst_1 rfl)) (am_nd_ok (am_lf_ok (fun _ => ok_goto dX0_find_38 rfl)) (am_lf_ok (fun _ => ok_iconst dX0_find_41 cv_iconst_0 rfl))))))
def tX0_find_1 : Nat → Option am_Act := am_lf 42 (a_zret)
theorem gX0_find_1 : am_Good tT mX0_find tX0_find_1 := am_lf_ok (fun _ => ok_zret rfl dX0_find_42)
def tX0_find : Nat → Option am_Act := am_nd 42 (tX0_find_0) (tX0_find_1)
theorem gX0_find : am_Good tT mX0_find tX0_find := am_nd_ok (gX0_find_0) (gX0_find_1)
theorem dX0_seek_0 : decode cX0_seek 0 = .ok (.iload_n 1, 1) := by decide +kernel
theorem dX0_seek_1 : decode cX0_seek 1 = .ok (.ifCond .ne 9, 3) := by decide +kernel
theorem dX0_seek_4 : decode cX0_seek 4 = .ok (.aload_n 0, 1) := by decide +kernel
theorem dX0_seek_5 : decode cX0_seek 5 = .ok (.iload_n 2, 1) := by decide +kernel
theorem dX0_seek_6 : decode cX0_seek 6 = .ok (.invokevirtual 49, 3) := by decide +kernel
theorem dX0_seek_9 : decode cX0_seek 9 = .ok (.return_, 1) := by decide +kernel
theorem dX0_seek_10 : decode cX0_seek 10 = .ok (.iload_n 2, 1) := by decide +kernel
theorem dX0_seek_11 : decode cX0_seek 11 = .ok (.bipush 6, 2) := by decide +kernel
theorem dX0_seek_13 : decode cX0_seek 13 = .ok (.if_icmp .ge 14, 3) := by decide +kernel
theorem dX0_seek_16 : decode cX0_seek 16 = .ok (.aload_n 0, 1) := by decide +kernel
theorem dX0_seek_17 : decode cX0_seek 17 = .ok (.getfield 42, 3) := by decide +kernel
theorem dX0_seek_20 : decode cX0_seek 20 = .ok (.aload_n 0, 1) := by decide +kernel
theorem dX0_seek_21 : decode cX0_seek 21 = .ok (.getfield 36, 3) := by decide +kernel
theorem dX0_seek_24 : decode cX0_seek 24 = .ok (.if_icmp .ne 4, 3) := by decide +kernel
theorem dX0_seek_27 : decode cX0_seek 27 = .ok (.return_, 1) := by decide +kernel
theorem dX0_seek_28 : decode cX0_seek 28 = .ok (.iconst 0, 1) := by decide +kernel
theorem dX0_seek_29 : decode cX0_seek 29 = .ok (.istore_n 3, 1) := by decide +kernel
theorem dX0_seek_30 : decode cX0_seek 30 = .ok (.iload_n 3, 1) := by decide +kernel
theorem dX0_seek_31 : decode cX0_seek 31 = .ok (.aload_n 0, 1) := by decide +kernel
theorem dX0_seek_32 : decode cX0_seek 32 = .ok (.getfield 18, 3) := by decide +kernel
theorem dX0_seek_35 : decode cX0_seek 35 = .ok (.getfield 53, 3) := by decide +kernel
theorem dX0_seek_38 : decode cX0_seek 38 = .ok (.getfield 59, 3) := by decide +kernel
theorem dX0_seek_41 : decode cX0_seek 41 = .ok (.if_icmp .ge 97, 3) := by decide +kernel
theorem dX0_seek_44 : decode cX0_seek 44 = .ok (.iload_n 1, 1) := by decide +kernel
theorem dX0_seek_45 : decode cX0_seek 45 = .ok (.iload_n 3, 1) := by decide +kernel
theorem dX0_seek_46 : decode cX0_seek 46 = .ok (.ishr, 1) := by decide +kernel
theorem dX0_seek_47 : decode cX0_seek 47 = .ok (.iconst 1, 1) := by decide +kernel
theorem dX0_seek_48 : decode cX0_seek 48 = .ok (.iand, 1) := by decide +kernel
theorem dX0_seek_49 : decode cX0_seek 49 = .ok (.ifCond .ne 6, 3) := by decide +kernel
theorem dX0_seek_52 : decode cX0_seek 52 = .ok (.goto 80, 3) := by decide +kernel
theorem dX0_seek_55 : decode cX0_seek 55 = .ok (.aload_n 0, 1) := by decide +kernel
theorem dX0_seek_56 : decode cX0_seek 56 = .ok (.getfield 22, 3) := by decide +kernel
theorem dX0_seek_59 : decode cX0_seek 59 = .ok (.iload_n 3, 1) := by decide +kernel
theorem dX0_seek_60 : decode cX0_seek 60 = .ok (.aload_n 0, 1) := by decide +kernel
theorem dX0_seek_61 : decode cX0_seek 61 = .ok (.getfield 39, 3) := by decide +kernel
theorem dX0_seek_64 : decode cX0_seek 64 = .ok (.invokevirtual 64, 3) := by decide +kernel
theorem dX0_seek_67 : decode cX0_seek 67 = .ok (.istore 4, 2) := by decide +kernel
theorem dX0_seek_69 : decode cX0_seek 69 = .ok (.iload 4, 2) := by decide +kernel
theorem dX0_seek_71 : decode cX0_seek 71 = .ok (.bipush (-2), 2) := by decide +kernel
theorem dX0_seek_73 : decode cX0_seek 73 = .ok (.if_icmp .ne 6, 3) := by decide +kernel
theorem dX0_seek_76 : decode cX0_seek 76 = .ok (.goto 56, 3) := by decide +kernel
theorem dX0_seek_79 : decode cX0_seek 79 = .ok (.aload_n 0, 1) := by decide +kernel
theorem dX0_seek_80 : decode cX0_seek 80 = .ok (.getfield 15, 3) := by decide +kernel
theorem dX0_seek_83 : decode cX0_seek 83 = .ok (.iload_n 2, 1) := by decide +kernel
theorem dX0_seek_84 : decode cX0_seek 84 = .ok (.iload_n 3, 1) := by decide +kernel
theorem dX0_seek_85 : decode cX0_seek 85 = .ok (.iastore, 1) := by decide +kernel
theorem dX0_seek_86 : decode cX0_seek 86 = .ok (.aload_n 0, 1) := by decide +kernel
theorem dX0_seek_87 : decode cX0_seek 87 = .ok (.getfield 22, 3) := by decide +kernel
theorem dX0_seek_90 : decode cX0_seek 90 = .ok (.iload_n 3, 1) := by decide +kernel
theorem dX0_seek_91 : decode cX0_seek 91 = .ok (.aload_n 0, 1) := by decide +kernel
theorem dX0_seek_92 : decode cX0_seek 92 = .ok (.getfield 39, 3) := by decide +kernel
theorem dX0_seek_95 : decode cX0_seek 95 = .ok (.iload 4, 2) := by decide +kernel
theorem dX0_seek_97 : decode cX0_seek 97 = .ok (.invokevirtual 70, 3) := by decide +kernel
theorem dX0_seek_100 : decode cX0_seek 100 = .ok (.istore 5, 2) := by decide +kernel
theorem dX0_seek_102 : decode cX0_seek 102 = .ok (.aload_n 0, 1) := by decide +kernel
theorem dX0_seek_103 : decode cX0_seek 103 = .ok (.iload_n 1, 1) := by decide +kernel
theorem dX0_seek_104 : decode cX0_seek 104 = .ok (.iconst 1, 1) := by decide +kernel
theorem dX0_seek_105 : decode cX0_seek 105 = .ok (.iload_n 3, 1) := by decide +kernel
theorem dX0_seek_106 : decode cX0_seek 106 = .ok (.ishl, 1) := by decide +kernel
theorem dX0_seek_107 : decode cX0_seek 107 = .ok (.iconst (-1), 1) := by decide +kernel
theorem dX0_seek_108 : decode cX0_seek 108 = .ok (.ixor, 1) := by decide +kernel
theorem dX0_seek_109 : decode cX0_seek 109 = .ok (.iand, 1) := by decide +kernel
theorem dX0_seek_110 : decode cX0_seek 110 = .ok (.iload_n 2, 1) := by decide +kernel
theorem dX0_seek_111 : decode cX0_seek 111 = .ok (.iconst 1, 1) := by decide +kernel
theorem dX0_seek_112 : decode cX0_seek 112 = .ok (.iadd, 1) := by decide +kernel
theorem dX0_seek_113 : decode cX0_seek 113 = .ok (.invokevirtual 45, 3) := by decide +kernel
theorem dX0_seek_116 : decode cX0_seek 116 = .ok (.aload_n 0, 1) := by decide +kernel
theorem dX0_seek_117 : decode cX0_seek 117 = .ok (.getfield 22, 3) := by decide +kernel
theorem dX0_seek_120 : decode cX0_seek 120 = .ok (.iload_n 3, 1) := by decide +kernel
theorem dX0_seek_121 : decode cX0_seek 121 = .ok (.aload_n 0, 1) := by decide +kernel
theorem dX0_seek_122 : decode cX0_seek 122 = .ok (.getfield 39, 3) := by decide +kernel
theorem dX0_seek_125 : decode cX0_seek 125 = .ok (.iload 4, 2) := by decide +kernel
theorem dX0_seek_127 : decode cX0_seek 127 = .ok (.iload 5, 2) := by decide +kernel
theorem dX0_seek_129 : decode cX0_seek 129 = .ok (.invokevirtual 74, 3) := by decide +kernel
theorem dX0_seek_132 : decode cX0_seek 132 = .ok (.iinc 3 1, 3) := by decide +kernel
theorem dX0_seek_135 : decode cX0_seek 135 = .ok (.goto (-105), 3) := by decide +kernel
theorem dX0_seek_138 : decode cX0_seek 138 = .ok (.return_, 1) := by decide +kernel
def tX0_seek_0 : Nat → Option am_Act := am_nd 21 (am_nd 10 (am_nd 5 (am_nd 1 (am_lf 0 (a_iload 1 1)) (am_nd 4 (am_lf 1 (a_if (fun x => x = nI 0) 4 10)) (am_lf 4 (a_aload 0 5)))) (am_nd 6 (am_lf 5 (a_iload 2 6)) (am_nd 9 (am_lf 6 (a_cvV tT mX0_consider 0 1 9)) (am_lf 9 (a_ret))))) (am_nd 16 (am_nd 11 (am_lf 10 (a_iload 2 11)) (am_nd 13 (am_lf 11 (a_const (nI 6) 13)) (am_lf 13 (a_cmp (fun x y => y ≤ x) 27 16)))) (am_nd 17 (am_lf 16 (a_aload 0 17)) (am_nd 20 (am_lf 17 (a_get tT 0 5 20)) (am_lf 20 (a_aload 0 21)))))) (am_nd 31 (am_nd 28 (am_nd 24 (am_lf 21 (a_get tT 0 3 24)) (am_nd 27 (am_lf 24 (a_cmp (fun x y => x = y) 27 28)) (am_lf 27 (a_ret)))) (am_nd 29 (am_lf 28 (a_const (nI 0) 29)) (am_nd 30 (am_lf 29 (a_istore 3 30)) (am_lf 30 (a_iload 3 31))))) (am_nd 38 (am_nd 32 (am_lf 31 (a_aload 0 32)) (am_nd 35 (am_lf 32 (a_get tT 0 0 35)) (am_lf 35 (a_get tT 10 11 38)))) (am_nd 41 (am_lf 38 (a_get tT 5 0 41)) (am_nd 44 (am_lf 41 (a_cmp (fun x y => y ≤ x) 138 44)) (am_lf 44 (a_iload 1 45))))))
theorem gX0_seek_0 : am_Good tT mX0_seek tX0_seek_0 := am_nd_ok (am_nd_ok (am_nd_ok (am_nd_ok (am_lf_ok (fun _ => ok_iload_n dX0_seek_0 rfl rfl)) (am_nd_ok (am_lf_ok (fun _ => ok_if_ne dX0_seek_1 rfl rfl)) (am_lf_ok (fun _ => ok_aload_n dX0_seek_4 rfl rfl)))) (am_nd_ok (am_lf_ok (fun _ => ok_iload_n dX0_seek_5 rfl rfl)) (am_nd_ok (am_lf_ok (fun _ => ok_cvV rfl mw_X0_consider (ci := 0) rfl rfl wd_9 wd_10 wd_11 dX0_seek_6 rfl)) (am_lf_ok (fun _ => ok_ret rfl dX0_seek_9))))) (am_nd_ok (am_nd_ok (am_lf_ok (fun _ => ok_iload_n dX0_seek_10 rfl rfl)) (am_nd_ok (am_lf_ok (fun _ => ok_bipush dX0_seek_11 cv_bipush_6 rfl)) (am_lf_ok (fun _ => ok_cmp_ge dX0_seek_13 rfl rfl)))) (am_nd_ok (am_lf_ok (fun _ => ok_aload_n dX0_seek_16 rfl rfl)) (am_nd_ok (am_lf_ok (fun _ => ok_get (C := RX0) (TT := TX0) (N := 8) rfl inw_X0 (Nat.le_of_ble_eq_true rfl) wd_5 dX0_seek_17 rfl)) (am_lf_ok (fun _ => ok_aload_n dX0_seek_20 rfl rfl)))))) (am_nd_ok (am_nd_ok (am_nd_ok (am_lf_ok (fun _ => ok_get (C := RX0) (TT := TX0) (N := 8) rfl inw_X0 (Nat.le_of_ble_eq_true rfl) wd_3 dX0_seek_21 rfl)) (am_nd_ok (am_lf_ok (fun _ => ok_cmp_ne dX0_seek_24 rfl rfl)) (am_lf_ok (fun _ => ok_ret rfl dX0_seek_27)))) (am_nd_ok (am_lf_ok (fun _ => ok_iconst dX0_seek_28 cv_iconst_0 rfl)) (am_nd_ok (am_lf_ok (fun _ => ok_istore_n dX0_seek_29 rfl (Nat.le_of_ble_eq_true rfl) rfl)) (am_lf_ok (fun _ => ok_iload_n dX0_seek_30 rfl rfl))))) (am_nd_ok (am_nd_ok (am_lf_ok (fun _ => ok_aload_n dX0_seek_31 rfl rfl)) (am_nd_ok (am_lf_ok (fun _ => ok_get (C := RX0) (TT := TX0) (N := 8) rfl inw_X0 (Nat.le_of_ble_eq_true rfl) wd_12 dX0_seek_32 rfl)) (am_lf_ok (fun _ => ok_get (C := RX10) (TT := TX10) (N := 14) rfl inw_X10 (Nat.le_of_ble_eq_true rfl) wd_13 dX0_seek_35 rfl)))) (am_nd_ok (am_lf_ok (fun _ => ok_get (C := RX5) (TT := TX5) (N := 8) rfl inw_X5 (Nat.le_of_ble_eq_true rfl) wd_14 dX0_seek_38 rfl)) (am_nd_ok (am_lf_ok (fun _ => ok_cmp_ge dX0_seek_41 rfl rfl)) (am_lf_ok (fun _ => ok_iload_n dX0_seek_44 rfl rfl))))))
def tX0_seek_1 : Nat → Option am_Act := am_nd 67 (am_nd 55 (am_nd 48 (am_nd 46 (am_lf 45 (a_iload 3 46)) (am_nd 47 (am_lf 46 (a_bin (fun x y => x >>> (y &&& 31)) 47)) (am_lf 47 (a_const (nI 1) 48)))) (am_nd 49 (am_lf 48 (a_bin (fun x y => x &&& y) 49)) (am_nd 52 (am_lf 49 (a_if (fun x => x = nI 0) 52 55)) (am_lf 52 (a_goto 132))))) (am_nd 60 (am_nd 56 (am_lf 55 (a_aload 0 56)) (am_nd 59 (am_lf 56 (a_get tT 0 1 59)) (am_lf 59 (a_iload 3 60)))) (am_nd 61 (am_lf 60 (a_aload 0 61)) (am_nd 64 (am_lf 61 (a_get tT 0 4 64)) (am_lf 64 (a_cvI tT mX7_due 7 2 67)))))) (am_nd 80 (am_nd 73 (am_nd 69 (am_lf 67 (a_istore 4 69)) (am_nd 71 (am_lf 69 (a_iload 4 71)) (am_lf 71 (a_const (-2) 73)))) (am_nd 76 (am_lf 73 (a_cmp (fun x y => x = y) 76 79)) (am_nd 79 (am_lf 76 (a_goto 132)) (am_lf 79 (a_aload 0 80))))) (am_nd 85 (am_nd 83 (am_lf 80 (a_get tT 0 7 83)) (am_nd 84 (am_lf 83 (a_iload 2 84)) (am_lf 84 (a_iload 3 85)))) (am_nd 86 (am_lf 85 (a_iast tT 86)) (am_nd 87 (am_lf 86 (a_aload 0 87)) (am_lf 87 (a_get tT 0 1 90))))))
theorem gX0_seek_1 : am_Good tT mX0_seek tX0_seek_1 := am_nd_ok (am_nd_ok (am_nd_ok (am_nd_ok (am_lf_ok (fun _ => ok_iload_n dX0_seek_45 rfl rfl)) (am_nd_ok (am_lf_ok (fun _ => ok_ishr dX0_seek_46 rfl)) (am_lf_ok (fun _ => ok_iconst dX0_seek_47 cv_iconst_1 rfl)))) (am_nd_ok (am_lf_ok (fun _ => ok_iand dX0_seek_48 rfl)) (am_nd_ok (am_lf_ok (fun _ => ok_if_ne dX0_seek_49 rfl rfl)) (am_lf_ok (fun _ => ok_goto dX0_seek_52 rfl))))) (am_nd_ok (am_nd_ok (am_lf_ok (fun _ => ok_aload_n dX0_seek_55 rfl rfl)) (am_nd_ok (am_lf_ok (fun _ => ok_get (C := RX0) (TT := TX0) (N := 8) rfl inw_X0 (Nat.le_of_ble_eq_true rfl) wd_15 dX0_seek_56 rfl)) (am_lf_ok (fun _ => ok_iload_n dX0_seek_59 rfl rfl)))) (am_nd_ok (am_lf_ok (fun _ => ok_aload_n dX0_seek_60 rfl rfl)) (am_nd_ok (am_lf_ok (fun _ => ok_get (C := RX0) (TT := TX0) (N := 8) rfl inw_X0 (Nat.le_of_ble_eq_true rfl) wd_4 dX0_seek_61 rfl)) (am_lf_ok (fun _ => ok_cvI rfl mw_X7_due (ci := 7) rfl rfl wd_16 wd_17 wd_18 dX0_seek_64 rfl)))))) (am_nd_ok (am_nd_ok (am_nd_ok (am_lf_ok (fun _ => ok_istore dX0_seek_67 (Nat.le_of_ble_eq_true rfl) rfl)) (am_nd_ok (am_lf_ok (fun _ => ok_iload dX0_seek_69 rfl)) (am_lf_ok (fun _ => ok_bipush dX0_seek_71 cv_bipush_m2 rfl)))) (am_nd_ok (am_lf_ok (fun _ => ok_cmp_ne dX0_seek_73 rfl rfl)) (am_nd_ok (am_lf_ok (fun _ => ok_goto dX0_seek_76 rfl)) (am_lf_ok (fun _ => ok_aload_n dX0_seek_79 rfl rfl))))) (am_nd_ok (am_nd_ok (am_lf_ok (fun _ => ok_get (C := RX0) (TT := TX0) (N := 8) rfl inw_X0 (Nat.le_of_ble_eq_true rfl) wd_19 dX0_seek_80 rfl)) (am_nd_ok (am_lf_ok (fun _ => ok_iload_n dX0_seek_83 rfl rfl)) (am_lf_ok (fun _ => ok_iload_n dX0_seek_84 rfl rfl)))) (am_nd_ok (am_lf_ok (fun _ => ok_iast dX0_seek_85 rfl)) (am_nd_ok (am_lf_ok (fun _ => ok_aload_n dX0_seek_86 rfl rfl)) (am_lf_ok (fun _ => ok_get (C := RX0) (TT := TX0) (N := 8) rfl inw_X0 (Nat.le_of_ble_eq_true rfl) wd_15 dX0_seek_87 rfl))))))
def tX0_seek_2 : Nat → Option am_Act := am_nd 108 (am_nd 102 (am_nd 95 (am_nd 91 (am_lf 90 (a_iload 3 91)) (am_nd 92 (am_lf 91 (a_aload 0 92)) (am_lf 92 (a_get tT 0 4 95)))) (am_nd 97 (am_lf 95 (a_iload 4 97)) (am_nd 100 (am_lf 97 (a_cvI tT mX7_pass 7 3 100)) (am_lf 100 (a_istore 5 102))))) (am_nd 105 (am_nd 103 (am_lf 102 (a_aload 0 103)) (am_nd 104 (am_lf 103 (a_iload 1 104)) (am_lf 104 (a_const (nI 1) 105)))) (am_nd 106 (am_lf 105 (a_iload 3 106)) (am_nd 107 (am_lf 106 (a_bin (fun x y => x <<< (y &&& 31)) 107)) (am_lf 107 (a_const (-1) 108)))))) (am_nd 116 (am_nd 111 (am_nd 109 (am_lf 108 (a_bin (fun x y => x ^^^ y) 109)) (am_nd 110 (am_lf 109 (a_bin (fun x y => x &&& y) 110)) (am_lf 110 (a_iload 2 111)))) (am_nd 112 (am_lf 111 (a_const (nI 1) 112)) (am_nd 113 (am_lf 112 (a_bin (fun x y => x + y) 113)) (am_lf 113 (a_cvV tT mX0_seek 0 2 116))))) (am_nd 121 (am_nd 117 (am_lf 116 (a_aload 0 117)) (am_nd 120 (am_lf 117 (a_get tT 0 1 120)) (am_lf 120 (a_iload 3 121)))) (am_nd 122 (am_lf 121 (a_aload 0 122)) (am_nd 125 (am_lf 122 (a_get tT 0 4 125)) (am_lf 125 (a_iload 4 127))))))
theorem gX0_seek_2 : am_Good tT mX0_seek tX0_seek_2 := am_nd_ok (am_nd_ok (am_nd_ok (am_nd_ok (am_lf_ok (fun _ => ok_iload_n dX0_seek_90 rfl rfl)) (am_nd_ok (am_lf_ok (fun _ => ok_aload_n dX0_seek_91 rfl rfl)) (am_lf_ok (fun _ => ok_get (C := RX0) (TT := TX0) (N := 8) rfl inw_X0 (Nat.le_of_ble_eq_true rfl) wd_4 dX0_seek_92 rfl)))) (am_nd_ok (am_lf_ok (fun _ => ok_iload dX0_seek_95 rfl)) (am_nd_ok (am_lf_ok (fun _ => ok_cvI rfl mw_X7_pass (ci := 7) rfl rfl wd_20 wd_21 wd_22 dX0_seek_97 rfl)) (am_lf_ok (fun _ => ok_istore dX0_seek_100 (Nat.le_of_ble_eq_true rfl) rfl))))) (am_nd_ok (am_nd_ok (am_lf_ok (fun _ => ok_aload_n dX0_seek_102 rfl rfl)) (am_nd_ok (am_lf_ok (fun _ => ok_iload_n dX0_seek_103 rfl rfl)) (am_lf_ok (fun _ => ok_iconst dX0_seek_104 cv_iconst_1 rfl)))) (am_nd_ok (am_lf_ok (fun _ => ok_iload_n dX0_seek_105 rfl rfl)) (am_nd_ok (am_lf_ok (fun _ => ok_ishl dX0_seek_106 rfl)) (am_lf_ok (fun _ => ok_iconst dX0_seek_107 cv_iconst_m1 rfl)))))) (am_nd_ok (am_nd_ok (am_nd_ok (am_lf_ok (fun _ => ok_ixor dX0_seek_108 rfl)) (am_nd_ok (am_lf_ok (fun _ => ok_iand dX0_seek_109 rfl)) (am_lf_ok (fun _ => ok_iload_n dX0_seek_110 rfl rfl)))) (am_nd_ok (am_lf_ok (fun _ => ok_iconst dX0_seek_111 cv_iconst_1 rfl)) (am_nd_ok (am_lf_ok (fun _ => ok_iadd dX0_seek_112 rfl)) (am_lf_ok (fun _ => ok_cvV rfl mw_X0_seek (ci := 0) rfl rfl wd_6 wd_7 wd_8 dX0_seek_113 rfl))))) (am_nd_ok (am_nd_ok (am_lf_ok (fun _ => ok_aload_n dX0_seek_116 rfl rfl)) (am_nd_ok (am_lf_ok (fun _ => ok_get (C := RX0) (TT := TX0) (N := 8) rfl inw_X0 (Nat.le_of_ble_eq_true rfl) wd_15 dX0_seek_117 rfl)) (am_lf_ok (fun _ => ok_iload_n dX0_seek_120 rfl rfl)))) (am_nd_ok (am_lf_ok (fun _ => ok_aload_n dX0_seek_121 rfl rfl)) (am_nd_ok (am_lf_ok (fun _ => ok_get (C := RX0) (TT := TX0) (N := 8) rfl inw_X0 (Nat.le_of_ble_eq_true rfl) wd_4 dX0_seek_122 rfl)) (am_lf_ok (fun _ => ok_iload dX0_seek_125 rfl))))))
def tX0_seek_3 : Nat → Option am_Act := am_nd 132 (am_nd 129 (am_lf 127 (a_iload 5 129)) (am_lf 129 (a_cvV tT mX7_back 7 4 132))) (am_nd 135 (am_lf 132 (a_iinc 3 (nI 1) 135)) (am_nd 138 (am_lf 135 (a_goto 30)) (am_lf 138 (a_ret))))
theorem gX0_seek_3 : am_Good tT mX0_seek tX0_seek_3 := am_nd_ok (am_nd_ok (am_lf_ok (fun _ => ok_iload dX0_seek_127 rfl)) (am_lf_ok (fun _ => ok_cvV rfl mw_X7_back (ci := 7) rfl rfl wd_23 wd_24 wd_25 dX0_seek_129 rfl))) (am_nd_ok (am_lf_ok (fun _ => ok_iinc dX0_seek_132 cv_iconst_1 (Nat.le_of_ble_eq_true rfl) rfl)) (am_nd_ok (am_lf_ok (fun _ => ok_goto dX0_seek_135 rfl)) (am_lf_ok (fun _ => ok_ret rfl dX0_seek_138))))
def tX0_seek : Nat → Option am_Act := am_nd 90 (am_nd 45 (tX0_seek_0) (tX0_seek_1)) (am_nd 127 (tX0_seek_2) (tX0_seek_3))
theorem gX0_seek : am_Good tT mX0_seek tX0_seek := am_nd_ok (am_nd_ok (gX0_seek_0) (gX0_seek_1)) (am_nd_ok (gX0_seek_2) (gX0_seek_3))
theorem dX0_consider_0 : decode cX0_consider 0 = .ok (.aload_n 0, 1) := by decide +kernel
theorem dX0_consider_1 : decode cX0_consider 1 = .ok (.getfield 18, 3) := by decide +kernel
theorem dX0_consider_4 : decode cX0_consider 4 = .ok (.getfield 53, 3) := by decide +kernel
theorem dX0_consider_7 : decode cX0_consider 7 = .ok (.aload_n 0, 1) := by decide +kernel
theorem dX0_consider_8 : decode cX0_consider 8 = .ok (.getfield 26, 3) := by decide +kernel
theorem dX0_consider_11 : decode cX0_consider 11 = .ok (.invokevirtual 78, 3) := by decide +kernel
theorem dX0_consider_14 : decode cX0_consider 14 = .ok (.invokestatic 30, 3) := by decide +kernel
theorem dX0_consider_17 : decode cX0_consider 17 = .ok (.istore_n 2, 1) := by decide +kernel
theorem dX0_consider_18 : decode cX0_consider 18 = .ok (.iload_n 2, 1) := by decide +kernel
theorem dX0_consider_19 : decode cX0_consider 19 = .ok (.aload_n 0, 1) := by decide +kernel
theorem dX0_consider_20 : decode cX0_consider 20 = .ok (.getfield 42, 3) := by decide +kernel
theorem dX0_consider_23 : decode cX0_consider 23 = .ok (.if_icmp .le 22, 3) := by decide +kernel
theorem dX0_consider_26 : decode cX0_consider 26 = .ok (.aload_n 0, 1) := by decide +kernel
theorem dX0_consider_27 : decode cX0_consider 27 = .ok (.iload_n 2, 1) := by decide +kernel
theorem dX0_consider_28 : decode cX0_consider 28 = .ok (.putfield 42, 3) := by decide +kernel
theorem dX0_consider_31 : decode cX0_consider 31 = .ok (.aload_n 0, 1) := by decide +kernel
theorem dX0_consider_32 : decode cX0_consider 32 = .ok (.getfield 15, 3) := by decide +kernel
theorem dX0_consider_35 : decode cX0_consider 35 = .ok (.iconst 0, 1) := by decide +kernel
theorem dX0_consider_36 : decode cX0_consider 36 = .ok (.aload_n 0, 1) := by decide +kernel
theorem dX0_consider_37 : decode cX0_consider 37 = .ok (.getfield 9, 3) := by decide +kernel
theorem dX0_consider_40 : decode cX0_consider 40 = .ok (.iconst 0, 1) := by decide +kernel
theorem dX0_consider_41 : decode cX0_consider 41 = .ok (.iload_n 1, 1) := by decide +kernel
theorem dX0_consider_42 : decode cX0_consider 42 = .ok (.invokestatic 81, 3) := by decide +kernel
theorem dX0_consider_45 : decode cX0_consider 45 = .ok (.return_, 1) := by decide +kernel
def tX0_consider_0 : Nat → Option am_Act := am_nd 26 (am_nd 14 (am_nd 7 (am_nd 1 (am_lf 0 (a_aload 0 1)) (am_nd 4 (am_lf 1 (a_get tT 0 0 4)) (am_lf 4 (a_get tT 10 11 7)))) (am_nd 8 (am_lf 7 (a_aload 0 8)) (am_nd 11 (am_lf 8 (a_get tT 0 2 11)) (am_lf 11 (a_cvI tT mX5_aloneAmong 5 1 14))))) (am_nd 19 (am_nd 17 (am_lf 14 (a_csI mJ6_bitCount_0f7a4 1 17)) (am_nd 18 (am_lf 17 (a_istore 2 18)) (am_lf 18 (a_iload 2 19)))) (am_nd 20 (am_lf 19 (a_aload 0 20)) (am_nd 23 (am_lf 20 (a_get tT 0 5 23)) (am_lf 23 (a_cmp (fun x y => x ≤ y) 45 26)))))) (am_nd 36 (am_nd 31 (am_nd 27 (am_lf 26 (a_aload 0 27)) (am_nd 28 (am_lf 27 (a_iload 2 28)) (am_lf 28 (a_put tT 0 5 31)))) (am_nd 32 (am_lf 31 (a_aload 0 32)) (am_nd 35 (am_lf 32 (a_get tT 0 7 35)) (am_lf 35 (a_const (nI 0) 36))))) (am_nd 41 (am_nd 37 (am_lf 36 (a_aload 0 37)) (am_nd 40 (am_lf 37 (a_get tT 0 6 40)) (am_lf 40 (a_const (nI 0) 41)))) (am_nd 42 (am_lf 41 (a_iload 1 42)) (am_nd 45 (am_lf 42 (a_copy tT 45)) (am_lf 45 (a_ret))))))
theorem gX0_consider_0 : am_Good tT mX0_consider tX0_consider_0 := am_nd_ok (am_nd_ok (am_nd_ok (am_nd_ok (am_lf_ok (fun _ => ok_aload_n dX0_consider_0 rfl rfl)) (am_nd_ok (am_lf_ok (fun _ => ok_get (C := RX0) (TT := TX0) (N := 8) rfl inw_X0 (Nat.le_of_ble_eq_true rfl) wd_12 dX0_consider_1 rfl)) (am_lf_ok (fun _ => ok_get (C := RX10) (TT := TX10) (N := 14) rfl inw_X10 (Nat.le_of_ble_eq_true rfl) wd_13 dX0_consider_4 rfl)))) (am_nd_ok (am_lf_ok (fun _ => ok_aload_n dX0_consider_7 rfl rfl)) (am_nd_ok (am_lf_ok (fun _ => ok_get (C := RX0) (TT := TX0) (N := 8) rfl inw_X0 (Nat.le_of_ble_eq_true rfl) wd_0 dX0_consider_8 rfl)) (am_lf_ok (fun _ => ok_cvI rfl mw_X5_aloneAmong (ci := 5) rfl rfl wd_26 wd_27 wd_28 dX0_consider_11 rfl))))) (am_nd_ok (am_nd_ok (am_lf_ok (fun _ => ok_csI rfl mw_J6_bitCount_0f7a4 wd_1 wd_2 dX0_consider_14 rfl)) (am_nd_ok (am_lf_ok (fun _ => ok_istore_n dX0_consider_17 rfl (Nat.le_of_ble_eq_true rfl) rfl)) (am_lf_ok (fun _ => ok_iload_n dX0_consider_18 rfl rfl)))) (am_nd_ok (am_lf_ok (fun _ => ok_aload_n dX0_consider_19 rfl rfl)) (am_nd_ok (am_lf_ok (fun _ => ok_get (C := RX0) (TT := TX0) (N := 8) rfl inw_X0 (Nat.le_of_ble_eq_true rfl) wd_5 dX0_consider_20 rfl)) (am_lf_ok (fun _ => ok_cmp_le dX0_consider_23 rfl rfl)))))) (am_nd_ok (am_nd_ok (am_nd_ok (am_lf_ok (fun _ => ok_aload_n dX0_consider_26 rfl rfl)) (am_nd_ok (am_lf_ok (fun _ => ok_iload_n dX0_consider_27 rfl rfl)) (am_lf_ok (fun _ => ok_put (C := RX0) (TT := TX0) (N := 8) (ty0 := tyX0) rfl inw_X0 tyX0_ok nmX0 (Nat.le_of_ble_eq_true rfl) rfl rfl wd_5 dX0_consider_28 rfl)))) (am_nd_ok (am_lf_ok (fun _ => ok_aload_n dX0_consider_31 rfl rfl)) (am_nd_ok (am_lf_ok (fun _ => ok_get (C := RX0) (TT := TX0) (N := 8) rfl inw_X0 (Nat.le_of_ble_eq_true rfl) wd_19 dX0_consider_32 rfl)) (am_lf_ok (fun _ => ok_iconst dX0_consider_35 cv_iconst_0 rfl))))) (am_nd_ok (am_nd_ok (am_lf_ok (fun _ => ok_aload_n dX0_consider_36 rfl rfl)) (am_nd_ok (am_lf_ok (fun _ => ok_get (C := RX0) (TT := TX0) (N := 8) rfl inw_X0 (Nat.le_of_ble_eq_true rfl) wd_29 dX0_consider_37 rfl)) (am_lf_ok (fun _ => ok_iconst dX0_consider_40 cv_iconst_0 rfl)))) (am_nd_ok (am_lf_ok (fun _ => ok_iload_n dX0_consider_41 rfl rfl)) (am_nd_ok (am_lf_ok (fun _ => ok_copy wd_30 wd_31 wd_32 wd_33 dX0_consider_42 rfl)) (am_lf_ok (fun _ => ok_ret rfl dX0_consider_45))))))
def tX0_consider : Nat → Option am_Act := tX0_consider_0
theorem gX0_consider : am_Good tT mX0_consider tX0_consider := gX0_consider_0
