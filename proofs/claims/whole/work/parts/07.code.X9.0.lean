/-! ===== code of TollOfNames$Walk ===== -/
theorem dX9_startWay_0 : decode cX9_startWay 0 = .ok (.aload_n 0, 1) := by decide +kernel
theorem dX9_startWay_1 : decode cX9_startWay 1 = .ok (.getfield 9, 3) := by decide +kernel
theorem dX9_startWay_4 : decode cX9_startWay 4 = .ok (.iconst 0, 1) := by decide +kernel
theorem dX9_startWay_5 : decode cX9_startWay 5 = .ok (.iload_n 1, 1) := by decide +kernel
theorem dX9_startWay_6 : decode cX9_startWay 6 = .ok (.iastore, 1) := by decide +kernel
theorem dX9_startWay_7 : decode cX9_startWay 7 = .ok (.aload_n 0, 1) := by decide +kernel
theorem dX9_startWay_8 : decode cX9_startWay 8 = .ok (.getfield 9, 3) := by decide +kernel
theorem dX9_startWay_11 : decode cX9_startWay 11 = .ok (.iconst 1, 1) := by decide +kernel
theorem dX9_startWay_12 : decode cX9_startWay 12 = .ok (.iload_n 2, 1) := by decide +kernel
theorem dX9_startWay_13 : decode cX9_startWay 13 = .ok (.iastore, 1) := by decide +kernel
theorem dX9_startWay_14 : decode cX9_startWay 14 = .ok (.aload_n 0, 1) := by decide +kernel
theorem dX9_startWay_15 : decode cX9_startWay 15 = .ok (.getfield 9, 3) := by decide +kernel
theorem dX9_startWay_18 : decode cX9_startWay 18 = .ok (.iconst 2, 1) := by decide +kernel
theorem dX9_startWay_19 : decode cX9_startWay 19 = .ok (.iload_n 3, 1) := by decide +kernel
theorem dX9_startWay_20 : decode cX9_startWay 20 = .ok (.iastore, 1) := by decide +kernel
theorem dX9_startWay_21 : decode cX9_startWay 21 = .ok (.aload_n 0, 1) := by decide +kernel
theorem dX9_startWay_22 : decode cX9_startWay 22 = .ok (.getfield 9, 3) := by decide +kernel
theorem dX9_startWay_25 : decode cX9_startWay 25 = .ok (.iconst 3, 1) := by decide +kernel
theorem dX9_startWay_26 : decode cX9_startWay 26 = .ok (.iload 4, 2) := by decide +kernel
theorem dX9_startWay_28 : decode cX9_startWay 28 = .ok (.iastore, 1) := by decide +kernel
theorem dX9_startWay_29 : decode cX9_startWay 29 = .ok (.aload_n 0, 1) := by decide +kernel
theorem dX9_startWay_30 : decode cX9_startWay 30 = .ok (.getfield 9, 3) := by decide +kernel
theorem dX9_startWay_33 : decode cX9_startWay 33 = .ok (.iconst 4, 1) := by decide +kernel
theorem dX9_startWay_34 : decode cX9_startWay 34 = .ok (.iload 5, 2) := by decide +kernel
theorem dX9_startWay_36 : decode cX9_startWay 36 = .ok (.iastore, 1) := by decide +kernel
theorem dX9_startWay_37 : decode cX9_startWay 37 = .ok (.aload_n 0, 1) := by decide +kernel
theorem dX9_startWay_38 : decode cX9_startWay 38 = .ok (.iconst 0, 1) := by decide +kernel
theorem dX9_startWay_39 : decode cX9_startWay 39 = .ok (.putfield 29, 3) := by decide +kernel
theorem dX9_startWay_42 : decode cX9_startWay 42 = .ok (.aload_n 0, 1) := by decide +kernel
theorem dX9_startWay_43 : decode cX9_startWay 43 = .ok (.getfield 29, 3) := by decide +kernel
theorem dX9_startWay_46 : decode cX9_startWay 46 = .ok (.iconst 5, 1) := by decide +kernel
theorem dX9_startWay_47 : decode cX9_startWay 47 = .ok (.if_icmp .ge 29, 3) := by decide +kernel
theorem dX9_startWay_50 : decode cX9_startWay 50 = .ok (.aload_n 0, 1) := by decide +kernel
theorem dX9_startWay_51 : decode cX9_startWay 51 = .ok (.getfield 9, 3) := by decide +kernel
theorem dX9_startWay_54 : decode cX9_startWay 54 = .ok (.aload_n 0, 1) := by decide +kernel
theorem dX9_startWay_55 : decode cX9_startWay 55 = .ok (.getfield 29, 3) := by decide +kernel
theorem dX9_startWay_58 : decode cX9_startWay 58 = .ok (.iaload, 1) := by decide +kernel
theorem dX9_startWay_59 : decode cX9_startWay 59 = .ok (.iconst (-1), 1) := by decide +kernel
theorem dX9_startWay_60 : decode cX9_startWay 60 = .ok (.if_icmp .eq 16, 3) := by decide +kernel
theorem dX9_startWay_63 : decode cX9_startWay 63 = .ok (.aload_n 0, 1) := by decide +kernel
theorem dX9_startWay_64 : decode cX9_startWay 64 = .ok (.dup, 1) := by decide +kernel
theorem dX9_startWay_65 : decode cX9_startWay 65 = .ok (.getfield 29, 3) := by decide +kernel
theorem dX9_startWay_68 : decode cX9_startWay 68 = .ok (.iconst 1, 1) := by decide +kernel
theorem dX9_startWay_69 : decode cX9_startWay 69 = .ok (.iadd, 1) := by decide +kernel
theorem dX9_startWay_70 : decode cX9_startWay 70 = .ok (.putfield 29, 3) := by decide +kernel
theorem dX9_startWay_73 : decode cX9_startWay 73 = .ok (.goto (-31), 3) := by decide +kernel
theorem dX9_startWay_76 : decode cX9_startWay 76 = .ok (.return_, 1) := by decide +kernel
def tX9_startWay_0 : Nat → Option am_Act := am_nd 18 (am_nd 8 (am_nd 5 (am_nd 1 (am_lf 0 (a_aload 0 1)) (am_nd 4 (am_lf 1 (a_get tT 9 2 4)) (am_lf 4 (a_const (nI 0) 5)))) (am_nd 6 (am_lf 5 (a_iload 1 6)) (am_nd 7 (am_lf 6 (a_iast tT 7)) (am_lf 7 (a_aload 0 8))))) (am_nd 13 (am_nd 11 (am_lf 8 (a_get tT 9 2 11)) (am_nd 12 (am_lf 11 (a_const (nI 1) 12)) (am_lf 12 (a_iload 2 13)))) (am_nd 14 (am_lf 13 (a_iast tT 14)) (am_nd 15 (am_lf 14 (a_aload 0 15)) (am_lf 15 (a_get tT 9 2 18)))))) (am_nd 26 (am_nd 21 (am_nd 19 (am_lf 18 (a_const (nI 2) 19)) (am_nd 20 (am_lf 19 (a_iload 3 20)) (am_lf 20 (a_iast tT 21)))) (am_nd 22 (am_lf 21 (a_aload 0 22)) (am_nd 25 (am_lf 22 (a_get tT 9 2 25)) (am_lf 25 (a_const (nI 3) 26))))) (am_nd 30 (am_nd 28 (am_lf 26 (a_iload 4 28)) (am_nd 29 (am_lf 28 (a_iast tT 29)) (am_lf 29 (a_aload 0 30)))) (am_nd 33 (am_lf 30 (a_get tT 9 2 33)) (am_nd 34 (am_lf 33 (a_const (nI 4) 34)) (am_lf 34 (a_iload 5 36))))))
theorem gX9_startWay_0 : am_Good tT mX9_startWay tX9_startWay_0 := am_nd_ok (am_nd_ok (am_nd_ok (am_nd_ok (am_lf_ok (fun _ => ok_aload_n dX9_startWay_0 rfl rfl)) (am_nd_ok (am_lf_ok (fun _ => ok_get (C := RX9) (TT := TX9) (N := 7) rfl inw_X9 (Nat.le_of_ble_eq_true rfl) wd_233 dX9_startWay_1 rfl)) (am_lf_ok (fun _ => ok_iconst dX9_startWay_4 cv_iconst_0 rfl)))) (am_nd_ok (am_lf_ok (fun _ => ok_iload_n dX9_startWay_5 rfl rfl)) (am_nd_ok (am_lf_ok (fun _ => ok_iast dX9_startWay_6 rfl)) (am_lf_ok (fun _ => ok_aload_n dX9_startWay_7 rfl rfl))))) (am_nd_ok (am_nd_ok (am_lf_ok (fun _ => ok_get (C := RX9) (TT := TX9) (N := 7) rfl inw_X9 (Nat.le_of_ble_eq_true rfl) wd_233 dX9_startWay_8 rfl)) (am_nd_ok (am_lf_ok (fun _ => ok_iconst dX9_startWay_11 cv_iconst_1 rfl)) (am_lf_ok (fun _ => ok_iload_n dX9_startWay_12 rfl rfl)))) (am_nd_ok (am_lf_ok (fun _ => ok_iast dX9_startWay_13 rfl)) (am_nd_ok (am_lf_ok (fun _ => ok_aload_n dX9_startWay_14 rfl rfl)) (am_lf_ok (fun _ => ok_get (C := RX9) (TT := TX9) (N := 7) rfl inw_X9 (Nat.le_of_ble_eq_true rfl) wd_233 dX9_startWay_15 rfl)))))) (am_nd_ok (am_nd_ok (am_nd_ok (am_lf_ok (fun _ => ok_iconst dX9_startWay_18 cv_iconst_2 rfl)) (am_nd_ok (am_lf_ok (fun _ => ok_iload_n dX9_startWay_19 rfl rfl)) (am_lf_ok (fun _ => ok_iast dX9_startWay_20 rfl)))) (am_nd_ok (am_lf_ok (fun _ => ok_aload_n dX9_startWay_21 rfl rfl)) (am_nd_ok (am_lf_ok (fun _ => ok_get (C := RX9) (TT := TX9) (N := 7) rfl inw_X9 (Nat.le_of_ble_eq_true rfl) wd_233 dX9_startWay_22 rfl)) (am_lf_ok (fun _ => ok_iconst dX9_startWay_25 cv_iconst_3 rfl))))) (am_nd_ok (am_nd_ok (am_lf_ok (fun _ => ok_iload dX9_startWay_26 rfl)) (am_nd_ok (am_lf_ok (fun _ => ok_iast dX9_startWay_28 rfl)) (am_lf_ok (fun _ => ok_aload_n dX9_startWay_29 rfl rfl)))) (am_nd_ok (am_lf_ok (fun _ => ok_get (C := RX9) (TT := TX9) (N := 7) rfl inw_X9 (Nat.le_of_ble_eq_true rfl) wd_233 dX9_startWay_30 rfl)) (am_nd_ok (am_lf_ok (fun _ => ok_iconst dX9_startWay_33 cv_iconst_4 rfl)) (am_lf_ok (fun _ => ok_iload dX9_startWay_34 rfl))))))
def tX9_startWay_1 : Nat → Option am_Act := am_nd 55 (am_nd 43 (am_nd 38 (am_nd 37 (am_lf 36 (a_iast tT 37)) (am_lf 37 (a_aload 0 38))) (am_nd 39 (am_lf 38 (a_const (nI 0) 39)) (am_nd 42 (am_lf 39 (a_put tT 9 3 42)) (am_lf 42 (a_aload 0 43))))) (am_nd 50 (am_nd 46 (am_lf 43 (a_get tT 9 3 46)) (am_nd 47 (am_lf 46 (a_const (nI 5) 47)) (am_lf 47 (a_cmp (fun x y => y ≤ x) 76 50)))) (am_nd 51 (am_lf 50 (a_aload 0 51)) (am_nd 54 (am_lf 51 (a_get tT 9 2 54)) (am_lf 54 (a_aload 0 55)))))) (am_nd 65 (am_nd 60 (am_nd 58 (am_lf 55 (a_get tT 9 3 58)) (am_nd 59 (am_lf 58 (a_iald tT 59)) (am_lf 59 (a_const (-1) 60)))) (am_nd 63 (am_lf 60 (a_cmp (fun x y => x = y) 76 63)) (am_nd 64 (am_lf 63 (a_aload 0 64)) (am_lf 64 (a_dup 65))))) (am_nd 70 (am_nd 68 (am_lf 65 (a_get tT 9 3 68)) (am_nd 69 (am_lf 68 (a_const (nI 1) 69)) (am_lf 69 (a_bin (fun x y => x + y) 70)))) (am_nd 73 (am_lf 70 (a_put tT 9 3 73)) (am_nd 76 (am_lf 73 (a_goto 42)) (am_lf 76 (a_ret))))))
theorem gX9_startWay_1 : am_Good tT mX9_startWay tX9_startWay_1 := am_nd_ok (am_nd_ok (am_nd_ok (am_nd_ok (am_lf_ok (fun _ => ok_iast dX9_startWay_36 rfl)) (am_lf_ok (fun _ => ok_aload_n dX9_startWay_37 rfl rfl))) (am_nd_ok (am_lf_ok (fun _ => ok_iconst dX9_startWay_38 cv_iconst_0 rfl)) (am_nd_ok (am_lf_ok (fun _ => ok_put (C := RX9) (TT := TX9) (N := 7) (ty0 := tyX9) rfl inw_X9 tyX9_ok nmX9 (Nat.le_of_ble_eq_true rfl) rfl rfl wd_234 dX9_startWay_39 rfl)) (am_lf_ok (fun _ => ok_aload_n dX9_startWay_42 rfl rfl))))) (am_nd_ok (am_nd_ok (am_lf_ok (fun _ => ok_get (C := RX9) (TT := TX9) (N := 7) rfl inw_X9 (Nat.le_of_ble_eq_true rfl) wd_234 dX9_startWay_43 rfl)) (am_nd_ok (am_lf_ok (fun _ => ok_iconst dX9_startWay_46 cv_iconst_5 rfl)) (am_lf_ok (fun _ => ok_cmp_ge dX9_startWay_47 rfl rfl)))) (am_nd_ok (am_lf_ok (fun _ => ok_aload_n dX9_startWay_50 rfl rfl)) (am_nd_ok (am_lf_ok (fun _ => ok_get (C := RX9) (TT := TX9) (N := 7) rfl inw_X9 (Nat.le_of_ble_eq_true rfl) wd_233 dX9_startWay_51 rfl)) (am_lf_ok (fun _ => ok_aload_n dX9_startWay_54 rfl rfl)))))) (am_nd_ok (am_nd_ok (am_nd_ok (am_lf_ok (fun _ => ok_get (C := RX9) (TT := TX9) (N := 7) rfl inw_X9 (Nat.le_of_ble_eq_true rfl) wd_234 dX9_startWay_55 rfl)) (am_nd_ok (am_lf_ok (fun _ => ok_iald dX9_startWay_58 rfl)) (am_lf_ok (fun _ => ok_iconst dX9_startWay_59 cv_iconst_m1 rfl)))) (am_nd_ok (am_lf_ok (fun _ => ok_cmp_eq dX9_startWay_60 rfl rfl)) (am_nd_ok (am_lf_ok (fun _ => ok_aload_n dX9_startWay_63 rfl rfl)) (am_lf_ok (fun _ => ok_dup dX9_startWay_64 rfl))))) (am_nd_ok (am_nd_ok (am_lf_ok (fun _ => ok_get (C := RX9) (TT := TX9) (N := 7) rfl inw_X9 (Nat.le_of_ble_eq_true rfl) wd_234 dX9_startWay_65 rfl)) (am_nd_ok (am_lf_ok (fun _ => ok_iconst dX9_startWay_68 cv_iconst_1 rfl)) (am_lf_ok (fun _ => ok_iadd dX9_startWay_69 rfl)))) (am_nd_ok (am_lf_ok (fun _ => ok_put (C := RX9) (TT := TX9) (N := 7) (ty0 := tyX9) rfl inw_X9 tyX9_ok nmX9 (Nat.le_of_ble_eq_true rfl) rfl rfl wd_234 dX9_startWay_70 rfl)) (am_nd_ok (am_lf_ok (fun _ => ok_goto dX9_startWay_73 rfl)) (am_lf_ok (fun _ => ok_ret rfl dX9_startWay_76))))))
def tX9_startWay : Nat → Option am_Act := am_nd 36 (tX9_startWay_0) (tX9_startWay_1)
theorem gX9_startWay : am_Good tT mX9_startWay tX9_startWay := am_nd_ok (gX9_startWay_0) (gX9_startWay_1)
theorem dX9_startRound_0 : decode cX9_startRound 0 = .ok (.aload_n 0, 1) := by decide +kernel
theorem dX9_startRound_1 : decode cX9_startRound 1 = .ok (.getfield 21, 3) := by decide +kernel
theorem dX9_startRound_4 : decode cX9_startRound 4 = .ok (.getfield 33, 3) := by decide +kernel
theorem dX9_startRound_7 : decode cX9_startRound 7 = .ok (.iconst 0, 1) := by decide +kernel
theorem dX9_startRound_8 : decode cX9_startRound 8 = .ok (.aload_n 0, 1) := by decide +kernel
theorem dX9_startRound_9 : decode cX9_startRound 9 = .ok (.getfield 9, 3) := by decide +kernel
theorem dX9_startRound_12 : decode cX9_startRound 12 = .ok (.iconst 0, 1) := by decide +kernel
theorem dX9_startRound_13 : decode cX9_startRound 13 = .ok (.bipush 12, 2) := by decide +kernel
theorem dX9_startRound_15 : decode cX9_startRound 15 = .ok (.invokestatic 38, 3) := by decide +kernel
theorem dX9_startRound_18 : decode cX9_startRound 18 = .ok (.aload_n 0, 1) := by decide +kernel
theorem dX9_startRound_19 : decode cX9_startRound 19 = .ok (.aload_n 0, 1) := by decide +kernel
theorem dX9_startRound_20 : decode cX9_startRound 20 = .ok (.getfield 21, 3) := by decide +kernel
theorem dX9_startRound_23 : decode cX9_startRound 23 = .ok (.getfield 44, 3) := by decide +kernel
theorem dX9_startRound_26 : decode cX9_startRound 26 = .ok (.putfield 29, 3) := by decide +kernel
theorem dX9_startRound_29 : decode cX9_startRound 29 = .ok (.return_, 1) := by decide +kernel
def tX9_startRound_0 : Nat → Option am_Act := am_nd 13 (am_nd 7 (am_nd 1 (am_lf 0 (a_aload 0 1)) (am_nd 4 (am_lf 1 (a_get tT 9 0 4)) (am_lf 4 (a_get tT 10 10 7)))) (am_nd 9 (am_nd 8 (am_lf 7 (a_const (nI 0) 8)) (am_lf 8 (a_aload 0 9))) (am_nd 12 (am_lf 9 (a_get tT 9 2 12)) (am_lf 12 (a_const (nI 0) 13))))) (am_nd 20 (am_nd 18 (am_nd 15 (am_lf 13 (a_const (nI 12) 15)) (am_lf 15 (a_copy tT 18))) (am_nd 19 (am_lf 18 (a_aload 0 19)) (am_lf 19 (a_aload 0 20)))) (am_nd 26 (am_nd 23 (am_lf 20 (a_get tT 9 0 23)) (am_lf 23 (a_get tT 10 9 26))) (am_nd 29 (am_lf 26 (a_put tT 9 3 29)) (am_lf 29 (a_ret)))))
theorem gX9_startRound_0 : am_Good tT mX9_startRound tX9_startRound_0 := am_nd_ok (am_nd_ok (am_nd_ok (am_lf_ok (fun _ => ok_aload_n dX9_startRound_0 rfl rfl)) (am_nd_ok (am_lf_ok (fun _ => ok_get (C := RX9) (TT := TX9) (N := 7) rfl inw_X9 (Nat.le_of_ble_eq_true rfl) wd_235 dX9_startRound_1 rfl)) (am_lf_ok (fun _ => ok_get (C := RX10) (TT := TX10) (N := 14) rfl inw_X10 (Nat.le_of_ble_eq_true rfl) wd_236 dX9_startRound_4 rfl)))) (am_nd_ok (am_nd_ok (am_lf_ok (fun _ => ok_iconst dX9_startRound_7 cv_iconst_0 rfl)) (am_lf_ok (fun _ => ok_aload_n dX9_startRound_8 rfl rfl))) (am_nd_ok (am_lf_ok (fun _ => ok_get (C := RX9) (TT := TX9) (N := 7) rfl inw_X9 (Nat.le_of_ble_eq_true rfl) wd_233 dX9_startRound_9 rfl)) (am_lf_ok (fun _ => ok_iconst dX9_startRound_12 cv_iconst_0 rfl))))) (am_nd_ok (am_nd_ok (am_nd_ok (am_lf_ok (fun _ => ok_bipush dX9_startRound_13 cv_bipush_12 rfl)) (am_lf_ok (fun _ => ok_copy wd_237 wd_31 wd_32 wd_33 dX9_startRound_15 rfl))) (am_nd_ok (am_lf_ok (fun _ => ok_aload_n dX9_startRound_18 rfl rfl)) (am_lf_ok (fun _ => ok_aload_n dX9_startRound_19 rfl rfl)))) (am_nd_ok (am_nd_ok (am_lf_ok (fun _ => ok_get (C := RX9) (TT := TX9) (N := 7) rfl inw_X9 (Nat.le_of_ble_eq_true rfl) wd_235 dX9_startRound_20 rfl)) (am_lf_ok (fun _ => ok_get (C := RX10) (TT := TX10) (N := 14) rfl inw_X10 (Nat.le_of_ble_eq_true rfl) wd_238 dX9_startRound_23 rfl))) (am_nd_ok (am_lf_ok (fun _ => ok_put (C := RX9) (TT := TX9) (N := 7) (ty0 := tyX9) rfl inw_X9 tyX9_ok nmX9 (Nat.le_of_ble_eq_true rfl) rfl rfl wd_234 dX9_startRound_26 rfl)) (am_lf_ok (fun _ => ok_ret rfl dX9_startRound_29)))))
def tX9_startRound : Nat → Option am_Act := tX9_startRound_0
theorem gX9_startRound : am_Good tT mX9_startRound tX9_startRound := gX9_startRound_0
theorem dX9_canBe_0 : decode cX9_canBe 0 = .ok (.iload_n 1, 1) := by decide +kernel
theorem dX9_canBe_1 : decode cX9_canBe 1 = .ok (.istore_n 2, 1) := by decide +kernel
theorem dX9_canBe_2 : decode cX9_canBe 2 = .ok (.iconst 0, 1) := by decide +kernel
theorem dX9_canBe_3 : decode cX9_canBe 3 = .ok (.istore_n 3, 1) := by decide +kernel
theorem dX9_canBe_4 : decode cX9_canBe 4 = .ok (.iload_n 3, 1) := by decide +kernel
theorem dX9_canBe_5 : decode cX9_canBe 5 = .ok (.aload_n 0, 1) := by decide +kernel
theorem dX9_canBe_6 : decode cX9_canBe 6 = .ok (.getfield 29, 3) := by decide +kernel
theorem dX9_canBe_9 : decode cX9_canBe 9 = .ok (.if_icmp .ge 65, 3) := by decide +kernel
theorem dX9_canBe_12 : decode cX9_canBe 12 = .ok (.aload_n 0, 1) := by decide +kernel
theorem dX9_canBe_13 : decode cX9_canBe 13 = .ok (.getfield 21, 3) := by decide +kernel
theorem dX9_canBe_16 : decode cX9_canBe 16 = .ok (.aload_n 0, 1) := by decide +kernel
theorem dX9_canBe_17 : decode cX9_canBe 17 = .ok (.getfield 9, 3) := by decide +kernel
theorem dX9_canBe_20 : decode cX9_canBe 20 = .ok (.iload_n 3, 1) := by decide +kernel
theorem dX9_canBe_21 : decode cX9_canBe 21 = .ok (.iaload, 1) := by decide +kernel
theorem dX9_canBe_22 : decode cX9_canBe 22 = .ok (.invokevirtual 47, 3) := by decide +kernel
theorem dX9_canBe_25 : decode cX9_canBe 25 = .ok (.ifCond .eq 23, 3) := by decide +kernel
theorem dX9_canBe_28 : decode cX9_canBe 28 = .ok (.aload_n 0, 1) := by decide +kernel
theorem dX9_canBe_29 : decode cX9_canBe 29 = .ok (.getfield 21, 3) := by decide +kernel
theorem dX9_canBe_32 : decode cX9_canBe 32 = .ok (.getfield 51, 3) := by decide +kernel
theorem dX9_canBe_35 : decode cX9_canBe 35 = .ok (.aload_n 0, 1) := by decide +kernel
theorem dX9_canBe_36 : decode cX9_canBe 36 = .ok (.getfield 9, 3) := by decide +kernel
theorem dX9_canBe_39 : decode cX9_canBe 39 = .ok (.iload_n 3, 1) := by decide +kernel
theorem dX9_canBe_40 : decode cX9_canBe 40 = .ok (.iaload, 1) := by decide +kernel
theorem dX9_canBe_41 : decode cX9_canBe 41 = .ok (.iload_n 2, 1) := by decide +kernel
theorem dX9_canBe_42 : decode cX9_canBe 42 = .ok (.invokevirtual 55, 3) := by decide +kernel
theorem dX9_canBe_45 : decode cX9_canBe 45 = .ok (.ifCond .ne 5, 3) := by decide +kernel
theorem dX9_canBe_48 : decode cX9_canBe 48 = .ok (.iconst 0, 1) := by decide +kernel
theorem dX9_canBe_49 : decode cX9_canBe 49 = .ok (.ireturn, 1) := by decide +kernel
theorem dX9_canBe_50 : decode cX9_canBe 50 = .ok (.aload_n 0, 1) := by decide +kernel
theorem dX9_canBe_51 : decode cX9_canBe 51 = .ok (.getfield 21, 3) := by decide +kernel
theorem dX9_canBe_54 : decode cX9_canBe 54 = .ok (.getfield 51, 3) := by decide +kernel
theorem dX9_canBe_57 : decode cX9_canBe 57 = .ok (.aload_n 0, 1) := by decide +kernel
theorem dX9_canBe_58 : decode cX9_canBe 58 = .ok (.getfield 9, 3) := by decide +kernel
theorem dX9_canBe_61 : decode cX9_canBe 61 = .ok (.iload_n 3, 1) := by decide +kernel
theorem dX9_canBe_62 : decode cX9_canBe 62 = .ok (.iaload, 1) := by decide +kernel
theorem dX9_canBe_63 : decode cX9_canBe 63 = .ok (.iload_n 2, 1) := by decide +kernel
theorem dX9_canBe_64 : decode cX9_canBe 64 = .ok (.invokevirtual 61, 3) := by decide +kernel
theorem dX9_canBe_67 : decode cX9_canBe 67 = .ok (.istore_n 2, 1) := by decide +kernel
theorem dX9_canBe_68 : decode cX9_canBe 68 = .ok (.iinc 3 1, 3) := by decide +kernel
theorem dX9_canBe_71 : decode cX9_canBe 71 = .ok (.goto (-67), 3) := by decide +kernel
theorem dX9_canBe_74 : decode cX9_canBe 74 = .ok (.aload_n 0, 1) := by decide +kernel
theorem dX9_canBe_75 : decode cX9_canBe 75 = .ok (.getfield 29, 3) := by decide +kernel
theorem dX9_canBe_78 : decode cX9_canBe 78 = .ok (.ifCond .le 7, 3) := by decide +kernel
theorem dX9_canBe_81 : decode cX9_canBe 81 = .ok (.iconst 1, 1) := by decide +kernel
theorem dX9_canBe_82 : decode cX9_canBe 82 = .ok (.goto 4, 3) := by decide +kernel
theorem dX9_canBe_85 : decode cX9_canBe 85 = .ok (.iconst 0, 1) := by decide +kernel
theorem dX9_canBe_86 : decode cX9_canBe 86 = .ok (.ireturn, 1) := by decide +kernel
def tX9_canBe_0 : Nat → Option am_Act := am_nd 20 (am_nd 6 (am_nd 3 (am_nd 1 (am_lf 0 (a_iload 1 1)) (am_nd 2 (am_lf 1 (a_istore 2 2)) (am_lf 2 (a_const (nI 0) 3)))) (am_nd 4 (am_lf 3 (a_istore 3 4)) (am_nd 5 (am_lf 4 (a_iload 3 5)) (am_lf 5 (a_aload 0 6))))) (am_nd 13 (am_nd 9 (am_lf 6 (a_get tT 9 3 9)) (am_nd 12 (am_lf 9 (a_cmp (fun x y => y ≤ x) 74 12)) (am_lf 12 (a_aload 0 13)))) (am_nd 16 (am_lf 13 (a_get tT 9 0 16)) (am_nd 17 (am_lf 16 (a_aload 0 17)) (am_lf 17 (a_get tT 9 2 20)))))) (am_nd 32 (am_nd 25 (am_nd 21 (am_lf 20 (a_iload 3 21)) (am_nd 22 (am_lf 21 (a_iald tT 22)) (am_lf 22 (a_cvI tT mX10_isBridge 10 1 25)))) (am_nd 28 (am_lf 25 (a_if (fun x => x = nI 0) 48 28)) (am_nd 29 (am_lf 28 (a_aload 0 29)) (am_lf 29 (a_get tT 9 0 32))))) (am_nd 39 (am_nd 35 (am_lf 32 (a_get tT 10 12 35)) (am_nd 36 (am_lf 35 (a_aload 0 36)) (am_lf 36 (a_get tT 9 2 39)))) (am_nd 40 (am_lf 39 (a_iload 3 40)) (am_nd 41 (am_lf 40 (a_iald tT 41)) (am_lf 41 (a_iload 2 42))))))
theorem gX9_canBe_0 : am_Good tT mX9_canBe tX9_canBe_0 := am_nd_ok (am_nd_ok (am_nd_ok (am_nd_ok (am_lf_ok (fun _ => ok_iload_n dX9_canBe_0 rfl rfl)) (am_nd_ok (am_lf_ok (fun _ => ok_istore_n dX9_canBe_1 rfl (Nat.le_of_ble_eq_true rfl) rfl)) (am_lf_ok (fun _ => ok_iconst dX9_canBe_2 cv_iconst_0 rfl)))) (am_nd_ok (am_lf_ok (fun _ => ok_istore_n dX9_canBe_3 rfl (Nat.le_of_ble_eq_true rfl) rfl)) (am_nd_ok (am_lf_ok (fun _ => ok_iload_n dX9_canBe_4 rfl rfl)) (am_lf_ok (fun _ => ok_aload_n dX9_canBe_5 rfl rfl))))) (am_nd_ok (am_nd_ok (am_lf_ok (fun _ => ok_get (C := RX9) (TT := TX9) (N := 7) rfl inw_X9 (Nat.le_of_ble_eq_true rfl) wd_234 dX9_canBe_6 rfl)) (am_nd_ok (am_lf_ok (fun _ => ok_cmp_ge dX9_canBe_9 rfl rfl)) (am_lf_ok (fun _ => ok_aload_n dX9_canBe_12 rfl rfl)))) (am_nd_ok (am_lf_ok (fun _ => ok_get (C := RX9) (TT := TX9) (N := 7) rfl inw_X9 (Nat.le_of_ble_eq_true rfl) wd_235 dX9_canBe_13 rfl)) (am_nd_ok (am_lf_ok (fun _ => ok_aload_n dX9_canBe_16 rfl rfl)) (am_lf_ok (fun _ => ok_get (C := RX9) (TT := TX9) (N := 7) rfl inw_X9 (Nat.le_of_ble_eq_true rfl) wd_233 dX9_canBe_17 rfl)))))) (am_nd_ok (am_nd_ok (am_nd_ok (am_lf_ok (fun _ => ok_iload_n dX9_canBe_20 rfl rfl)) (am_nd_ok (am_lf_ok (fun _ => ok_iald dX9_canBe_21 rfl)) (am_lf_ok (fun _ => ok_cvI rfl mw_X10_isBridge (ci := 10) rfl rfl wd_239 wd_240 wd_241 dX9_canBe_22 rfl)))) (am_nd_ok (am_lf_ok (fun _ => ok_if_eq dX9_canBe_25 rfl rfl)) (am_nd_ok (am_lf_ok (fun _ => ok_aload_n dX9_canBe_28 rfl rfl)) (am_lf_ok (fun _ => ok_get (C := RX9) (TT := TX9) (N := 7) rfl inw_X9 (Nat.le_of_ble_eq_true rfl) wd_235 dX9_canBe_29 rfl))))) (am_nd_ok (am_nd_ok (am_lf_ok (fun _ => ok_get (C := RX10) (TT := TX10) (N := 14) rfl inw_X10 (Nat.le_of_ble_eq_true rfl) wd_242 dX9_canBe_32 rfl)) (am_nd_ok (am_lf_ok (fun _ => ok_aload_n dX9_canBe_35 rfl rfl)) (am_lf_ok (fun _ => ok_get (C := RX9) (TT := TX9) (N := 7) rfl inw_X9 (Nat.le_of_ble_eq_true rfl) wd_233 dX9_canBe_36 rfl)))) (am_nd_ok (am_lf_ok (fun _ => ok_iload_n dX9_canBe_39 rfl rfl)) (am_nd_ok (am_lf_ok (fun _ => ok_iald dX9_canBe_40 rfl)) (am_lf_ok (fun _ => ok_iload_n dX9_canBe_41 rfl rfl))))))
def tX9_canBe_1 : Nat → Option am_Act := am_nd 63 (am_nd 51 (am_nd 48 (am_nd 45 (am_lf 42 (a_cvI tT mX2_touches 2 2 45)) (am_lf 45 (a_if (fun x => x = nI 0) 48 50))) (am_nd 49 (am_lf 48 (a_const (nI 0) 49)) (am_nd 50 (am_lf 49 (a_zret)) (am_lf 50 (a_aload 0 51))))) (am_nd 58 (am_nd 54 (am_lf 51 (a_get tT 9 0 54)) (am_nd 57 (am_lf 54 (a_get tT 10 12 57)) (am_lf 57 (a_aload 0 58)))) (am_nd 61 (am_lf 58 (a_get tT 9 2 61)) (am_nd 62 (am_lf 61 (a_iload 3 62)) (am_lf 62 (a_iald tT 63)))))) (am_nd 75 (am_nd 68 (am_nd 64 (am_lf 63 (a_iload 2 64)) (am_nd 67 (am_lf 64 (a_cvI tT mX2_across 2 2 67)) (am_lf 67 (a_istore 2 68)))) (am_nd 71 (am_lf 68 (a_iinc 3 (nI 1) 71)) (am_nd 74 (am_lf 71 (a_goto 4)) (am_lf 74 (a_aload 0 75))))) (am_nd 82 (am_nd 78 (am_lf 75 (a_get tT 9 3 78)) (am_nd 81 (am_lf 78 (a_if (fun x => x ≤ nI 0) 85 81)) (am_lf 81 (a_const (nI 1) 82)))) (am_nd 85 (am_lf 82 (a_goto 86)) (am_nd 86 (am_lf 85 (a_const (nI 0) 86)) (am_lf 86 (a_zret))))))
theorem gX9_canBe_1 : am_Good tT mX9_canBe tX9_canBe_1 := am_nd_ok (am_nd_ok (am_nd_ok (am_nd_ok (am_lf_ok (fun _ => ok_cvI rfl mw_X2_touches (ci := 2) rfl rfl wd_243 wd_50 wd_51 dX9_canBe_42 rfl)) (am_lf_ok (fun _ => ok_if_ne dX9_canBe_45 rfl rfl))) (am_nd_ok (am_lf_ok (fun _ => ok_iconst dX9_canBe_48 cv_iconst_0 rfl)) (am_nd_ok (am_lf_ok (fun _ => ok_zret rfl dX9_canBe_49)) (am_lf_ok (fun _ => ok_aload_n dX9_canBe_50 rfl rfl))))) (am_nd_ok (am_nd_ok (am_lf_ok (fun _ => ok_get (C := RX9) (TT := TX9) (N := 7) rfl inw_X9 (Nat.le_of_ble_eq_true rfl) wd_235 dX9_canBe_51 rfl)) (am_nd_ok (am_lf_ok (fun _ => ok_get (C := RX10) (TT := TX10) (N := 14) rfl inw_X10 (Nat.le_of_ble_eq_true rfl) wd_242 dX9_canBe_54 rfl)) (am_lf_ok (fun _ => ok_aload_n dX9_canBe_57 rfl rfl)))) (am_nd_ok (am_lf_ok (fun _ => ok_get (C := RX9) (TT := TX9) (N := 7) rfl inw_X9 (Nat.le_of_ble_eq_true rfl) wd_233 dX9_canBe_58 rfl)) (am_nd_ok (am_lf_ok (fun _ => ok_iload_n dX9_canBe_61 rfl rfl)) (am_lf_ok (fun _ => ok_iald dX9_canBe_62 rfl)))))) (am_nd_ok (am_nd_ok (am_nd_ok (am_lf_ok (fun _ => ok_iload_n dX9_canBe_63 rfl rfl)) (am_nd_ok (am_lf_ok (fun _ => ok_cvI rfl mw_X2_across (ci := 2) rfl rfl wd_244 wd_47 wd_48 dX9_canBe_64 rfl)) (am_lf_ok (fun _ => ok_istore_n dX9_canBe_67 rfl (Nat.le_of_ble_eq_true rfl) rfl)))) (am_nd_ok (am_lf_ok (fun _ => ok_iinc dX9_canBe_68 cv_iconst_1 (Nat.le_of_ble_eq_true rfl) rfl)) (am_nd_ok (am_lf_ok (fun _ => ok_goto dX9_canBe_71 rfl)) (am_lf_ok (fun _ => ok_aload_n dX9_canBe_74 rfl rfl))))) (am_nd_ok (am_nd_ok (am_lf_ok (fun _ => ok_get (C := RX9) (TT := TX9) (N := 7) rfl inw_X9 (Nat.le_of_ble_eq_true rfl) wd_234 dX9_canBe_75 rfl)) (am_nd_ok (am_lf_ok (fun _ => ok_if_le dX9_canBe_78 rfl rfl)) (am_lf_ok (fun _ => ok_iconst dX9_canBe_81 cv_iconst_1 rfl)))) (am_nd_ok (am_lf_ok (fun _ => ok_goto dX9_canBe_82 rfl)) (am_nd_ok (am_lf_ok (fun _ => ok_iconst dX9_canBe_85 cv_iconst_0 rfl)) (am_lf_ok (fun _ => ok_zret rfl dX9_canBe_86))))))
def tX9_canBe : Nat → Option am_Act := am_nd 42 (tX9_canBe_0) (tX9_canBe_1)
theorem gX9_canBe : am_Good tT mX9_canBe tX9_canBe := am_nd_ok (gX9_canBe_0) (gX9_canBe_1)
theorem dX9_go_0 : decode cX9_go 0 = .ok (.aload_n 0, 1) := by decide +kernel
theorem dX9_go_1 : decode cX9_go 1 = .ok (.iconst 0, 1) := by decide +kernel
theorem dX9_go_2 : decode cX9_go 2 = .ok (.putfield 65, 3) := by decide +kernel
theorem dX9_go_5 : decode cX9_go 5 = .ok (.aload_n 0, 1) := by decide +kernel
theorem dX9_go_6 : decode cX9_go 6 = .ok (.getfield 65, 3) := by decide +kernel
theorem dX9_go_9 : decode cX9_go 9 = .ok (.aload_n 0, 1) := by decide +kernel
theorem dX9_go_10 : decode cX9_go 10 = .ok (.getfield 29, 3) := by decide +kernel
theorem dX9_go_13 : decode cX9_go 13 = .ok (.if_icmp .ge 90, 3) := by decide +kernel
theorem dX9_go_16 : decode cX9_go 16 = .ok (.aload_n 0, 1) := by decide +kernel
theorem dX9_go_17 : decode cX9_go 17 = .ok (.getfield 9, 3) := by decide +kernel
theorem dX9_go_20 : decode cX9_go 20 = .ok (.aload_n 0, 1) := by decide +kernel
theorem dX9_go_21 : decode cX9_go 21 = .ok (.getfield 65, 3) := by decide +kernel
theorem dX9_go_24 : decode cX9_go 24 = .ok (.iaload, 1) := by decide +kernel
theorem dX9_go_25 : decode cX9_go 25 = .ok (.istore_n 2, 1) := by decide +kernel
theorem dX9_go_26 : decode cX9_go 26 = .ok (.aload_n 0, 1) := by decide +kernel
theorem dX9_go_27 : decode cX9_go 27 = .ok (.getfield 21, 3) := by decide +kernel
theorem dX9_go_30 : decode cX9_go 30 = .ok (.iload_n 1, 1) := by decide +kernel
theorem dX9_go_31 : decode cX9_go 31 = .ok (.iload_n 2, 1) := by decide +kernel
theorem dX9_go_32 : decode cX9_go 32 = .ok (.invokevirtual 68, 3) := by decide +kernel
theorem dX9_go_35 : decode cX9_go 35 = .ok (.ifCond .eq 15, 3) := by decide +kernel
theorem dX9_go_38 : decode cX9_go 38 = .ok (.aload_n 0, 1) := by decide +kernel
theorem dX9_go_39 : decode cX9_go 39 = .ok (.getfield 25, 3) := by decide +kernel
theorem dX9_go_42 : decode cX9_go 42 = .ok (.iload_n 1, 1) := by decide +kernel
theorem dX9_go_43 : decode cX9_go 43 = .ok (.iload_n 2, 1) := by decide +kernel
theorem dX9_go_44 : decode cX9_go 44 = .ok (.invokevirtual 71, 3) := by decide +kernel
theorem dX9_go_47 : decode cX9_go 47 = .ok (.goto 5, 3) := by decide +kernel
theorem dX9_go_50 : decode cX9_go 50 = .ok (.bipush (-2), 2) := by decide +kernel
theorem dX9_go_52 : decode cX9_go 52 = .ok (.istore_n 3, 1) := by decide +kernel
theorem dX9_go_53 : decode cX9_go 53 = .ok (.iload_n 3, 1) := by decide +kernel
theorem dX9_go_54 : decode cX9_go 54 = .ok (.bipush (-2), 2) := by decide +kernel
theorem dX9_go_56 : decode cX9_go 56 = .ok (.if_icmp .ne 5, 3) := by decide +kernel
theorem dX9_go_59 : decode cX9_go 59 = .ok (.iconst 0, 1) := by decide +kernel
theorem dX9_go_60 : decode cX9_go 60 = .ok (.ireturn, 1) := by decide +kernel
theorem dX9_go_61 : decode cX9_go 61 = .ok (.aload_n 0, 1) := by decide +kernel
theorem dX9_go_62 : decode cX9_go 62 = .ok (.getfield 15, 3) := by decide +kernel
theorem dX9_go_65 : decode cX9_go 65 = .ok (.aload_n 0, 1) := by decide +kernel
theorem dX9_go_66 : decode cX9_go 66 = .ok (.getfield 65, 3) := by decide +kernel
theorem dX9_go_69 : decode cX9_go 69 = .ok (.iload_n 3, 1) := by decide +kernel
theorem dX9_go_70 : decode cX9_go 70 = .ok (.iastore, 1) := by decide +kernel
theorem dX9_go_71 : decode cX9_go 71 = .ok (.aload_n 0, 1) := by decide +kernel
theorem dX9_go_72 : decode cX9_go 72 = .ok (.getfield 18, 3) := by decide +kernel
theorem dX9_go_75 : decode cX9_go 75 = .ok (.aload_n 0, 1) := by decide +kernel
theorem dX9_go_76 : decode cX9_go 76 = .ok (.getfield 65, 3) := by decide +kernel
theorem dX9_go_79 : decode cX9_go 79 = .ok (.aload_n 0, 1) := by decide +kernel
theorem dX9_go_80 : decode cX9_go 80 = .ok (.getfield 25, 3) := by decide +kernel
theorem dX9_go_83 : decode cX9_go 83 = .ok (.iload_n 1, 1) := by decide +kernel
theorem dX9_go_84 : decode cX9_go 84 = .ok (.iload_n 2, 1) := by decide +kernel
theorem dX9_go_85 : decode cX9_go 85 = .ok (.iload_n 3, 1) := by decide +kernel
theorem dX9_go_86 : decode cX9_go 86 = .ok (.invokevirtual 76, 3) := by decide +kernel
theorem dX9_go_89 : decode cX9_go 89 = .ok (.iastore, 1) := by decide +kernel
theorem dX9_go_90 : decode cX9_go 90 = .ok (.aload_n 0, 1) := by decide +kernel
theorem dX9_go_91 : decode cX9_go 91 = .ok (.dup, 1) := by decide +kernel
theorem dX9_go_92 : decode cX9_go 92 = .ok (.getfield 65, 3) := by decide +kernel
theorem dX9_go_95 : decode cX9_go 95 = .ok (.iconst 1, 1) := by decide +kernel
theorem dX9_go_96 : decode cX9_go 96 = .ok (.iadd, 1) := by decide +kernel
theorem dX9_go_97 : decode cX9_go 97 = .ok (.putfield 65, 3) := by decide +kernel
theorem dX9_go_100 : decode cX9_go 100 = .ok (.goto (-95), 3) := by decide +kernel
theorem dX9_go_103 : decode cX9_go 103 = .ok (.iconst 1, 1) := by decide +kernel
theorem dX9_go_104 : decode cX9_go 104 = .ok (.ireturn, 1) := by decide +kernel
def tX9_go_0 : Nat → Option am_Act := am_nd 24 (am_nd 10 (am_nd 5 (am_nd 1 (am_lf 0 (a_aload 0 1)) (am_nd 2 (am_lf 1 (a_const (nI 0) 2)) (am_lf 2 (a_put tT 9 6 5)))) (am_nd 6 (am_lf 5 (a_aload 0 6)) (am_nd 9 (am_lf 6 (a_get tT 9 6 9)) (am_lf 9 (a_aload 0 10))))) (am_nd 17 (am_nd 13 (am_lf 10 (a_get tT 9 3 13)) (am_nd 16 (am_lf 13 (a_cmp (fun x y => y ≤ x) 103 16)) (am_lf 16 (a_aload 0 17)))) (am_nd 20 (am_lf 17 (a_get tT 9 2 20)) (am_nd 21 (am_lf 20 (a_aload 0 21)) (am_lf 21 (a_get tT 9 6 24)))))) (am_nd 32 (am_nd 27 (am_nd 25 (am_lf 24 (a_iald tT 25)) (am_nd 26 (am_lf 25 (a_istore 2 26)) (am_lf 26 (a_aload 0 27)))) (am_nd 30 (am_lf 27 (a_get tT 9 0 30)) (am_nd 31 (am_lf 30 (a_iload 1 31)) (am_lf 31 (a_iload 2 32))))) (am_nd 39 (am_nd 35 (am_lf 32 (a_cvI tT mX10_standsAt 10 2 35)) (am_nd 38 (am_lf 35 (a_if (fun x => x = nI 0) 50 38)) (am_lf 38 (a_aload 0 39)))) (am_nd 42 (am_lf 39 (a_get tT 9 1 42)) (am_nd 43 (am_lf 42 (a_iload 1 43)) (am_lf 43 (a_iload 2 44))))))
theorem gX9_go_0 : am_Good tT mX9_go tX9_go_0 := am_nd_ok (am_nd_ok (am_nd_ok (am_nd_ok (am_lf_ok (fun _ => ok_aload_n dX9_go_0 rfl rfl)) (am_nd_ok (am_lf_ok (fun _ => ok_iconst dX9_go_1 cv_iconst_0 rfl)) (am_lf_ok (fun _ => ok_put (C := RX9) (TT := TX9) (N := 7) (ty0 := tyX9) rfl inw_X9 tyX9_ok nmX9 (Nat.le_of_ble_eq_true rfl) rfl rfl wd_245 dX9_go_2 rfl)))) (am_nd_ok (am_lf_ok (fun _ => ok_aload_n dX9_go_5 rfl rfl)) (am_nd_ok (am_lf_ok (fun _ => ok_get (C := RX9) (TT := TX9) (N := 7) rfl inw_X9 (Nat.le_of_ble_eq_true rfl) wd_245 dX9_go_6 rfl)) (am_lf_ok (fun _ => ok_aload_n dX9_go_9 rfl rfl))))) (am_nd_ok (am_nd_ok (am_lf_ok (fun _ => ok_get (C := RX9) (TT := TX9) (N := 7) rfl inw_X9 (Nat.le_of_ble_eq_true rfl) wd_234 dX9_go_10 rfl)) (am_nd_ok (am_lf_ok (fun _ => ok_cmp_ge dX9_go_13 rfl rfl)) (am_lf_ok (fun _ => ok_aload_n dX9_go_16 rfl rfl)))) (am_nd_ok (am_lf_ok (fun _ => ok_get (C := RX9) (TT := TX9) (N := 7) rfl inw_X9 (Nat.le_of_ble_eq_true rfl) wd_233 dX9_go_17 rfl)) (am_nd_ok (am_lf_ok (fun _ => ok_aload_n dX9_go_20 rfl rfl)) (am_lf_ok (fun _ => ok_get (C := RX9) (TT := TX9) (N := 7) rfl inw_X9 (Nat.le_of_ble_eq_true rfl) wd_245 dX9_go_21 rfl)))))) (am_nd_ok (am_nd_ok (am_nd_ok (am_lf_ok (fun _ => ok_iald dX9_go_24 rfl)) (am_nd_ok (am_lf_ok (fun _ => ok_istore_n dX9_go_25 rfl (Nat.le_of_ble_eq_true rfl) rfl)) (am_lf_ok (fun _ => ok_aload_n dX9_go_26 rfl rfl)))) (am_nd_ok (am_lf_ok (fun _ => ok_get (C := RX9) (TT := TX9) (N := 7) rfl inw_X9 (Nat.le_of_ble_eq_true rfl) wd_235 dX9_go_27 rfl)) (am_nd_ok (am_lf_ok (fun _ => ok_iload_n dX9_go_30 rfl rfl)) (am_lf_ok (fun _ => ok_iload_n dX9_go_31 rfl rfl))))) (am_nd_ok (am_nd_ok (am_lf_ok (fun _ => ok_cvI rfl mw_X10_standsAt (ci := 10) rfl rfl wd_246 wd_247 wd_248 dX9_go_32 rfl)) (am_nd_ok (am_lf_ok (fun _ => ok_if_eq dX9_go_35 rfl rfl)) (am_lf_ok (fun _ => ok_aload_n dX9_go_38 rfl rfl)))) (am_nd_ok (am_lf_ok (fun _ => ok_get (C := RX9) (TT := TX9) (N := 7) rfl inw_X9 (Nat.le_of_ble_eq_true rfl) wd_249 dX9_go_39 rfl)) (am_nd_ok (am_lf_ok (fun _ => ok_iload_n dX9_go_42 rfl rfl)) (am_lf_ok (fun _ => ok_iload_n dX9_go_43 rfl rfl))))))
def tX9_go_1 : Nat → Option am_Act := am_nd 66 (am_nd 56 (am_nd 52 (am_nd 47 (am_lf 44 (a_cvI tT mX7_due 7 2 47)) (am_nd 50 (am_lf 47 (a_goto 52)) (am_lf 50 (a_const (-2) 52)))) (am_nd 53 (am_lf 52 (a_istore 3 53)) (am_nd 54 (am_lf 53 (a_iload 3 54)) (am_lf 54 (a_const (-2) 56))))) (am_nd 61 (am_nd 59 (am_lf 56 (a_cmp (fun x y => x = y) 59 61)) (am_nd 60 (am_lf 59 (a_const (nI 0) 60)) (am_lf 60 (a_zret)))) (am_nd 62 (am_lf 61 (a_aload 0 62)) (am_nd 65 (am_lf 62 (a_get tT 9 4 65)) (am_lf 65 (a_aload 0 66)))))) (am_nd 76 (am_nd 71 (am_nd 69 (am_lf 66 (a_get tT 9 6 69)) (am_nd 70 (am_lf 69 (a_iload 3 70)) (am_lf 70 (a_iast tT 71)))) (am_nd 72 (am_lf 71 (a_aload 0 72)) (am_nd 75 (am_lf 72 (a_get tT 9 5 75)) (am_lf 75 (a_aload 0 76))))) (am_nd 83 (am_nd 79 (am_lf 76 (a_get tT 9 6 79)) (am_nd 80 (am_lf 79 (a_aload 0 80)) (am_lf 80 (a_get tT 9 1 83)))) (am_nd 84 (am_lf 83 (a_iload 1 84)) (am_nd 85 (am_lf 84 (a_iload 2 85)) (am_lf 85 (a_iload 3 86))))))
theorem gX9_go_1 : am_Good tT mX9_go tX9_go_1 := am_nd_ok (am_nd_ok (am_nd_ok (am_nd_ok (am_lf_ok (fun _ => ok_cvI rfl mw_X7_due (ci := 7) rfl rfl wd_250 wd_17 wd_18 dX9_go_44 rfl)) (am_nd_ok (am_lf_ok (fun _ => ok_goto dX9_go_47 rfl)) (am_lf_ok (fun _ => ok_bipush dX9_go_50 cv_bipush_m2 rfl)))) (am_nd_ok (am_lf_ok (fun _ => ok_istore_n dX9_go_52 rfl (Nat.le_of_ble_eq_true rfl) rfl)) (am_nd_ok (am_lf_ok (fun _ => ok_iload_n dX9_go_53 rfl rfl)) (am_lf_ok (fun _ => ok_bipush dX9_go_54 cv_bipush_m2 rfl))))) (am_nd_ok (am_nd_ok (am_lf_ok (fun _ => ok_cmp_ne dX9_go_56 rfl rfl)) (am_nd_ok (am_lf_ok (fun _ => ok_iconst dX9_go_59 cv_iconst_0 rfl)) (am_lf_ok (fun _ => ok_zret rfl dX9_go_60)))) (am_nd_ok (am_lf_ok (fun _ => ok_aload_n dX9_go_61 rfl rfl)) (am_nd_ok (am_lf_ok (fun _ => ok_get (C := RX9) (TT := TX9) (N := 7) rfl inw_X9 (Nat.le_of_ble_eq_true rfl) wd_251 dX9_go_62 rfl)) (am_lf_ok (fun _ => ok_aload_n dX9_go_65 rfl rfl)))))) (am_nd_ok (am_nd_ok (am_nd_ok (am_lf_ok (fun _ => ok_get (C := RX9) (TT := TX9) (N := 7) rfl inw_X9 (Nat.le_of_ble_eq_true rfl) wd_245 dX9_go_66 rfl)) (am_nd_ok (am_lf_ok (fun _ => ok_iload_n dX9_go_69 rfl rfl)) (am_lf_ok (fun _ => ok_iast dX9_go_70 rfl)))) (am_nd_ok (am_lf_ok (fun _ => ok_aload_n dX9_go_71 rfl rfl)) (am_nd_ok (am_lf_ok (fun _ => ok_get (C := RX9) (TT := TX9) (N := 7) rfl inw_X9 (Nat.le_of_ble_eq_true rfl) wd_252 dX9_go_72 rfl)) (am_lf_ok (fun _ => ok_aload_n dX9_go_75 rfl rfl))))) (am_nd_ok (am_nd_ok (am_lf_ok (fun _ => ok_get (C := RX9) (TT := TX9) (N := 7) rfl inw_X9 (Nat.le_of_ble_eq_true rfl) wd_245 dX9_go_76 rfl)) (am_nd_ok (am_lf_ok (fun _ => ok_aload_n dX9_go_79 rfl rfl)) (am_lf_ok (fun _ => ok_get (C := RX9) (TT := TX9) (N := 7) rfl inw_X9 (Nat.le_of_ble_eq_true rfl) wd_249 dX9_go_80 rfl)))) (am_nd_ok (am_lf_ok (fun _ => ok_iload_n dX9_go_83 rfl rfl)) (am_nd_ok (am_lf_ok (fun _ => ok_iload_n dX9_go_84 rfl rfl)) (am_lf_ok (fun _ => ok_iload_n dX9_go_85 rfl rfl))))))
def tX9_go_2 : Nat → Option am_Act := am_nd 95 (am_nd 90 (am_nd 89 (am_lf 86 (a_cvI tT mX7_pass 7 3 89)) (am_lf 89 (a_iast tT 90))) (am_nd 91 (am_lf 90 (a_aload 0 91)) (am_nd 92 (am_lf 91 (a_dup 92)) (am_lf 92 (a_get tT 9 6 95))))) (am_nd 100 (am_nd 96 (am_lf 95 (a_const (nI 1) 96)) (am_nd 97 (am_lf 96 (a_bin (fun x y => x + y) 97)) (am_lf 97 (a_put tT 9 6 100)))) (am_nd 103 (am_lf 100 (a_goto 5)) (am_nd 104 (am_lf 103 (a_const (nI 1) 104)) (am_lf 104 (a_zret)))))
theorem gX9_go_2 : am_Good tT mX9_go tX9_go_2 := am_nd_ok (am_nd_ok (am_nd_ok (am_lf_ok (fun _ => ok_cvI rfl mw_X7_pass (ci := 7) rfl rfl wd_253 wd_21 wd_22 dX9_go_86 rfl)) (am_lf_ok (fun _ => ok_iast dX9_go_89 rfl))) (am_nd_ok (am_lf_ok (fun _ => ok_aload_n dX9_go_90 rfl rfl)) (am_nd_ok (am_lf_ok (fun _ => ok_dup dX9_go_91 rfl)) (am_lf_ok (fun _ => ok_get (C := RX9) (TT := TX9) (N := 7) rfl inw_X9 (Nat.le_of_ble_eq_true rfl) wd_245 dX9_go_92 rfl))))) (am_nd_ok (am_nd_ok (am_lf_ok (fun _ => ok_iconst dX9_go_95 cv_iconst_1 rfl)) (am_nd_ok (am_lf_ok (fun _ => ok_iadd dX9_go_96 rfl)) (am_lf_ok (fun _ => ok_put (C := RX9) (TT := TX9) (N := 7) (ty0 := tyX9) rfl inw_X9 tyX9_ok nmX9 (Nat.le_of_ble_eq_true rfl) rfl rfl wd_245 dX9_go_97 rfl)))) (am_nd_ok (am_lf_ok (fun _ => ok_goto dX9_go_100 rfl)) (am_nd_ok (am_lf_ok (fun _ => ok_iconst dX9_go_103 cv_iconst_1 rfl)) (am_lf_ok (fun _ => ok_zret rfl dX9_go_104)))))
def tX9_go : Nat → Option am_Act := am_nd 44 (tX9_go_0) (am_nd 86 (tX9_go_1) (tX9_go_2))
theorem gX9_go : am_Good tT mX9_go tX9_go := am_nd_ok (gX9_go_0) (am_nd_ok (gX9_go_1) (gX9_go_2))
theorem dX9_back_0 : decode cX9_back 0 = .ok (.aload_n 0, 1) := by decide +kernel
theorem dX9_back_1 : decode cX9_back 1 = .ok (.getfield 65, 3) := by decide +kernel
theorem dX9_back_4 : decode cX9_back 4 = .ok (.iconst 1, 1) := by decide +kernel
theorem dX9_back_5 : decode cX9_back 5 = .ok (.isub, 1) := by decide +kernel
theorem dX9_back_6 : decode cX9_back 6 = .ok (.istore_n 2, 1) := by decide +kernel
theorem dX9_back_7 : decode cX9_back 7 = .ok (.iload_n 2, 1) := by decide +kernel
theorem dX9_back_8 : decode cX9_back 8 = .ok (.ifCond .lt 35, 3) := by decide +kernel
theorem dX9_back_11 : decode cX9_back 11 = .ok (.aload_n 0, 1) := by decide +kernel
theorem dX9_back_12 : decode cX9_back 12 = .ok (.getfield 25, 3) := by decide +kernel
theorem dX9_back_15 : decode cX9_back 15 = .ok (.iload_n 1, 1) := by decide +kernel
theorem dX9_back_16 : decode cX9_back 16 = .ok (.aload_n 0, 1) := by decide +kernel
theorem dX9_back_17 : decode cX9_back 17 = .ok (.getfield 9, 3) := by decide +kernel
theorem dX9_back_20 : decode cX9_back 20 = .ok (.iload_n 2, 1) := by decide +kernel
theorem dX9_back_21 : decode cX9_back 21 = .ok (.iaload, 1) := by decide +kernel
theorem dX9_back_22 : decode cX9_back 22 = .ok (.aload_n 0, 1) := by decide +kernel
theorem dX9_back_23 : decode cX9_back 23 = .ok (.getfield 15, 3) := by decide +kernel
theorem dX9_back_26 : decode cX9_back 26 = .ok (.iload_n 2, 1) := by decide +kernel
theorem dX9_back_27 : decode cX9_back 27 = .ok (.iaload, 1) := by decide +kernel
theorem dX9_back_28 : decode cX9_back 28 = .ok (.aload_n 0, 1) := by decide +kernel
theorem dX9_back_29 : decode cX9_back 29 = .ok (.getfield 18, 3) := by decide +kernel
theorem dX9_back_32 : decode cX9_back 32 = .ok (.iload_n 2, 1) := by decide +kernel
theorem dX9_back_33 : decode cX9_back 33 = .ok (.iaload, 1) := by decide +kernel
theorem dX9_back_34 : decode cX9_back 34 = .ok (.invokevirtual 80, 3) := by decide +kernel
theorem dX9_back_37 : decode cX9_back 37 = .ok (.iinc 2 (-1), 3) := by decide +kernel
theorem dX9_back_40 : decode cX9_back 40 = .ok (.goto (-33), 3) := by decide +kernel
theorem dX9_back_43 : decode cX9_back 43 = .ok (.return_, 1) := by decide +kernel
def tX9_back_0 : Nat → Option am_Act := am_nd 20 (am_nd 8 (am_nd 5 (am_nd 1 (am_lf 0 (a_aload 0 1)) (am_nd 4 (am_lf 1 (a_get tT 9 6 4)) (am_lf 4 (a_const (nI 1) 5)))) (am_nd 6 (am_lf 5 (a_bin (fun x y => x - y) 6)) (am_nd 7 (am_lf 6 (a_istore 2 7)) (am_lf 7 (a_iload 2 8))))) (am_nd 15 (am_nd 11 (am_lf 8 (a_if (fun x => x < nI 0) 43 11)) (am_nd 12 (am_lf 11 (a_aload 0 12)) (am_lf 12 (a_get tT 9 1 15)))) (am_nd 16 (am_lf 15 (a_iload 1 16)) (am_nd 17 (am_lf 16 (a_aload 0 17)) (am_lf 17 (a_get tT 9 2 20)))))) (am_nd 28 (am_nd 23 (am_nd 21 (am_lf 20 (a_iload 2 21)) (am_nd 22 (am_lf 21 (a_iald tT 22)) (am_lf 22 (a_aload 0 23)))) (am_nd 26 (am_lf 23 (a_get tT 9 4 26)) (am_nd 27 (am_lf 26 (a_iload 2 27)) (am_lf 27 (a_iald tT 28))))) (am_nd 33 (am_nd 29 (am_lf 28 (a_aload 0 29)) (am_nd 32 (am_lf 29 (a_get tT 9 5 32)) (am_lf 32 (a_iload 2 33)))) (am_nd 34 (am_lf 33 (a_iald tT 34)) (am_nd 37 (am_lf 34 (a_cvV tT mX7_back 7 4 37)) (am_lf 37 (a_iinc 2 (-1) 40))))))
theorem gX9_back_0 : am_Good tT mX9_back tX9_back_0 := am_nd_ok (am_nd_ok (am_nd_ok (am_nd_ok (am_lf_ok (fun _ => ok_aload_n dX9_back_0 rfl rfl)) (am_nd_ok (am_lf_ok (fun _ => ok_get (C := RX9) (TT := TX9) (N := 7) rfl inw_X9 (Nat.le_of_ble_eq_true rfl) wd_245 dX9_back_1 rfl)) (am_lf_ok (fun _ => ok_iconst dX9_back_4 cv_iconst_1 rfl)))) (am_nd_ok (am_lf_ok (fun _ => ok_isub dX9_back_5 rfl)) (am_nd_ok (am_lf_ok (fun _ => ok_istore_n dX9_back_6 rfl (Nat.le_of_ble_eq_true rfl) rfl)) (am_lf_ok (fun _ => ok_iload_n dX9_back_7 rfl rfl))))) (am_nd_ok (am_nd_ok (am_lf_ok (fun _ => ok_if_lt dX9_back_8 rfl rfl)) (am_nd_ok (am_lf_ok (fun _ => ok_aload_n dX9_back_11 rfl rfl)) (am_lf_ok (fun _ => ok_get (C := RX9) (TT := TX9) (N := 7) rfl inw_X9 (Nat.le_of_ble_eq_true rfl) wd_249 dX9_back_12 rfl)))) (am_nd_ok (am_lf_ok (fun _ => ok_iload_n dX9_back_15 rfl rfl)) (am_nd_ok (am_lf_ok (fun _ => ok_aload_n dX9_back_16 rfl rfl)) (am_lf_ok (fun _ => ok_get (C := RX9) (TT := TX9) (N := 7) rfl inw_X9 (Nat.le_of_ble_eq_true rfl) wd_233 dX9_back_17 rfl)))))) (am_nd_ok (am_nd_ok (am_nd_ok (am_lf_ok (fun _ => ok_iload_n dX9_back_20 rfl rfl)) (am_nd_ok (am_lf_ok (fun _ => ok_iald dX9_back_21 rfl)) (am_lf_ok (fun _ => ok_aload_n dX9_back_22 rfl rfl)))) (am_nd_ok (am_lf_ok (fun _ => ok_get (C := RX9) (TT := TX9) (N := 7) rfl inw_X9 (Nat.le_of_ble_eq_true rfl) wd_251 dX9_back_23 rfl)) (am_nd_ok (am_lf_ok (fun _ => ok_iload_n dX9_back_26 rfl rfl)) (am_lf_ok (fun _ => ok_iald dX9_back_27 rfl))))) (am_nd_ok (am_nd_ok (am_lf_ok (fun _ => ok_aload_n dX9_back_28 rfl rfl)) (am_nd_ok (am_lf_ok (fun _ => ok_get (C := RX9) (TT := TX9) (N := 7) rfl inw_X9 (Nat.le_of_ble_eq_true rfl) wd_252 dX9_back_29 rfl)) (am_lf_ok (fun _ => ok_iload_n dX9_back_32 rfl rfl)))) (am_nd_ok (am_lf_ok (fun _ => ok_iald dX9_back_33 rfl)) (am_nd_ok (am_lf_ok (fun _ => ok_cvV rfl mw_X7_back (ci := 7) rfl rfl wd_254 wd_24 wd_25 dX9_back_34 rfl)) (am_lf_ok (fun _ => ok_iinc dX9_back_37 cv_iconst_m1 (Nat.le_of_ble_eq_true rfl) rfl))))))
def tX9_back_1 : Nat → Option am_Act := am_nd 43 (am_lf 40 (a_goto 7)) (am_lf 43 (a_ret))
theorem gX9_back_1 : am_Good tT mX9_back tX9_back_1 := am_nd_ok (am_lf_ok (fun _ => ok_goto dX9_back_40 rfl)) (am_lf_ok (fun _ => ok_ret rfl dX9_back_43))
def tX9_back : Nat → Option am_Act := am_nd 40 (tX9_back_0) (tX9_back_1)
theorem gX9_back : am_Good tT mX9_back tX9_back := am_nd_ok (gX9_back_0) (gX9_back_1)
