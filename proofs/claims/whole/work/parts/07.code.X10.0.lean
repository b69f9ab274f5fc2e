/-! ===== code of TollOfNames$World ===== -/
theorem dX10_isName_0 : decode cX10_isName 0 = .ok (.iload_n 1, 1) := by decide +kernel
theorem dX10_isName_1 : decode cX10_isName 1 = .ok (.ifCond .lt 15, 3) := by decide +kernel
theorem dX10_isName_4 : decode cX10_isName 4 = .ok (.iload_n 1, 1) := by decide +kernel
theorem dX10_isName_5 : decode cX10_isName 5 = .ok (.aload_n 0, 1) := by decide +kernel
theorem dX10_isName_6 : decode cX10_isName 6 = .ok (.getfield 45, 3) := by decide +kernel
theorem dX10_isName_9 : decode cX10_isName 9 = .ok (.if_icmp .ge 7, 3) := by decide +kernel
theorem dX10_isName_12 : decode cX10_isName 12 = .ok (.iconst 1, 1) := by decide +kernel
theorem dX10_isName_13 : decode cX10_isName 13 = .ok (.goto 4, 3) := by decide +kernel
theorem dX10_isName_16 : decode cX10_isName 16 = .ok (.iconst 0, 1) := by decide +kernel
theorem dX10_isName_17 : decode cX10_isName 17 = .ok (.ireturn, 1) := by decide +kernel
def tX10_isName_0 : Nat → Option am_Act := am_nd 9 (am_nd 4 (am_nd 1 (am_lf 0 (a_iload 1 1)) (am_lf 1 (a_if (fun x => x < nI 0) 16 4))) (am_nd 5 (am_lf 4 (a_iload 1 5)) (am_nd 6 (am_lf 5 (a_aload 0 6)) (am_lf 6 (a_get tT 10 4 9))))) (am_nd 13 (am_nd 12 (am_lf 9 (a_cmp (fun x y => y ≤ x) 16 12)) (am_lf 12 (a_const (nI 1) 13))) (am_nd 16 (am_lf 13 (a_goto 17)) (am_nd 17 (am_lf 16 (a_const (nI 0) 17)) (am_lf 17 (a_zret)))))
theorem gX10_isName_0 : am_Good tT mX10_isName tX10_isName_0 := am_nd_ok (am_nd_ok (am_nd_ok (am_lf_ok (fun _ => ok_iload_n dX10_isName_0 rfl rfl)) (am_lf_ok (fun _ => ok_if_lt dX10_isName_1 rfl rfl))) (am_nd_ok (am_lf_ok (fun _ => ok_iload_n dX10_isName_4 rfl rfl)) (am_nd_ok (am_lf_ok (fun _ => ok_aload_n dX10_isName_5 rfl rfl)) (am_lf_ok (fun _ => ok_get (C := RX10) (TT := TX10) (N := 14) rfl inw_X10 (Nat.le_of_ble_eq_true rfl) wd_255 dX10_isName_6 rfl))))) (am_nd_ok (am_nd_ok (am_lf_ok (fun _ => ok_cmp_ge dX10_isName_9 rfl rfl)) (am_lf_ok (fun _ => ok_iconst dX10_isName_12 cv_iconst_1 rfl))) (am_nd_ok (am_lf_ok (fun _ => ok_goto dX10_isName_13 rfl)) (am_nd_ok (am_lf_ok (fun _ => ok_iconst dX10_isName_16 cv_iconst_0 rfl)) (am_lf_ok (fun _ => ok_zret rfl dX10_isName_17)))))
def tX10_isName : Nat → Option am_Act := tX10_isName_0
theorem gX10_isName : am_Good tT mX10_isName tX10_isName := gX10_isName_0
theorem dX10_isPerson_0 : decode cX10_isPerson 0 = .ok (.iload_n 1, 1) := by decide +kernel
theorem dX10_isPerson_1 : decode cX10_isPerson 1 = .ok (.ifCond .lt 18, 3) := by decide +kernel
theorem dX10_isPerson_4 : decode cX10_isPerson 4 = .ok (.iload_n 1, 1) := by decide +kernel
theorem dX10_isPerson_5 : decode cX10_isPerson 5 = .ok (.aload_n 0, 1) := by decide +kernel
theorem dX10_isPerson_6 : decode cX10_isPerson 6 = .ok (.getfield 27, 3) := by decide +kernel
theorem dX10_isPerson_9 : decode cX10_isPerson 9 = .ok (.getfield 49, 3) := by decide +kernel
theorem dX10_isPerson_12 : decode cX10_isPerson 12 = .ok (.if_icmp .ge 7, 3) := by decide +kernel
theorem dX10_isPerson_15 : decode cX10_isPerson 15 = .ok (.iconst 1, 1) := by decide +kernel
theorem dX10_isPerson_16 : decode cX10_isPerson 16 = .ok (.goto 4, 3) := by decide +kernel
theorem dX10_isPerson_19 : decode cX10_isPerson 19 = .ok (.iconst 0, 1) := by decide +kernel
theorem dX10_isPerson_20 : decode cX10_isPerson 20 = .ok (.ireturn, 1) := by decide +kernel
def tX10_isPerson_0 : Nat → Option am_Act := am_nd 9 (am_nd 4 (am_nd 1 (am_lf 0 (a_iload 1 1)) (am_lf 1 (a_if (fun x => x < nI 0) 19 4))) (am_nd 5 (am_lf 4 (a_iload 1 5)) (am_nd 6 (am_lf 5 (a_aload 0 6)) (am_lf 6 (a_get tT 10 11 9))))) (am_nd 16 (am_nd 12 (am_lf 9 (a_get tT 5 0 12)) (am_nd 15 (am_lf 12 (a_cmp (fun x y => y ≤ x) 19 15)) (am_lf 15 (a_const (nI 1) 16)))) (am_nd 19 (am_lf 16 (a_goto 20)) (am_nd 20 (am_lf 19 (a_const (nI 0) 20)) (am_lf 20 (a_zret)))))
theorem gX10_isPerson_0 : am_Good tT mX10_isPerson tX10_isPerson_0 := am_nd_ok (am_nd_ok (am_nd_ok (am_lf_ok (fun _ => ok_iload_n dX10_isPerson_0 rfl rfl)) (am_lf_ok (fun _ => ok_if_lt dX10_isPerson_1 rfl rfl))) (am_nd_ok (am_lf_ok (fun _ => ok_iload_n dX10_isPerson_4 rfl rfl)) (am_nd_ok (am_lf_ok (fun _ => ok_aload_n dX10_isPerson_5 rfl rfl)) (am_lf_ok (fun _ => ok_get (C := RX10) (TT := TX10) (N := 14) rfl inw_X10 (Nat.le_of_ble_eq_true rfl) wd_256 dX10_isPerson_6 rfl))))) (am_nd_ok (am_nd_ok (am_lf_ok (fun _ => ok_get (C := RX5) (TT := TX5) (N := 8) rfl inw_X5 (Nat.le_of_ble_eq_true rfl) wd_257 dX10_isPerson_9 rfl)) (am_nd_ok (am_lf_ok (fun _ => ok_cmp_ge dX10_isPerson_12 rfl rfl)) (am_lf_ok (fun _ => ok_iconst dX10_isPerson_15 cv_iconst_1 rfl)))) (am_nd_ok (am_lf_ok (fun _ => ok_goto dX10_isPerson_16 rfl)) (am_nd_ok (am_lf_ok (fun _ => ok_iconst dX10_isPerson_19 cv_iconst_0 rfl)) (am_lf_ok (fun _ => ok_zret rfl dX10_isPerson_20)))))
def tX10_isPerson : Nat → Option am_Act := tX10_isPerson_0
theorem gX10_isPerson : am_Good tT mX10_isPerson tX10_isPerson := gX10_isPerson_0
theorem dX10_isBridge_0 : decode cX10_isBridge 0 = .ok (.iload_n 1, 1) := by decide +kernel
theorem dX10_isBridge_1 : decode cX10_isBridge 1 = .ok (.ifCond .lt 18, 3) := by decide +kernel
theorem dX10_isBridge_4 : decode cX10_isBridge 4 = .ok (.iload_n 1, 1) := by decide +kernel
theorem dX10_isBridge_5 : decode cX10_isBridge 5 = .ok (.aload_n 0, 1) := by decide +kernel
theorem dX10_isBridge_6 : decode cX10_isBridge 6 = .ok (.getfield 34, 3) := by decide +kernel
theorem dX10_isBridge_9 : decode cX10_isBridge 9 = .ok (.getfield 52, 3) := by decide +kernel
theorem dX10_isBridge_12 : decode cX10_isBridge 12 = .ok (.if_icmp .ge 7, 3) := by decide +kernel
theorem dX10_isBridge_15 : decode cX10_isBridge 15 = .ok (.iconst 1, 1) := by decide +kernel
theorem dX10_isBridge_16 : decode cX10_isBridge 16 = .ok (.goto 4, 3) := by decide +kernel
theorem dX10_isBridge_19 : decode cX10_isBridge 19 = .ok (.iconst 0, 1) := by decide +kernel
theorem dX10_isBridge_20 : decode cX10_isBridge 20 = .ok (.ireturn, 1) := by decide +kernel
def tX10_isBridge_0 : Nat → Option am_Act := am_nd 9 (am_nd 4 (am_nd 1 (am_lf 0 (a_iload 1 1)) (am_lf 1 (a_if (fun x => x < nI 0) 19 4))) (am_nd 5 (am_lf 4 (a_iload 1 5)) (am_nd 6 (am_lf 5 (a_aload 0 6)) (am_lf 6 (a_get tT 10 12 9))))) (am_nd 16 (am_nd 12 (am_lf 9 (a_get tT 2 0 12)) (am_nd 15 (am_lf 12 (a_cmp (fun x y => y ≤ x) 19 15)) (am_lf 15 (a_const (nI 1) 16)))) (am_nd 19 (am_lf 16 (a_goto 20)) (am_nd 20 (am_lf 19 (a_const (nI 0) 20)) (am_lf 20 (a_zret)))))
theorem gX10_isBridge_0 : am_Good tT mX10_isBridge tX10_isBridge_0 := am_nd_ok (am_nd_ok (am_nd_ok (am_lf_ok (fun _ => ok_iload_n dX10_isBridge_0 rfl rfl)) (am_lf_ok (fun _ => ok_if_lt dX10_isBridge_1 rfl rfl))) (am_nd_ok (am_lf_ok (fun _ => ok_iload_n dX10_isBridge_4 rfl rfl)) (am_nd_ok (am_lf_ok (fun _ => ok_aload_n dX10_isBridge_5 rfl rfl)) (am_lf_ok (fun _ => ok_get (C := RX10) (TT := TX10) (N := 14) rfl inw_X10 (Nat.le_of_ble_eq_true rfl) wd_258 dX10_isBridge_6 rfl))))) (am_nd_ok (am_nd_ok (am_lf_ok (fun _ => ok_get (C := RX2) (TT := TX2) (N := 3) rfl inw_X2 (Nat.le_of_ble_eq_true rfl) wd_259 dX10_isBridge_9 rfl)) (am_nd_ok (am_lf_ok (fun _ => ok_cmp_ge dX10_isBridge_12 rfl rfl)) (am_lf_ok (fun _ => ok_iconst dX10_isBridge_15 cv_iconst_1 rfl)))) (am_nd_ok (am_lf_ok (fun _ => ok_goto dX10_isBridge_16 rfl)) (am_nd_ok (am_lf_ok (fun _ => ok_iconst dX10_isBridge_19 cv_iconst_0 rfl)) (am_lf_ok (fun _ => ok_zret rfl dX10_isBridge_20)))))
def tX10_isBridge : Nat → Option am_Act := tX10_isBridge_0
theorem gX10_isBridge : am_Good tT mX10_isBridge tX10_isBridge := gX10_isBridge_0
theorem dX10_standsAt_0 : decode cX10_standsAt 0 = .ok (.aload_n 0, 1) := by decide +kernel
theorem dX10_standsAt_1 : decode cX10_standsAt 1 = .ok (.iload_n 2, 1) := by decide +kernel
theorem dX10_standsAt_2 : decode cX10_standsAt 2 = .ok (.invokevirtual 53, 3) := by decide +kernel
theorem dX10_standsAt_5 : decode cX10_standsAt 5 = .ok (.ifCond .eq 27, 3) := by decide +kernel
theorem dX10_standsAt_8 : decode cX10_standsAt 8 = .ok (.aload_n 0, 1) := by decide +kernel
theorem dX10_standsAt_9 : decode cX10_standsAt 9 = .ok (.getfield 34, 3) := by decide +kernel
theorem dX10_standsAt_12 : decode cX10_standsAt 12 = .ok (.iload_n 2, 1) := by decide +kernel
theorem dX10_standsAt_13 : decode cX10_standsAt 13 = .ok (.aload_n 0, 1) := by decide +kernel
theorem dX10_standsAt_14 : decode cX10_standsAt 14 = .ok (.getfield 27, 3) := by decide +kernel
theorem dX10_standsAt_17 : decode cX10_standsAt 17 = .ok (.getfield 57, 3) := by decide +kernel
theorem dX10_standsAt_20 : decode cX10_standsAt 20 = .ok (.iload_n 1, 1) := by decide +kernel
theorem dX10_standsAt_21 : decode cX10_standsAt 21 = .ok (.iaload, 1) := by decide +kernel
theorem dX10_standsAt_22 : decode cX10_standsAt 22 = .ok (.invokevirtual 60, 3) := by decide +kernel
theorem dX10_standsAt_25 : decode cX10_standsAt 25 = .ok (.ifCond .eq 7, 3) := by decide +kernel
theorem dX10_standsAt_28 : decode cX10_standsAt 28 = .ok (.iconst 1, 1) := by decide +kernel
theorem dX10_standsAt_29 : decode cX10_standsAt 29 = .ok (.goto 4, 3) := by decide +kernel
theorem dX10_standsAt_32 : decode cX10_standsAt 32 = .ok (.iconst 0, 1) := by decide +kernel
theorem dX10_standsAt_33 : decode cX10_standsAt 33 = .ok (.ireturn, 1) := by decide +kernel
def tX10_standsAt_0 : Nat → Option am_Act := am_nd 17 (am_nd 8 (am_nd 2 (am_nd 1 (am_lf 0 (a_aload 0 1)) (am_lf 1 (a_iload 2 2))) (am_nd 5 (am_lf 2 (a_cvI tT mX10_isBridge 10 1 5)) (am_lf 5 (a_if (fun x => x = nI 0) 32 8)))) (am_nd 12 (am_nd 9 (am_lf 8 (a_aload 0 9)) (am_lf 9 (a_get tT 10 12 12))) (am_nd 13 (am_lf 12 (a_iload 2 13)) (am_nd 14 (am_lf 13 (a_aload 0 14)) (am_lf 14 (a_get tT 10 11 17)))))) (am_nd 25 (am_nd 21 (am_nd 20 (am_lf 17 (a_get tT 5 1 20)) (am_lf 20 (a_iload 1 21))) (am_nd 22 (am_lf 21 (a_iald tT 22)) (am_lf 22 (a_cvI tT mX2_touches 2 2 25)))) (am_nd 29 (am_nd 28 (am_lf 25 (a_if (fun x => x = nI 0) 32 28)) (am_lf 28 (a_const (nI 1) 29))) (am_nd 32 (am_lf 29 (a_goto 33)) (am_nd 33 (am_lf 32 (a_const (nI 0) 33)) (am_lf 33 (a_zret))))))
theorem gX10_standsAt_0 : am_Good tT mX10_standsAt tX10_standsAt_0 := am_nd_ok (am_nd_ok (am_nd_ok (am_nd_ok (am_lf_ok (fun _ => ok_aload_n dX10_standsAt_0 rfl rfl)) (am_lf_ok (fun _ => ok_iload_n dX10_standsAt_1 rfl rfl))) (am_nd_ok (am_lf_ok (fun _ => ok_cvI rfl mw_X10_isBridge (ci := 10) rfl rfl wd_260 wd_240 wd_241 dX10_standsAt_2 rfl)) (am_lf_ok (fun _ => ok_if_eq dX10_standsAt_5 rfl rfl)))) (am_nd_ok (am_nd_ok (am_lf_ok (fun _ => ok_aload_n dX10_standsAt_8 rfl rfl)) (am_lf_ok (fun _ => ok_get (C := RX10) (TT := TX10) (N := 14) rfl inw_X10 (Nat.le_of_ble_eq_true rfl) wd_258 dX10_standsAt_9 rfl))) (am_nd_ok (am_lf_ok (fun _ => ok_iload_n dX10_standsAt_12 rfl rfl)) (am_nd_ok (am_lf_ok (fun _ => ok_aload_n dX10_standsAt_13 rfl rfl)) (am_lf_ok (fun _ => ok_get (C := RX10) (TT := TX10) (N := 14) rfl inw_X10 (Nat.le_of_ble_eq_true rfl) wd_256 dX10_standsAt_14 rfl)))))) (am_nd_ok (am_nd_ok (am_nd_ok (am_lf_ok (fun _ => ok_get (C := RX5) (TT := TX5) (N := 8) rfl inw_X5 (Nat.le_of_ble_eq_true rfl) wd_261 dX10_standsAt_17 rfl)) (am_lf_ok (fun _ => ok_iload_n dX10_standsAt_20 rfl rfl))) (am_nd_ok (am_lf_ok (fun _ => ok_iald dX10_standsAt_21 rfl)) (am_lf_ok (fun _ => ok_cvI rfl mw_X2_touches (ci := 2) rfl rfl wd_262 wd_50 wd_51 dX10_standsAt_22 rfl)))) (am_nd_ok (am_nd_ok (am_lf_ok (fun _ => ok_if_eq dX10_standsAt_25 rfl rfl)) (am_lf_ok (fun _ => ok_iconst dX10_standsAt_28 cv_iconst_1 rfl))) (am_nd_ok (am_lf_ok (fun _ => ok_goto dX10_standsAt_29 rfl)) (am_nd_ok (am_lf_ok (fun _ => ok_iconst dX10_standsAt_32 cv_iconst_0 rfl)) (am_lf_ok (fun _ => ok_zret rfl dX10_standsAt_33))))))
def tX10_standsAt : Nat → Option am_Act := tX10_standsAt_0
theorem gX10_standsAt : am_Good tT mX10_standsAt tX10_standsAt := gX10_standsAt_0
theorem dX10_standTogether_0 : decode cX10_standTogether 0 = .ok (.iconst (-1), 1) := by decide +kernel
theorem dX10_standTogether_1 : decode cX10_standTogether 1 = .ok (.istore_n 3, 1) := by decide +kernel
theorem dX10_standTogether_2 : decode cX10_standTogether 2 = .ok (.iconst 0, 1) := by decide +kernel
theorem dX10_standTogether_3 : decode cX10_standTogether 3 = .ok (.istore 4, 2) := by decide +kernel
theorem dX10_standTogether_5 : decode cX10_standTogether 5 = .ok (.iload 4, 2) := by decide +kernel
theorem dX10_standTogether_7 : decode cX10_standTogether 7 = .ok (.aload_n 0, 1) := by decide +kernel
theorem dX10_standTogether_8 : decode cX10_standTogether 8 = .ok (.getfield 27, 3) := by decide +kernel
theorem dX10_standTogether_11 : decode cX10_standTogether 11 = .ok (.getfield 49, 3) := by decide +kernel
theorem dX10_standTogether_14 : decode cX10_standTogether 14 = .ok (.if_icmp .ge 65, 3) := by decide +kernel
theorem dX10_standTogether_17 : decode cX10_standTogether 17 = .ok (.iload_n 1, 1) := by decide +kernel
theorem dX10_standTogether_18 : decode cX10_standTogether 18 = .ok (.iload 4, 2) := by decide +kernel
theorem dX10_standTogether_20 : decode cX10_standTogether 20 = .ok (.ishr, 1) := by decide +kernel
theorem dX10_standTogether_21 : decode cX10_standTogether 21 = .ok (.iconst 1, 1) := by decide +kernel
theorem dX10_standTogether_22 : decode cX10_standTogether 22 = .ok (.iand, 1) := by decide +kernel
theorem dX10_standTogether_23 : decode cX10_standTogether 23 = .ok (.ifCond .ne 6, 3) := by decide +kernel
theorem dX10_standTogether_26 : decode cX10_standTogether 26 = .ok (.goto 47, 3) := by decide +kernel
theorem dX10_standTogether_29 : decode cX10_standTogether 29 = .ok (.iload_n 3, 1) := by decide +kernel
theorem dX10_standTogether_30 : decode cX10_standTogether 30 = .ok (.iconst (-1), 1) := by decide +kernel
theorem dX10_standTogether_31 : decode cX10_standTogether 31 = .ok (.if_icmp .ne 14, 3) := by decide +kernel
theorem dX10_standTogether_34 : decode cX10_standTogether 34 = .ok (.aload_n 0, 1) := by decide +kernel
theorem dX10_standTogether_35 : decode cX10_standTogether 35 = .ok (.getfield 27, 3) := by decide +kernel
theorem dX10_standTogether_38 : decode cX10_standTogether 38 = .ok (.getfield 57, 3) := by decide +kernel
theorem dX10_standTogether_41 : decode cX10_standTogether 41 = .ok (.iload 4, 2) := by decide +kernel
theorem dX10_standTogether_43 : decode cX10_standTogether 43 = .ok (.iaload, 1) := by decide +kernel
theorem dX10_standTogether_44 : decode cX10_standTogether 44 = .ok (.istore_n 3, 1) := by decide +kernel
theorem dX10_standTogether_45 : decode cX10_standTogether 45 = .ok (.aload_n 0, 1) := by decide +kernel
theorem dX10_standTogether_46 : decode cX10_standTogether 46 = .ok (.getfield 27, 3) := by decide +kernel
theorem dX10_standTogether_49 : decode cX10_standTogether 49 = .ok (.getfield 57, 3) := by decide +kernel
theorem dX10_standTogether_52 : decode cX10_standTogether 52 = .ok (.iload 4, 2) := by decide +kernel
theorem dX10_standTogether_54 : decode cX10_standTogether 54 = .ok (.iaload, 1) := by decide +kernel
theorem dX10_standTogether_55 : decode cX10_standTogether 55 = .ok (.iload_n 3, 1) := by decide +kernel
theorem dX10_standTogether_56 : decode cX10_standTogether 56 = .ok (.if_icmp .ne 15, 3) := by decide +kernel
theorem dX10_standTogether_59 : decode cX10_standTogether 59 = .ok (.aload_n 0, 1) := by decide +kernel
theorem dX10_standTogether_60 : decode cX10_standTogether 60 = .ok (.getfield 34, 3) := by decide +kernel
theorem dX10_standTogether_63 : decode cX10_standTogether 63 = .ok (.iload_n 2, 1) := by decide +kernel
theorem dX10_standTogether_64 : decode cX10_standTogether 64 = .ok (.iload_n 3, 1) := by decide +kernel
theorem dX10_standTogether_65 : decode cX10_standTogether 65 = .ok (.invokevirtual 60, 3) := by decide +kernel
theorem dX10_standTogether_68 : decode cX10_standTogether 68 = .ok (.ifCond .ne 5, 3) := by decide +kernel
theorem dX10_standTogether_71 : decode cX10_standTogether 71 = .ok (.iconst 0, 1) := by decide +kernel
theorem dX10_standTogether_72 : decode cX10_standTogether 72 = .ok (.ireturn, 1) := by decide +kernel
theorem dX10_standTogether_73 : decode cX10_standTogether 73 = .ok (.iinc 4 1, 3) := by decide +kernel
theorem dX10_standTogether_76 : decode cX10_standTogether 76 = .ok (.goto (-71), 3) := by decide +kernel
theorem dX10_standTogether_79 : decode cX10_standTogether 79 = .ok (.iconst 1, 1) := by decide +kernel
theorem dX10_standTogether_80 : decode cX10_standTogether 80 = .ok (.ireturn, 1) := by decide +kernel
def tX10_standTogether_0 : Nat → Option am_Act := am_nd 21 (am_nd 8 (am_nd 3 (am_nd 1 (am_lf 0 (a_const (-1) 1)) (am_nd 2 (am_lf 1 (a_istore 3 2)) (am_lf 2 (a_const (nI 0) 3)))) (am_nd 5 (am_lf 3 (a_istore 4 5)) (am_nd 7 (am_lf 5 (a_iload 4 7)) (am_lf 7 (a_aload 0 8))))) (am_nd 17 (am_nd 11 (am_lf 8 (a_get tT 10 11 11)) (am_nd 14 (am_lf 11 (a_get tT 5 0 14)) (am_lf 14 (a_cmp (fun x y => y ≤ x) 79 17)))) (am_nd 18 (am_lf 17 (a_iload 1 18)) (am_nd 20 (am_lf 18 (a_iload 4 20)) (am_lf 20 (a_bin (fun x y => x >>> (y &&& 31)) 21)))))) (am_nd 31 (am_nd 26 (am_nd 22 (am_lf 21 (a_const (nI 1) 22)) (am_nd 23 (am_lf 22 (a_bin (fun x y => x &&& y) 23)) (am_lf 23 (a_if (fun x => x = nI 0) 26 29)))) (am_nd 29 (am_lf 26 (a_goto 73)) (am_nd 30 (am_lf 29 (a_iload 3 30)) (am_lf 30 (a_const (-1) 31))))) (am_nd 38 (am_nd 34 (am_lf 31 (a_cmp (fun x y => x = y) 34 45)) (am_nd 35 (am_lf 34 (a_aload 0 35)) (am_lf 35 (a_get tT 10 11 38)))) (am_nd 41 (am_lf 38 (a_get tT 5 1 41)) (am_nd 43 (am_lf 41 (a_iload 4 43)) (am_lf 43 (a_iald tT 44))))))
theorem gX10_standTogether_0 : am_Good tT mX10_standTogether tX10_standTogether_0 := am_nd_ok (am_nd_ok (am_nd_ok (am_nd_ok (am_lf_ok (fun _ => ok_iconst dX10_standTogether_0 cv_iconst_m1 rfl)) (am_nd_ok (am_lf_ok (fun _ => ok_istore_n dX10_standTogether_1 rfl (Nat.le_of_ble_eq_true rfl) rfl)) (am_lf_ok (fun _ => ok_iconst dX10_standTogether_2 cv_iconst_0 rfl)))) (am_nd_ok (am_lf_ok (fun _ => ok_istore dX10_standTogether_3 (Nat.le_of_ble_eq_true rfl) rfl)) (am_nd_ok (am_lf_ok (fun _ => ok_iload dX10_standTogether_5 rfl)) (am_lf_ok (fun _ => ok_aload_n dX10_standTogether_7 rfl rfl))))) (am_nd_ok (am_nd_ok (am_lf_ok (fun _ => ok_get (C := RX10) (TT := TX10) (N := 14) rfl inw_X10 (Nat.le_of_ble_eq_true rfl) wd_256 dX10_standTogether_8 rfl)) (am_nd_ok (am_lf_ok (fun _ => ok_get (C := RX5) (TT := TX5) (N := 8) rfl inw_X5 (Nat.le_of_ble_eq_true rfl) wd_257 dX10_standTogether_11 rfl)) (am_lf_ok (fun _ => ok_cmp_ge dX10_standTogether_14 rfl rfl)))) (am_nd_ok (am_lf_ok (fun _ => ok_iload_n dX10_standTogether_17 rfl rfl)) (am_nd_ok (am_lf_ok (fun _ => ok_iload dX10_standTogether_18 rfl)) (am_lf_ok (fun _ => ok_ishr dX10_standTogether_20 rfl)))))) (am_nd_ok (am_nd_ok (am_nd_ok (am_lf_ok (fun _ => ok_iconst dX10_standTogether_21 cv_iconst_1 rfl)) (am_nd_ok (am_lf_ok (fun _ => ok_iand dX10_standTogether_22 rfl)) (am_lf_ok (fun _ => ok_if_ne dX10_standTogether_23 rfl rfl)))) (am_nd_ok (am_lf_ok (fun _ => ok_goto dX10_standTogether_26 rfl)) (am_nd_ok (am_lf_ok (fun _ => ok_iload_n dX10_standTogether_29 rfl rfl)) (am_lf_ok (fun _ => ok_iconst dX10_standTogether_30 cv_iconst_m1 rfl))))) (am_nd_ok (am_nd_ok (am_lf_ok (fun _ => ok_cmp_ne dX10_standTogether_31 rfl rfl)) (am_nd_ok (am_lf_ok (fun _ => ok_aload_n dX10_standTogether_34 rfl rfl)) (am_lf_ok (fun _ => ok_get (C := RX10) (TT := TX10) (N := 14) rfl inw_X10 (Nat.le_of_ble_eq_true rfl) wd_256 dX10_standTogether_35 rfl)))) (am_nd_ok (am_lf_ok (fun _ => ok_get (C := RX5) (TT := TX5) (N := 8) rfl inw_X5 (Nat.le_of_ble_eq_true rfl) wd_261 dX10_standTogether_38 rfl)) (am_nd_ok (am_lf_ok (fun _ => ok_iload dX10_standTogether_41 rfl)) (am_lf_ok (fun _ => ok_iald dX10_standTogether_43 rfl))))))
def tX10_standTogether_1 : Nat → Option am_Act := am_nd 63 (am_nd 54 (am_nd 46 (am_nd 45 (am_lf 44 (a_istore 3 45)) (am_lf 45 (a_aload 0 46))) (am_nd 49 (am_lf 46 (a_get tT 10 11 49)) (am_nd 52 (am_lf 49 (a_get tT 5 1 52)) (am_lf 52 (a_iload 4 54))))) (am_nd 56 (am_nd 55 (am_lf 54 (a_iald tT 55)) (am_lf 55 (a_iload 3 56))) (am_nd 59 (am_lf 56 (a_cmp (fun x y => x = y) 59 71)) (am_nd 60 (am_lf 59 (a_aload 0 60)) (am_lf 60 (a_get tT 10 12 63)))))) (am_nd 72 (am_nd 65 (am_nd 64 (am_lf 63 (a_iload 2 64)) (am_lf 64 (a_iload 3 65))) (am_nd 68 (am_lf 65 (a_cvI tT mX2_touches 2 2 68)) (am_nd 71 (am_lf 68 (a_if (fun x => x = nI 0) 71 73)) (am_lf 71 (a_const (nI 0) 72))))) (am_nd 76 (am_nd 73 (am_lf 72 (a_zret)) (am_lf 73 (a_iinc 4 (nI 1) 76))) (am_nd 79 (am_lf 76 (a_goto 5)) (am_nd 80 (am_lf 79 (a_const (nI 1) 80)) (am_lf 80 (a_zret))))))
theorem gX10_standTogether_1 : am_Good tT mX10_standTogether tX10_standTogether_1 := am_nd_ok (am_nd_ok (am_nd_ok (am_nd_ok (am_lf_ok (fun _ => ok_istore_n dX10_standTogether_44 rfl (Nat.le_of_ble_eq_true rfl) rfl)) (am_lf_ok (fun _ => ok_aload_n dX10_standTogether_45 rfl rfl))) (am_nd_ok (am_lf_ok (fun _ => ok_get (C := RX10) (TT := TX10) (N := 14) rfl inw_X10 (Nat.le_of_ble_eq_true rfl) wd_256 dX10_standTogether_46 rfl)) (am_nd_ok (am_lf_ok (fun _ => ok_get (C := RX5) (TT := TX5) (N := 8) rfl inw_X5 (Nat.le_of_ble_eq_true rfl) wd_261 dX10_standTogether_49 rfl)) (am_lf_ok (fun _ => ok_iload dX10_standTogether_52 rfl))))) (am_nd_ok (am_nd_ok (am_lf_ok (fun _ => ok_iald dX10_standTogether_54 rfl)) (am_lf_ok (fun _ => ok_iload_n dX10_standTogether_55 rfl rfl))) (am_nd_ok (am_lf_ok (fun _ => ok_cmp_ne dX10_standTogether_56 rfl rfl)) (am_nd_ok (am_lf_ok (fun _ => ok_aload_n dX10_standTogether_59 rfl rfl)) (am_lf_ok (fun _ => ok_get (C := RX10) (TT := TX10) (N := 14) rfl inw_X10 (Nat.le_of_ble_eq_true rfl) wd_258 dX10_standTogether_60 rfl)))))) (am_nd_ok (am_nd_ok (am_nd_ok (am_lf_ok (fun _ => ok_iload_n dX10_standTogether_63 rfl rfl)) (am_lf_ok (fun _ => ok_iload_n dX10_standTogether_64 rfl rfl))) (am_nd_ok (am_lf_ok (fun _ => ok_cvI rfl mw_X2_touches (ci := 2) rfl rfl wd_262 wd_50 wd_51 dX10_standTogether_65 rfl)) (am_nd_ok (am_lf_ok (fun _ => ok_if_ne dX10_standTogether_68 rfl rfl)) (am_lf_ok (fun _ => ok_iconst dX10_standTogether_71 cv_iconst_0 rfl))))) (am_nd_ok (am_nd_ok (am_lf_ok (fun _ => ok_zret rfl dX10_standTogether_72)) (am_lf_ok (fun _ => ok_iinc dX10_standTogether_73 cv_iconst_1 (Nat.le_of_ble_eq_true rfl) rfl))) (am_nd_ok (am_lf_ok (fun _ => ok_goto dX10_standTogether_76 rfl)) (am_nd_ok (am_lf_ok (fun _ => ok_iconst dX10_standTogether_79 cv_iconst_1 rfl)) (am_lf_ok (fun _ => ok_zret rfl dX10_standTogether_80))))))
def tX10_standTogether : Nat → Option am_Act := am_nd 44 (tX10_standTogether_0) (tX10_standTogether_1)
theorem gX10_standTogether : am_Good tT mX10_standTogether tX10_standTogether := am_nd_ok (gX10_standTogether_0) (gX10_standTogether_1)
theorem dX10_lettersOf_0 : decode cX10_lettersOf 0 = .ok (.iconst 0, 1) := by decide +kernel
theorem dX10_lettersOf_1 : decode cX10_lettersOf 1 = .ok (.istore_n 2, 1) := by decide +kernel
theorem dX10_lettersOf_2 : decode cX10_lettersOf 2 = .ok (.iconst 0, 1) := by decide +kernel
theorem dX10_lettersOf_3 : decode cX10_lettersOf 3 = .ok (.istore_n 3, 1) := by decide +kernel
theorem dX10_lettersOf_4 : decode cX10_lettersOf 4 = .ok (.iload_n 3, 1) := by decide +kernel
theorem dX10_lettersOf_5 : decode cX10_lettersOf 5 = .ok (.aload_n 0, 1) := by decide +kernel
theorem dX10_lettersOf_6 : decode cX10_lettersOf 6 = .ok (.getfield 27, 3) := by decide +kernel
theorem dX10_lettersOf_9 : decode cX10_lettersOf 9 = .ok (.getfield 64, 3) := by decide +kernel
theorem dX10_lettersOf_12 : decode cX10_lettersOf 12 = .ok (.iload_n 1, 1) := by decide +kernel
theorem dX10_lettersOf_13 : decode cX10_lettersOf 13 = .ok (.iaload, 1) := by decide +kernel
theorem dX10_lettersOf_14 : decode cX10_lettersOf 14 = .ok (.if_icmp .ge 26, 3) := by decide +kernel
theorem dX10_lettersOf_17 : decode cX10_lettersOf 17 = .ok (.iload_n 2, 1) := by decide +kernel
theorem dX10_lettersOf_18 : decode cX10_lettersOf 18 = .ok (.aload_n 0, 1) := by decide +kernel
theorem dX10_lettersOf_19 : decode cX10_lettersOf 19 = .ok (.getfield 15, 3) := by decide +kernel
theorem dX10_lettersOf_22 : decode cX10_lettersOf 22 = .ok (.aload_n 0, 1) := by decide +kernel
theorem dX10_lettersOf_23 : decode cX10_lettersOf 23 = .ok (.getfield 27, 3) := by decide +kernel
theorem dX10_lettersOf_26 : decode cX10_lettersOf 26 = .ok (.iload_n 1, 1) := by decide +kernel
theorem dX10_lettersOf_27 : decode cX10_lettersOf 27 = .ok (.iload_n 3, 1) := by decide +kernel
theorem dX10_lettersOf_28 : decode cX10_lettersOf 28 = .ok (.invokevirtual 67, 3) := by decide +kernel
theorem dX10_lettersOf_31 : decode cX10_lettersOf 31 = .ok (.iaload, 1) := by decide +kernel
theorem dX10_lettersOf_32 : decode cX10_lettersOf 32 = .ok (.iadd, 1) := by decide +kernel
theorem dX10_lettersOf_33 : decode cX10_lettersOf 33 = .ok (.istore_n 2, 1) := by decide +kernel
theorem dX10_lettersOf_34 : decode cX10_lettersOf 34 = .ok (.iinc 3 1, 3) := by decide +kernel
theorem dX10_lettersOf_37 : decode cX10_lettersOf 37 = .ok (.goto (-33), 3) := by decide +kernel
theorem dX10_lettersOf_40 : decode cX10_lettersOf 40 = .ok (.iload_n 2, 1) := by decide +kernel
theorem dX10_lettersOf_41 : decode cX10_lettersOf 41 = .ok (.ireturn, 1) := by decide +kernel
def tX10_lettersOf_0 : Nat → Option am_Act := am_nd 18 (am_nd 6 (am_nd 3 (am_nd 1 (am_lf 0 (a_const (nI 0) 1)) (am_nd 2 (am_lf 1 (a_istore 2 2)) (am_lf 2 (a_const (nI 0) 3)))) (am_nd 4 (am_lf 3 (a_istore 3 4)) (am_nd 5 (am_lf 4 (a_iload 3 5)) (am_lf 5 (a_aload 0 6))))) (am_nd 13 (am_nd 9 (am_lf 6 (a_get tT 10 11 9)) (am_nd 12 (am_lf 9 (a_get tT 5 6 12)) (am_lf 12 (a_iload 1 13)))) (am_nd 14 (am_lf 13 (a_iald tT 14)) (am_nd 17 (am_lf 14 (a_cmp (fun x y => y ≤ x) 40 17)) (am_lf 17 (a_iload 2 18)))))) (am_nd 28 (am_nd 23 (am_nd 19 (am_lf 18 (a_aload 0 19)) (am_nd 22 (am_lf 19 (a_get tT 10 6 22)) (am_lf 22 (a_aload 0 23)))) (am_nd 26 (am_lf 23 (a_get tT 10 11 26)) (am_nd 27 (am_lf 26 (a_iload 1 27)) (am_lf 27 (a_iload 3 28))))) (am_nd 33 (am_nd 31 (am_lf 28 (a_cvI tT mX5_nameAt 5 2 31)) (am_nd 32 (am_lf 31 (a_iald tT 32)) (am_lf 32 (a_bin (fun x y => x + y) 33)))) (am_nd 34 (am_lf 33 (a_istore 2 34)) (am_nd 37 (am_lf 34 (a_iinc 3 (nI 1) 37)) (am_lf 37 (a_goto 4))))))
theorem gX10_lettersOf_0 : am_Good tT mX10_lettersOf tX10_lettersOf_0 := am_nd_ok (am_nd_ok (am_nd_ok (am_nd_ok (am_lf_ok (fun _ => ok_iconst dX10_lettersOf_0 cv_iconst_0 rfl)) (am_nd_ok (am_lf_ok (fun _ => ok_istore_n dX10_lettersOf_1 rfl (Nat.le_of_ble_eq_true rfl) rfl)) (am_lf_ok (fun _ => ok_iconst dX10_lettersOf_2 cv_iconst_0 rfl)))) (am_nd_ok (am_lf_ok (fun _ => ok_istore_n dX10_lettersOf_3 rfl (Nat.le_of_ble_eq_true rfl) rfl)) (am_nd_ok (am_lf_ok (fun _ => ok_iload_n dX10_lettersOf_4 rfl rfl)) (am_lf_ok (fun _ => ok_aload_n dX10_lettersOf_5 rfl rfl))))) (am_nd_ok (am_nd_ok (am_lf_ok (fun _ => ok_get (C := RX10) (TT := TX10) (N := 14) rfl inw_X10 (Nat.le_of_ble_eq_true rfl) wd_256 dX10_lettersOf_6 rfl)) (am_nd_ok (am_lf_ok (fun _ => ok_get (C := RX5) (TT := TX5) (N := 8) rfl inw_X5 (Nat.le_of_ble_eq_true rfl) wd_263 dX10_lettersOf_9 rfl)) (am_lf_ok (fun _ => ok_iload_n dX10_lettersOf_12 rfl rfl)))) (am_nd_ok (am_lf_ok (fun _ => ok_iald dX10_lettersOf_13 rfl)) (am_nd_ok (am_lf_ok (fun _ => ok_cmp_ge dX10_lettersOf_14 rfl rfl)) (am_lf_ok (fun _ => ok_iload_n dX10_lettersOf_17 rfl rfl)))))) (am_nd_ok (am_nd_ok (am_nd_ok (am_lf_ok (fun _ => ok_aload_n dX10_lettersOf_18 rfl rfl)) (am_nd_ok (am_lf_ok (fun _ => ok_get (C := RX10) (TT := TX10) (N := 14) rfl inw_X10 (Nat.le_of_ble_eq_true rfl) wd_264 dX10_lettersOf_19 rfl)) (am_lf_ok (fun _ => ok_aload_n dX10_lettersOf_22 rfl rfl)))) (am_nd_ok (am_lf_ok (fun _ => ok_get (C := RX10) (TT := TX10) (N := 14) rfl inw_X10 (Nat.le_of_ble_eq_true rfl) wd_256 dX10_lettersOf_23 rfl)) (am_nd_ok (am_lf_ok (fun _ => ok_iload_n dX10_lettersOf_26 rfl rfl)) (am_lf_ok (fun _ => ok_iload_n dX10_lettersOf_27 rfl rfl))))) (am_nd_ok (am_nd_ok (am_lf_ok (fun _ => ok_cvI rfl mw_X5_nameAt (ci := 5) rfl rfl wd_265 wd_205 wd_206 dX10_lettersOf_28 rfl)) (am_nd_ok (am_lf_ok (fun _ => ok_iald dX10_lettersOf_31 rfl)) (am_lf_ok (fun _ => ok_iadd dX10_lettersOf_32 rfl)))) (am_nd_ok (am_lf_ok (fun _ => ok_istore_n dX10_lettersOf_33 rfl (Nat.le_of_ble_eq_true rfl) rfl)) (am_nd_ok (am_lf_ok (fun _ => ok_iinc dX10_lettersOf_34 cv_iconst_1 (Nat.le_of_ble_eq_true rfl) rfl)) (am_lf_ok (fun _ => ok_goto dX10_lettersOf_37 rfl))))))
def tX10_lettersOf_1 : Nat → Option am_Act := am_nd 41 (am_lf 40 (a_iload 2 41)) (am_lf 41 (a_iret))
theorem gX10_lettersOf_1 : am_Good tT mX10_lettersOf tX10_lettersOf_1 := am_nd_ok (am_lf_ok (fun _ => ok_iload_n dX10_lettersOf_40 rfl rfl)) (am_lf_ok (fun _ => ok_iret rfl dX10_lettersOf_41))
def tX10_lettersOf : Nat → Option am_Act := am_nd 40 (tX10_lettersOf_0) (tX10_lettersOf_1)
theorem gX10_lettersOf : am_Good tT mX10_lettersOf tX10_lettersOf := am_nd_ok (gX10_lettersOf_0) (gX10_lettersOf_1)
theorem dX10_enter_0 : decode cX10_enter 0 = .ok (.aload_n 0, 1) := by decide +kernel
theorem dX10_enter_1 : decode cX10_enter 1 = .ok (.getfield 71, 3) := by decide +kernel
theorem dX10_enter_4 : decode cX10_enter 4 = .ok (.bipush 100, 2) := by decide +kernel
theorem dX10_enter_6 : decode cX10_enter 6 = .ok (.if_icmp .lt 5, 3) := by decide +kernel
theorem dX10_enter_9 : decode cX10_enter 9 = .ok (.iconst 0, 1) := by decide +kernel
theorem dX10_enter_10 : decode cX10_enter 10 = .ok (.ireturn, 1) := by decide +kernel
theorem dX10_enter_11 : decode cX10_enter 11 = .ok (.aload_n 0, 1) := by decide +kernel
theorem dX10_enter_12 : decode cX10_enter 12 = .ok (.getfield 71, 3) := by decide +kernel
theorem dX10_enter_15 : decode cX10_enter 15 = .ok (.iconst 4, 1) := by decide +kernel
theorem dX10_enter_16 : decode cX10_enter 16 = .ok (.imul, 1) := by decide +kernel
theorem dX10_enter_17 : decode cX10_enter 17 = .ok (.istore 4, 2) := by decide +kernel
theorem dX10_enter_19 : decode cX10_enter 19 = .ok (.aload_n 0, 1) := by decide +kernel
theorem dX10_enter_20 : decode cX10_enter 20 = .ok (.getfield 18, 3) := by decide +kernel
theorem dX10_enter_23 : decode cX10_enter 23 = .ok (.iload 4, 2) := by decide +kernel
theorem dX10_enter_25 : decode cX10_enter 25 = .ok (.iload_n 1, 1) := by decide +kernel
theorem dX10_enter_26 : decode cX10_enter 26 = .ok (.iastore, 1) := by decide +kernel
theorem dX10_enter_27 : decode cX10_enter 27 = .ok (.aload_n 0, 1) := by decide +kernel
theorem dX10_enter_28 : decode cX10_enter 28 = .ok (.getfield 18, 3) := by decide +kernel
theorem dX10_enter_31 : decode cX10_enter 31 = .ok (.iload 4, 2) := by decide +kernel
theorem dX10_enter_33 : decode cX10_enter 33 = .ok (.iconst 1, 1) := by decide +kernel
theorem dX10_enter_34 : decode cX10_enter 34 = .ok (.iadd, 1) := by decide +kernel
theorem dX10_enter_35 : decode cX10_enter 35 = .ok (.iload_n 2, 1) := by decide +kernel
theorem dX10_enter_36 : decode cX10_enter 36 = .ok (.iastore, 1) := by decide +kernel
theorem dX10_enter_37 : decode cX10_enter 37 = .ok (.aload_n 0, 1) := by decide +kernel
theorem dX10_enter_38 : decode cX10_enter 38 = .ok (.getfield 18, 3) := by decide +kernel
theorem dX10_enter_41 : decode cX10_enter 41 = .ok (.iload 4, 2) := by decide +kernel
theorem dX10_enter_43 : decode cX10_enter 43 = .ok (.iconst 2, 1) := by decide +kernel
theorem dX10_enter_44 : decode cX10_enter 44 = .ok (.iadd, 1) := by decide +kernel
theorem dX10_enter_45 : decode cX10_enter 45 = .ok (.iload_n 3, 1) := by decide +kernel
theorem dX10_enter_46 : decode cX10_enter 46 = .ok (.iastore, 1) := by decide +kernel
theorem dX10_enter_47 : decode cX10_enter 47 = .ok (.aload_n 0, 1) := by decide +kernel
theorem dX10_enter_48 : decode cX10_enter 48 = .ok (.getfield 18, 3) := by decide +kernel
theorem dX10_enter_51 : decode cX10_enter 51 = .ok (.iload 4, 2) := by decide +kernel
theorem dX10_enter_53 : decode cX10_enter 53 = .ok (.iconst 3, 1) := by decide +kernel
theorem dX10_enter_54 : decode cX10_enter 54 = .ok (.iadd, 1) := by decide +kernel
theorem dX10_enter_55 : decode cX10_enter 55 = .ok (.aload_n 0, 1) := by decide +kernel
theorem dX10_enter_56 : decode cX10_enter 56 = .ok (.getfield 74, 3) := by decide +kernel
theorem dX10_enter_59 : decode cX10_enter 59 = .ok (.iastore, 1) := by decide +kernel
theorem dX10_enter_60 : decode cX10_enter 60 = .ok (.aload_n 0, 1) := by decide +kernel
theorem dX10_enter_61 : decode cX10_enter 61 = .ok (.dup, 1) := by decide +kernel
theorem dX10_enter_62 : decode cX10_enter 62 = .ok (.getfield 71, 3) := by decide +kernel
theorem dX10_enter_65 : decode cX10_enter 65 = .ok (.iconst 1, 1) := by decide +kernel
theorem dX10_enter_66 : decode cX10_enter 66 = .ok (.iadd, 1) := by decide +kernel
theorem dX10_enter_67 : decode cX10_enter 67 = .ok (.putfield 71, 3) := by decide +kernel
theorem dX10_enter_70 : decode cX10_enter 70 = .ok (.iconst 1, 1) := by decide +kernel
theorem dX10_enter_71 : decode cX10_enter 71 = .ok (.ireturn, 1) := by decide +kernel
def tX10_enter_0 : Nat → Option am_Act := am_nd 20 (am_nd 11 (am_nd 6 (am_nd 1 (am_lf 0 (a_aload 0 1)) (am_nd 4 (am_lf 1 (a_get tT 10 7 4)) (am_lf 4 (a_const (nI 100) 6)))) (am_nd 9 (am_lf 6 (a_cmp (fun x y => x < y) 11 9)) (am_nd 10 (am_lf 9 (a_const (nI 0) 10)) (am_lf 10 (a_zret))))) (am_nd 16 (am_nd 12 (am_lf 11 (a_aload 0 12)) (am_nd 15 (am_lf 12 (a_get tT 10 7 15)) (am_lf 15 (a_const (nI 4) 16)))) (am_nd 17 (am_lf 16 (a_bin (fun x y => x * y) 17)) (am_nd 19 (am_lf 17 (a_istore 4 19)) (am_lf 19 (a_aload 0 20)))))) (am_nd 31 (am_nd 26 (am_nd 23 (am_lf 20 (a_get tT 10 8 23)) (am_nd 25 (am_lf 23 (a_iload 4 25)) (am_lf 25 (a_iload 1 26)))) (am_nd 27 (am_lf 26 (a_iast tT 27)) (am_nd 28 (am_lf 27 (a_aload 0 28)) (am_lf 28 (a_get tT 10 8 31))))) (am_nd 35 (am_nd 33 (am_lf 31 (a_iload 4 33)) (am_nd 34 (am_lf 33 (a_const (nI 1) 34)) (am_lf 34 (a_bin (fun x y => x + y) 35)))) (am_nd 36 (am_lf 35 (a_iload 2 36)) (am_nd 37 (am_lf 36 (a_iast tT 37)) (am_lf 37 (a_aload 0 38))))))
theorem gX10_enter_0 : am_Good tT mX10_enter tX10_enter_0 := am_nd_ok (am_nd_ok (am_nd_ok (am_nd_ok (am_lf_ok (fun _ => ok_aload_n dX10_enter_0 rfl rfl)) (am_nd_ok (am_lf_ok (fun _ => ok_get (C := RX10) (TT := TX10) (N := 14) rfl inw_X10 (Nat.le_of_ble_eq_true rfl) wd_266 dX10_enter_1 rfl)) (am_lf_ok (fun _ => ok_bipush dX10_enter_4 cv_bipush_100 rfl)))) (am_nd_ok (am_lf_ok (fun _ => ok_cmp_lt dX10_enter_6 rfl rfl)) (am_nd_ok (am_lf_ok (fun _ => ok_iconst dX10_enter_9 cv_iconst_0 rfl)) (am_lf_ok (fun _ => ok_zret rfl dX10_enter_10))))) (am_nd_ok (am_nd_ok (am_lf_ok (fun _ => ok_aload_n dX10_enter_11 rfl rfl)) (am_nd_ok (am_lf_ok (fun _ => ok_get (C := RX10) (TT := TX10) (N := 14) rfl inw_X10 (Nat.le_of_ble_eq_true rfl) wd_266 dX10_enter_12 rfl)) (am_lf_ok (fun _ => ok_iconst dX10_enter_15 cv_iconst_4 rfl)))) (am_nd_ok (am_lf_ok (fun _ => ok_imul dX10_enter_16 rfl)) (am_nd_ok (am_lf_ok (fun _ => ok_istore dX10_enter_17 (Nat.le_of_ble_eq_true rfl) rfl)) (am_lf_ok (fun _ => ok_aload_n dX10_enter_19 rfl rfl)))))) (am_nd_ok (am_nd_ok (am_nd_ok (am_lf_ok (fun _ => ok_get (C := RX10) (TT := TX10) (N := 14) rfl inw_X10 (Nat.le_of_ble_eq_true rfl) wd_267 dX10_enter_20 rfl)) (am_nd_ok (am_lf_ok (fun _ => ok_iload dX10_enter_23 rfl)) (am_lf_ok (fun _ => ok_iload_n dX10_enter_25 rfl rfl)))) (am_nd_ok (am_lf_ok (fun _ => ok_iast dX10_enter_26 rfl)) (am_nd_ok (am_lf_ok (fun _ => ok_aload_n dX10_enter_27 rfl rfl)) (am_lf_ok (fun _ => ok_get (C := RX10) (TT := TX10) (N := 14) rfl inw_X10 (Nat.le_of_ble_eq_true rfl) wd_267 dX10_enter_28 rfl))))) (am_nd_ok (am_nd_ok (am_lf_ok (fun _ => ok_iload dX10_enter_31 rfl)) (am_nd_ok (am_lf_ok (fun _ => ok_iconst dX10_enter_33 cv_iconst_1 rfl)) (am_lf_ok (fun _ => ok_iadd dX10_enter_34 rfl)))) (am_nd_ok (am_lf_ok (fun _ => ok_iload_n dX10_enter_35 rfl rfl)) (am_nd_ok (am_lf_ok (fun _ => ok_iast dX10_enter_36 rfl)) (am_lf_ok (fun _ => ok_aload_n dX10_enter_37 rfl rfl))))))
def tX10_enter_1 : Nat → Option am_Act := am_nd 55 (am_nd 46 (am_nd 43 (am_nd 41 (am_lf 38 (a_get tT 10 8 41)) (am_lf 41 (a_iload 4 43))) (am_nd 44 (am_lf 43 (a_const (nI 2) 44)) (am_nd 45 (am_lf 44 (a_bin (fun x y => x + y) 45)) (am_lf 45 (a_iload 3 46))))) (am_nd 51 (am_nd 47 (am_lf 46 (a_iast tT 47)) (am_nd 48 (am_lf 47 (a_aload 0 48)) (am_lf 48 (a_get tT 10 8 51)))) (am_nd 53 (am_lf 51 (a_iload 4 53)) (am_nd 54 (am_lf 53 (a_const (nI 3) 54)) (am_lf 54 (a_bin (fun x y => x + y) 55)))))) (am_nd 62 (am_nd 59 (am_nd 56 (am_lf 55 (a_aload 0 56)) (am_lf 56 (a_get tT 10 3 59))) (am_nd 60 (am_lf 59 (a_iast tT 60)) (am_nd 61 (am_lf 60 (a_aload 0 61)) (am_lf 61 (a_dup 62))))) (am_nd 67 (am_nd 65 (am_lf 62 (a_get tT 10 7 65)) (am_nd 66 (am_lf 65 (a_const (nI 1) 66)) (am_lf 66 (a_bin (fun x y => x + y) 67)))) (am_nd 70 (am_lf 67 (a_put tT 10 7 70)) (am_nd 71 (am_lf 70 (a_const (nI 1) 71)) (am_lf 71 (a_zret))))))
theorem gX10_enter_1 : am_Good tT mX10_enter tX10_enter_1 := am_nd_ok (am_nd_ok (am_nd_ok (am_nd_ok (am_lf_ok (fun _ => ok_get (C := RX10) (TT := TX10) (N := 14) rfl inw_X10 (Nat.le_of_ble_eq_true rfl) wd_267 dX10_enter_38 rfl)) (am_lf_ok (fun _ => ok_iload dX10_enter_41 rfl))) (am_nd_ok (am_lf_ok (fun _ => ok_iconst dX10_enter_43 cv_iconst_2 rfl)) (am_nd_ok (am_lf_ok (fun _ => ok_iadd dX10_enter_44 rfl)) (am_lf_ok (fun _ => ok_iload_n dX10_enter_45 rfl rfl))))) (am_nd_ok (am_nd_ok (am_lf_ok (fun _ => ok_iast dX10_enter_46 rfl)) (am_nd_ok (am_lf_ok (fun _ => ok_aload_n dX10_enter_47 rfl rfl)) (am_lf_ok (fun _ => ok_get (C := RX10) (TT := TX10) (N := 14) rfl inw_X10 (Nat.le_of_ble_eq_true rfl) wd_267 dX10_enter_48 rfl)))) (am_nd_ok (am_lf_ok (fun _ => ok_iload dX10_enter_51 rfl)) (am_nd_ok (am_lf_ok (fun _ => ok_iconst dX10_enter_53 cv_iconst_3 rfl)) (am_lf_ok (fun _ => ok_iadd dX10_enter_54 rfl)))))) (am_nd_ok (am_nd_ok (am_nd_ok (am_lf_ok (fun _ => ok_aload_n dX10_enter_55 rfl rfl)) (am_lf_ok (fun _ => ok_get (C := RX10) (TT := TX10) (N := 14) rfl inw_X10 (Nat.le_of_ble_eq_true rfl) wd_268 dX10_enter_56 rfl))) (am_nd_ok (am_lf_ok (fun _ => ok_iast dX10_enter_59 rfl)) (am_nd_ok (am_lf_ok (fun _ => ok_aload_n dX10_enter_60 rfl rfl)) (am_lf_ok (fun _ => ok_dup dX10_enter_61 rfl))))) (am_nd_ok (am_nd_ok (am_lf_ok (fun _ => ok_get (C := RX10) (TT := TX10) (N := 14) rfl inw_X10 (Nat.le_of_ble_eq_true rfl) wd_266 dX10_enter_62 rfl)) (am_nd_ok (am_lf_ok (fun _ => ok_iconst dX10_enter_65 cv_iconst_1 rfl)) (am_lf_ok (fun _ => ok_iadd dX10_enter_66 rfl)))) (am_nd_ok (am_lf_ok (fun _ => ok_put (C := RX10) (TT := TX10) (N := 14) (ty0 := tyX10) rfl inw_X10 tyX10_ok nmX10 (Nat.le_of_ble_eq_true rfl) rfl rfl wd_266 dX10_enter_67 rfl)) (am_nd_ok (am_lf_ok (fun _ => ok_iconst dX10_enter_70 cv_iconst_1 rfl)) (am_lf_ok (fun _ => ok_zret rfl dX10_enter_71))))))
def tX10_enter : Nat → Option am_Act := am_nd 38 (tX10_enter_0) (tX10_enter_1)
theorem gX10_enter : am_Good tT mX10_enter tX10_enter := am_nd_ok (gX10_enter_0) (gX10_enter_1)
theorem dX10_growBack_0 : decode cX10_growBack 0 = .ok (.aload_n 0, 1) := by decide +kernel
theorem dX10_growBack_1 : decode cX10_growBack 1 = .ok (.getfield 27, 3) := by decide +kernel
theorem dX10_growBack_4 : decode cX10_growBack 4 = .ok (.getfield 77, 3) := by decide +kernel
theorem dX10_growBack_7 : decode cX10_growBack 7 = .ok (.iload_n 1, 1) := by decide +kernel
theorem dX10_growBack_8 : decode cX10_growBack 8 = .ok (.iaload, 1) := by decide +kernel
theorem dX10_growBack_9 : decode cX10_growBack 9 = .ok (.aload_n 0, 1) := by decide +kernel
theorem dX10_growBack_10 : decode cX10_growBack 10 = .ok (.getfield 27, 3) := by decide +kernel
theorem dX10_growBack_13 : decode cX10_growBack 13 = .ok (.getfield 80, 3) := by decide +kernel
theorem dX10_growBack_16 : decode cX10_growBack 16 = .ok (.iload_n 1, 1) := by decide +kernel
theorem dX10_growBack_17 : decode cX10_growBack 17 = .ok (.iaload, 1) := by decide +kernel
theorem dX10_growBack_18 : decode cX10_growBack 18 = .ok (.iconst (-1), 1) := by decide +kernel
theorem dX10_growBack_19 : decode cX10_growBack 19 = .ok (.ixor, 1) := by decide +kernel
theorem dX10_growBack_20 : decode cX10_growBack 20 = .ok (.iand, 1) := by decide +kernel
theorem dX10_growBack_21 : decode cX10_growBack 21 = .ok (.istore_n 2, 1) := by decide +kernel
theorem dX10_growBack_22 : decode cX10_growBack 22 = .ok (.aload_n 0, 1) := by decide +kernel
theorem dX10_growBack_23 : decode cX10_growBack 23 = .ok (.getfield 83, 3) := by decide +kernel
theorem dX10_growBack_26 : decode cX10_growBack 26 = .ok (.ifCond .eq 21, 3) := by decide +kernel
theorem dX10_growBack_29 : decode cX10_growBack 29 = .ok (.iload_n 2, 1) := by decide +kernel
theorem dX10_growBack_30 : decode cX10_growBack 30 = .ok (.ifCond .eq 17, 3) := by decide +kernel
theorem dX10_growBack_33 : decode cX10_growBack 33 = .ok (.aload_n 0, 1) := by decide +kernel
theorem dX10_growBack_34 : decode cX10_growBack 34 = .ok (.getfield 27, 3) := by decide +kernel
theorem dX10_growBack_37 : decode cX10_growBack 37 = .ok (.getfield 64, 3) := by decide +kernel
theorem dX10_growBack_40 : decode cX10_growBack 40 = .ok (.iload_n 1, 1) := by decide +kernel
theorem dX10_growBack_41 : decode cX10_growBack 41 = .ok (.iaload, 1) := by decide +kernel
theorem dX10_growBack_42 : decode cX10_growBack 42 = .ok (.bipush 9, 2) := by decide +kernel
theorem dX10_growBack_44 : decode cX10_growBack 44 = .ok (.if_icmp .lt 5, 3) := by decide +kernel
theorem dX10_growBack_47 : decode cX10_growBack 47 = .ok (.iconst 0, 1) := by decide +kernel
theorem dX10_growBack_48 : decode cX10_growBack 48 = .ok (.ireturn, 1) := by decide +kernel
theorem dX10_growBack_49 : decode cX10_growBack 49 = .ok (.aload_n 0, 1) := by decide +kernel
theorem dX10_growBack_50 : decode cX10_growBack 50 = .ok (.sipush 1000, 3) := by decide +kernel
theorem dX10_growBack_53 : decode cX10_growBack 53 = .ok (.invokevirtual 86, 3) := by decide +kernel
theorem dX10_growBack_56 : decode cX10_growBack 56 = .ok (.aload_n 0, 1) := by decide +kernel
theorem dX10_growBack_57 : decode cX10_growBack 57 = .ok (.getfield 83, 3) := by decide +kernel
theorem dX10_growBack_60 : decode cX10_growBack 60 = .ok (.if_icmp .lt 5, 3) := by decide +kernel
theorem dX10_growBack_63 : decode cX10_growBack 63 = .ok (.iconst 0, 1) := by decide +kernel
theorem dX10_growBack_64 : decode cX10_growBack 64 = .ok (.ireturn, 1) := by decide +kernel
theorem dX10_growBack_65 : decode cX10_growBack 65 = .ok (.aload_n 0, 1) := by decide +kernel
theorem dX10_growBack_66 : decode cX10_growBack 66 = .ok (.iload_n 2, 1) := by decide +kernel
theorem dX10_growBack_67 : decode cX10_growBack 67 = .ok (.invokestatic 90, 3) := by decide +kernel
theorem dX10_growBack_70 : decode cX10_growBack 70 = .ok (.invokevirtual 86, 3) := by decide +kernel
theorem dX10_growBack_73 : decode cX10_growBack 73 = .ok (.istore_n 3, 1) := by decide +kernel
theorem dX10_growBack_74 : decode cX10_growBack 74 = .ok (.iconst 0, 1) := by decide +kernel
theorem dX10_growBack_75 : decode cX10_growBack 75 = .ok (.istore 4, 2) := by decide +kernel
theorem dX10_growBack_77 : decode cX10_growBack 77 = .ok (.iload 4, 2) := by decide +kernel
theorem dX10_growBack_79 : decode cX10_growBack 79 = .ok (.aload_n 0, 1) := by decide +kernel
theorem dX10_growBack_80 : decode cX10_growBack 80 = .ok (.getfield 45, 3) := by decide +kernel
theorem dX10_growBack_83 : decode cX10_growBack 83 = .ok (.if_icmp .ge 40, 3) := by decide +kernel
theorem dX10_growBack_86 : decode cX10_growBack 86 = .ok (.iload_n 2, 1) := by decide +kernel
theorem dX10_growBack_87 : decode cX10_growBack 87 = .ok (.iload 4, 2) := by decide +kernel
theorem dX10_growBack_89 : decode cX10_growBack 89 = .ok (.ishr, 1) := by decide +kernel
theorem dX10_growBack_90 : decode cX10_growBack 90 = .ok (.iconst 1, 1) := by decide +kernel
theorem dX10_growBack_91 : decode cX10_growBack 91 = .ok (.iand, 1) := by decide +kernel
theorem dX10_growBack_92 : decode cX10_growBack 92 = .ok (.ifCond .ne 6, 3) := by decide +kernel
theorem dX10_growBack_95 : decode cX10_growBack 95 = .ok (.goto 22, 3) := by decide +kernel
theorem dX10_growBack_98 : decode cX10_growBack 98 = .ok (.iload_n 3, 1) := by decide +kernel
theorem dX10_growBack_99 : decode cX10_growBack 99 = .ok (.ifCond .ne 15, 3) := by decide +kernel
theorem dX10_growBack_102 : decode cX10_growBack 102 = .ok (.aload_n 0, 1) := by decide +kernel
theorem dX10_growBack_103 : decode cX10_growBack 103 = .ok (.getfield 27, 3) := by decide +kernel
theorem dX10_growBack_106 : decode cX10_growBack 106 = .ok (.iload_n 1, 1) := by decide +kernel
theorem dX10_growBack_107 : decode cX10_growBack 107 = .ok (.iload 4, 2) := by decide +kernel
theorem dX10_growBack_109 : decode cX10_growBack 109 = .ok (.invokevirtual 95, 3) := by decide +kernel
theorem dX10_growBack_112 : decode cX10_growBack 112 = .ok (.iconst 1, 1) := by decide +kernel
theorem dX10_growBack_113 : decode cX10_growBack 113 = .ok (.ireturn, 1) := by decide +kernel
theorem dX10_growBack_114 : decode cX10_growBack 114 = .ok (.iinc 3 (-1), 3) := by decide +kernel
theorem dX10_growBack_117 : decode cX10_growBack 117 = .ok (.iinc 4 1, 3) := by decide +kernel
theorem dX10_growBack_120 : decode cX10_growBack 120 = .ok (.goto (-43), 3) := by decide +kernel
theorem dX10_growBack_123 : decode cX10_growBack 123 = .ok (.iconst 0, 1) := by decide +kernel
theorem dX10_growBack_124 : decode cX10_growBack 124 = .ok (.ireturn, 1) := by decide +kernel
def tX10_growBack_0 : Nat → Option am_Act := am_nd 20 (am_nd 10 (am_nd 7 (am_nd 1 (am_lf 0 (a_aload 0 1)) (am_nd 4 (am_lf 1 (a_get tT 10 11 4)) (am_lf 4 (a_get tT 5 3 7)))) (am_nd 8 (am_lf 7 (a_iload 1 8)) (am_nd 9 (am_lf 8 (a_iald tT 9)) (am_lf 9 (a_aload 0 10))))) (am_nd 17 (am_nd 13 (am_lf 10 (a_get tT 10 11 13)) (am_nd 16 (am_lf 13 (a_get tT 5 5 16)) (am_lf 16 (a_iload 1 17)))) (am_nd 18 (am_lf 17 (a_iald tT 18)) (am_nd 19 (am_lf 18 (a_const (-1) 19)) (am_lf 19 (a_bin (fun x y => x ^^^ y) 20)))))) (am_nd 30 (am_nd 23 (am_nd 21 (am_lf 20 (a_bin (fun x y => x &&& y) 21)) (am_nd 22 (am_lf 21 (a_istore 2 22)) (am_lf 22 (a_aload 0 23)))) (am_nd 26 (am_lf 23 (a_get tT 10 1 26)) (am_nd 29 (am_lf 26 (a_if (fun x => x = nI 0) 47 29)) (am_lf 29 (a_iload 2 30))))) (am_nd 37 (am_nd 33 (am_lf 30 (a_if (fun x => x = nI 0) 47 33)) (am_nd 34 (am_lf 33 (a_aload 0 34)) (am_lf 34 (a_get tT 10 11 37)))) (am_nd 40 (am_lf 37 (a_get tT 5 6 40)) (am_nd 41 (am_lf 40 (a_iload 1 41)) (am_lf 41 (a_iald tT 42))))))
theorem gX10_growBack_0 : am_Good tT mX10_growBack tX10_growBack_0 := am_nd_ok (am_nd_ok (am_nd_ok (am_nd_ok (am_lf_ok (fun _ => ok_aload_n dX10_growBack_0 rfl rfl)) (am_nd_ok (am_lf_ok (fun _ => ok_get (C := RX10) (TT := TX10) (N := 14) rfl inw_X10 (Nat.le_of_ble_eq_true rfl) wd_256 dX10_growBack_1 rfl)) (am_lf_ok (fun _ => ok_get (C := RX5) (TT := TX5) (N := 8) rfl inw_X5 (Nat.le_of_ble_eq_true rfl) wd_269 dX10_growBack_4 rfl)))) (am_nd_ok (am_lf_ok (fun _ => ok_iload_n dX10_growBack_7 rfl rfl)) (am_nd_ok (am_lf_ok (fun _ => ok_iald dX10_growBack_8 rfl)) (am_lf_ok (fun _ => ok_aload_n dX10_growBack_9 rfl rfl))))) (am_nd_ok (am_nd_ok (am_lf_ok (fun _ => ok_get (C := RX10) (TT := TX10) (N := 14) rfl inw_X10 (Nat.le_of_ble_eq_true rfl) wd_256 dX10_growBack_10 rfl)) (am_nd_ok (am_lf_ok (fun _ => ok_get (C := RX5) (TT := TX5) (N := 8) rfl inw_X5 (Nat.le_of_ble_eq_true rfl) wd_270 dX10_growBack_13 rfl)) (am_lf_ok (fun _ => ok_iload_n dX10_growBack_16 rfl rfl)))) (am_nd_ok (am_lf_ok (fun _ => ok_iald dX10_growBack_17 rfl)) (am_nd_ok (am_lf_ok (fun _ => ok_iconst dX10_growBack_18 cv_iconst_m1 rfl)) (am_lf_ok (fun _ => ok_ixor dX10_growBack_19 rfl)))))) (am_nd_ok (am_nd_ok (am_nd_ok (am_lf_ok (fun _ => ok_iand dX10_growBack_20 rfl)) (am_nd_ok (am_lf_ok (fun _ => ok_istore_n dX10_growBack_21 rfl (Nat.le_of_ble_eq_true rfl) rfl)) (am_lf_ok (fun _ => ok_aload_n dX10_growBack_22 rfl rfl)))) (am_nd_ok (am_lf_ok (fun _ => ok_get (C := RX10) (TT := TX10) (N := 14) rfl inw_X10 (Nat.le_of_ble_eq_true rfl) wd_271 dX10_growBack_23 rfl)) (am_nd_ok (am_lf_ok (fun _ => ok_if_eq dX10_growBack_26 rfl rfl)) (am_lf_ok (fun _ => ok_iload_n dX10_growBack_29 rfl rfl))))) (am_nd_ok (am_nd_ok (am_lf_ok (fun _ => ok_if_eq dX10_growBack_30 rfl rfl)) (am_nd_ok (am_lf_ok (fun _ => ok_aload_n dX10_growBack_33 rfl rfl)) (am_lf_ok (fun _ => ok_get (C := RX10) (TT := TX10) (N := 14) rfl inw_X10 (Nat.le_of_ble_eq_true rfl) wd_256 dX10_growBack_34 rfl)))) (am_nd_ok (am_lf_ok (fun _ => ok_get (C := RX5) (TT := TX5) (N := 8) rfl inw_X5 (Nat.le_of_ble_eq_true rfl) wd_263 dX10_growBack_37 rfl)) (am_nd_ok (am_lf_ok (fun _ => ok_iload_n dX10_growBack_40 rfl rfl)) (am_lf_ok (fun _ => ok_iald dX10_growBack_41 rfl))))))
def tX10_growBack_1 : Nat → Option am_Act := am_nd 65 (am_nd 53 (am_nd 48 (am_nd 44 (am_lf 42 (a_const (nI 9) 44)) (am_nd 47 (am_lf 44 (a_cmp (fun x y => x < y) 49 47)) (am_lf 47 (a_const (nI 0) 48)))) (am_nd 49 (am_lf 48 (a_zret)) (am_nd 50 (am_lf 49 (a_aload 0 50)) (am_lf 50 (a_const (nI 1000) 53))))) (am_nd 60 (am_nd 56 (am_lf 53 (a_cvI tT mX10_draw 10 1 56)) (am_nd 57 (am_lf 56 (a_aload 0 57)) (am_lf 57 (a_get tT 10 1 60)))) (am_nd 63 (am_lf 60 (a_cmp (fun x y => x < y) 65 63)) (am_nd 64 (am_lf 63 (a_const (nI 0) 64)) (am_lf 64 (a_zret)))))) (am_nd 75 (am_nd 70 (am_nd 66 (am_lf 65 (a_aload 0 66)) (am_nd 67 (am_lf 66 (a_iload 2 67)) (am_lf 67 (a_csI mJ6_bitCount_0f7a4 1 70)))) (am_nd 73 (am_lf 70 (a_cvI tT mX10_draw 10 1 73)) (am_nd 74 (am_lf 73 (a_istore 3 74)) (am_lf 74 (a_const (nI 0) 75))))) (am_nd 80 (am_nd 77 (am_lf 75 (a_istore 4 77)) (am_nd 79 (am_lf 77 (a_iload 4 79)) (am_lf 79 (a_aload 0 80)))) (am_nd 83 (am_lf 80 (a_get tT 10 4 83)) (am_nd 86 (am_lf 83 (a_cmp (fun x y => y ≤ x) 123 86)) (am_lf 86 (a_iload 2 87))))))
theorem gX10_growBack_1 : am_Good tT mX10_growBack tX10_growBack_1 := am_nd_ok (am_nd_ok (am_nd_ok (am_nd_ok (am_lf_ok (fun _ => ok_bipush dX10_growBack_42 cv_bipush_9 rfl)) (am_nd_ok (am_lf_ok (fun _ => ok_cmp_lt dX10_growBack_44 rfl rfl)) (am_lf_ok (fun _ => ok_iconst dX10_growBack_47 cv_iconst_0 rfl)))) (am_nd_ok (am_lf_ok (fun _ => ok_zret rfl dX10_growBack_48)) (am_nd_ok (am_lf_ok (fun _ => ok_aload_n dX10_growBack_49 rfl rfl)) (am_lf_ok (fun _ => ok_sipush dX10_growBack_50 cv_sipush_1000 rfl))))) (am_nd_ok (am_nd_ok (am_lf_ok (fun _ => ok_cvI rfl mw_X10_draw (ci := 10) rfl rfl wd_272 wd_273 wd_274 dX10_growBack_53 rfl)) (am_nd_ok (am_lf_ok (fun _ => ok_aload_n dX10_growBack_56 rfl rfl)) (am_lf_ok (fun _ => ok_get (C := RX10) (TT := TX10) (N := 14) rfl inw_X10 (Nat.le_of_ble_eq_true rfl) wd_271 dX10_growBack_57 rfl)))) (am_nd_ok (am_lf_ok (fun _ => ok_cmp_lt dX10_growBack_60 rfl rfl)) (am_nd_ok (am_lf_ok (fun _ => ok_iconst dX10_growBack_63 cv_iconst_0 rfl)) (am_lf_ok (fun _ => ok_zret rfl dX10_growBack_64)))))) (am_nd_ok (am_nd_ok (am_nd_ok (am_lf_ok (fun _ => ok_aload_n dX10_growBack_65 rfl rfl)) (am_nd_ok (am_lf_ok (fun _ => ok_iload_n dX10_growBack_66 rfl rfl)) (am_lf_ok (fun _ => ok_csI rfl mw_J6_bitCount_0f7a4 wd_275 wd_2 dX10_growBack_67 rfl)))) (am_nd_ok (am_lf_ok (fun _ => ok_cvI rfl mw_X10_draw (ci := 10) rfl rfl wd_272 wd_273 wd_274 dX10_growBack_70 rfl)) (am_nd_ok (am_lf_ok (fun _ => ok_istore_n dX10_growBack_73 rfl (Nat.le_of_ble_eq_true rfl) rfl)) (am_lf_ok (fun _ => ok_iconst dX10_growBack_74 cv_iconst_0 rfl))))) (am_nd_ok (am_nd_ok (am_lf_ok (fun _ => ok_istore dX10_growBack_75 (Nat.le_of_ble_eq_true rfl) rfl)) (am_nd_ok (am_lf_ok (fun _ => ok_iload dX10_growBack_77 rfl)) (am_lf_ok (fun _ => ok_aload_n dX10_growBack_79 rfl rfl)))) (am_nd_ok (am_lf_ok (fun _ => ok_get (C := RX10) (TT := TX10) (N := 14) rfl inw_X10 (Nat.le_of_ble_eq_true rfl) wd_255 dX10_growBack_80 rfl)) (am_nd_ok (am_lf_ok (fun _ => ok_cmp_ge dX10_growBack_83 rfl rfl)) (am_lf_ok (fun _ => ok_iload_n dX10_growBack_86 rfl rfl))))))
def tX10_growBack_2 : Nat → Option am_Act := am_nd 106 (am_nd 95 (am_nd 90 (am_nd 89 (am_lf 87 (a_iload 4 89)) (am_lf 89 (a_bin (fun x y => x >>> (y &&& 31)) 90))) (am_nd 91 (am_lf 90 (a_const (nI 1) 91)) (am_nd 92 (am_lf 91 (a_bin (fun x y => x &&& y) 92)) (am_lf 92 (a_if (fun x => x = nI 0) 95 98))))) (am_nd 99 (am_nd 98 (am_lf 95 (a_goto 117)) (am_lf 98 (a_iload 3 99))) (am_nd 102 (am_lf 99 (a_if (fun x => x = nI 0) 102 114)) (am_nd 103 (am_lf 102 (a_aload 0 103)) (am_lf 103 (a_get tT 10 11 106)))))) (am_nd 114 (am_nd 109 (am_nd 107 (am_lf 106 (a_iload 1 107)) (am_lf 107 (a_iload 4 109))) (am_nd 112 (am_lf 109 (a_cvV tT mX5_append 5 2 112)) (am_nd 113 (am_lf 112 (a_const (nI 1) 113)) (am_lf 113 (a_zret))))) (am_nd 120 (am_nd 117 (am_lf 114 (a_iinc 3 (-1) 117)) (am_lf 117 (a_iinc 4 (nI 1) 120))) (am_nd 123 (am_lf 120 (a_goto 77)) (am_nd 124 (am_lf 123 (a_const (nI 0) 124)) (am_lf 124 (a_zret))))))
theorem gX10_growBack_2 : am_Good tT mX10_growBack tX10_growBack_2 := am_nd_ok (am_nd_ok (am_nd_ok (am_nd_ok (am_lf_ok (fun _ => ok_iload dX10_growBack_87 rfl)) (am_lf_ok (fun _ => ok_ishr dX10_growBack_89 rfl))) (am_nd_ok (am_lf_ok (fun _ => ok_iconst dX10_growBack_90 cv_iconst_1 rfl)) (am_nd_ok (am_lf_ok (fun _ => ok_iand dX10_growBack_91 rfl)) (am_lf_ok (fun _ => ok_if_ne dX10_growBack_92 rfl rfl))))) (am_nd_ok (am_nd_ok (am_lf_ok (fun _ => ok_goto dX10_growBack_95 rfl)) (am_lf_ok (fun _ => ok_iload_n dX10_growBack_98 rfl rfl))) (am_nd_ok (am_lf_ok (fun _ => ok_if_ne dX10_growBack_99 rfl rfl)) (am_nd_ok (am_lf_ok (fun _ => ok_aload_n dX10_growBack_102 rfl rfl)) (am_lf_ok (fun _ => ok_get (C := RX10) (TT := TX10) (N := 14) rfl inw_X10 (Nat.le_of_ble_eq_true rfl) wd_256 dX10_growBack_103 rfl)))))) (am_nd_ok (am_nd_ok (am_nd_ok (am_lf_ok (fun _ => ok_iload_n dX10_growBack_106 rfl rfl)) (am_lf_ok (fun _ => ok_iload dX10_growBack_107 rfl))) (am_nd_ok (am_lf_ok (fun _ => ok_cvV rfl mw_X5_append (ci := 5) rfl rfl wd_276 wd_185 wd_186 dX10_growBack_109 rfl)) (am_nd_ok (am_lf_ok (fun _ => ok_iconst dX10_growBack_112 cv_iconst_1 rfl)) (am_lf_ok (fun _ => ok_zret rfl dX10_growBack_113))))) (am_nd_ok (am_nd_ok (am_lf_ok (fun _ => ok_iinc dX10_growBack_114 cv_iconst_m1 (Nat.le_of_ble_eq_true rfl) rfl)) (am_lf_ok (fun _ => ok_iinc dX10_growBack_117 cv_iconst_1 (Nat.le_of_ble_eq_true rfl) rfl))) (am_nd_ok (am_lf_ok (fun _ => ok_goto dX10_growBack_120 rfl)) (am_nd_ok (am_lf_ok (fun _ => ok_iconst dX10_growBack_123 cv_iconst_0 rfl)) (am_lf_ok (fun _ => ok_zret rfl dX10_growBack_124))))))
def tX10_growBack : Nat → Option am_Act := am_nd 42 (tX10_growBack_0) (am_nd 87 (tX10_growBack_1) (tX10_growBack_2))
theorem gX10_growBack : am_Good tT mX10_growBack tX10_growBack := am_nd_ok (gX10_growBack_0) (am_nd_ok (gX10_growBack_1) (gX10_growBack_2))
theorem dX10_draw_0 : decode cX10_draw 0 = .ok (.aload_n 0, 1) := by decide +kernel
theorem dX10_draw_1 : decode cX10_draw 1 = .ok (.ldc 99, 2) := by decide +kernel
theorem dX10_draw_3 : decode cX10_draw 3 = .ok (.aload_n 0, 1) := by decide +kernel
theorem dX10_draw_4 : decode cX10_draw 4 = .ok (.getfield 100, 3) := by decide +kernel
theorem dX10_draw_7 : decode cX10_draw 7 = .ok (.imul, 1) := by decide +kernel
theorem dX10_draw_8 : decode cX10_draw 8 = .ok (.ldc 103, 2) := by decide +kernel
theorem dX10_draw_10 : decode cX10_draw 10 = .ok (.iadd, 1) := by decide +kernel
theorem dX10_draw_11 : decode cX10_draw 11 = .ok (.putfield 100, 3) := by decide +kernel
theorem dX10_draw_14 : decode cX10_draw 14 = .ok (.iload_n 1, 1) := by decide +kernel
theorem dX10_draw_15 : decode cX10_draw 15 = .ok (.iconst 1, 1) := by decide +kernel
theorem dX10_draw_16 : decode cX10_draw 16 = .ok (.if_icmp .ge 7, 3) := by decide +kernel
theorem dX10_draw_19 : decode cX10_draw 19 = .ok (.iconst 0, 1) := by decide +kernel
theorem dX10_draw_20 : decode cX10_draw 20 = .ok (.goto 12, 3) := by decide +kernel
theorem dX10_draw_23 : decode cX10_draw 23 = .ok (.aload_n 0, 1) := by decide +kernel
theorem dX10_draw_24 : decode cX10_draw 24 = .ok (.getfield 100, 3) := by decide +kernel
theorem dX10_draw_27 : decode cX10_draw 27 = .ok (.bipush 8, 2) := by decide +kernel
theorem dX10_draw_29 : decode cX10_draw 29 = .ok (.iushr, 1) := by decide +kernel
theorem dX10_draw_30 : decode cX10_draw 30 = .ok (.iload_n 1, 1) := by decide +kernel
theorem dX10_draw_31 : decode cX10_draw 31 = .ok (.irem, 1) := by decide +kernel
theorem dX10_draw_32 : decode cX10_draw 32 = .ok (.ireturn, 1) := by decide +kernel
def tX10_draw_0 : Nat → Option am_Act := am_nd 16 (am_nd 8 (am_nd 3 (am_nd 1 (am_lf 0 (a_aload 0 1)) (am_lf 1 (a_const (nI 1664525) 3))) (am_nd 4 (am_lf 3 (a_aload 0 4)) (am_nd 7 (am_lf 4 (a_get tT 10 0 7)) (am_lf 7 (a_bin (fun x y => x * y) 8))))) (am_nd 11 (am_nd 10 (am_lf 8 (a_const (nI 1013904223) 10)) (am_lf 10 (a_bin (fun x y => x + y) 11))) (am_nd 14 (am_lf 11 (a_put tT 10 0 14)) (am_nd 15 (am_lf 14 (a_iload 1 15)) (am_lf 15 (a_const (nI 1) 16)))))) (am_nd 27 (am_nd 20 (am_nd 19 (am_lf 16 (a_cmp (fun x y => y ≤ x) 23 19)) (am_lf 19 (a_const (nI 0) 20))) (am_nd 23 (am_lf 20 (a_goto 32)) (am_nd 24 (am_lf 23 (a_aload 0 24)) (am_lf 24 (a_get tT 10 0 27))))) (am_nd 30 (am_nd 29 (am_lf 27 (a_const (nI 8) 29)) (am_lf 29 (a_bin am_ushr 30))) (am_nd 31 (am_lf 30 (a_iload 1 31)) (am_nd 32 (am_lf 31 (a_divr (fun x y => x - x / y * y) 32)) (am_lf 32 (a_iret))))))
theorem gX10_draw_0 : am_Good tT mX10_draw tX10_draw_0 := am_nd_ok (am_nd_ok (am_nd_ok (am_nd_ok (am_lf_ok (fun _ => ok_aload_n dX10_draw_0 rfl rfl)) (am_lf_ok (fun _ => ok_ldc wd_277 dX10_draw_1 rfl))) (am_nd_ok (am_lf_ok (fun _ => ok_aload_n dX10_draw_3 rfl rfl)) (am_nd_ok (am_lf_ok (fun _ => ok_get (C := RX10) (TT := TX10) (N := 14) rfl inw_X10 (Nat.le_of_ble_eq_true rfl) wd_278 dX10_draw_4 rfl)) (am_lf_ok (fun _ => ok_imul dX10_draw_7 rfl))))) (am_nd_ok (am_nd_ok (am_lf_ok (fun _ => ok_ldc wd_279 dX10_draw_8 rfl)) (am_lf_ok (fun _ => ok_iadd dX10_draw_10 rfl))) (am_nd_ok (am_lf_ok (fun _ => ok_put (C := RX10) (TT := TX10) (N := 14) (ty0 := tyX10) rfl inw_X10 tyX10_ok nmX10 (Nat.le_of_ble_eq_true rfl) rfl rfl wd_278 dX10_draw_11 rfl)) (am_nd_ok (am_lf_ok (fun _ => ok_iload_n dX10_draw_14 rfl rfl)) (am_lf_ok (fun _ => ok_iconst dX10_draw_15 cv_iconst_1 rfl)))))) (am_nd_ok (am_nd_ok (am_nd_ok (am_lf_ok (fun _ => ok_cmp_ge dX10_draw_16 rfl rfl)) (am_lf_ok (fun _ => ok_iconst dX10_draw_19 cv_iconst_0 rfl))) (am_nd_ok (am_lf_ok (fun _ => ok_goto dX10_draw_20 rfl)) (am_nd_ok (am_lf_ok (fun _ => ok_aload_n dX10_draw_23 rfl rfl)) (am_lf_ok (fun _ => ok_get (C := RX10) (TT := TX10) (N := 14) rfl inw_X10 (Nat.le_of_ble_eq_true rfl) wd_278 dX10_draw_24 rfl))))) (am_nd_ok (am_nd_ok (am_lf_ok (fun _ => ok_bipush dX10_draw_27 cv_bipush_8 rfl)) (am_lf_ok (fun _ => ok_iushr dX10_draw_29 rfl))) (am_nd_ok (am_lf_ok (fun _ => ok_iload_n dX10_draw_30 rfl rfl)) (am_nd_ok (am_lf_ok (fun _ => ok_irem dX10_draw_31 rfl)) (am_lf_ok (fun _ => ok_iret rfl dX10_draw_32))))))
def tX10_draw : Nat → Option am_Act := tX10_draw_0
theorem gX10_draw : am_Good tT mX10_draw tX10_draw := gX10_draw_0
theorem dX10_copyFrom_0 : decode cX10_copyFrom 0 = .ok (.aload_n 0, 1) := by decide +kernel
theorem dX10_copyFrom_1 : decode cX10_copyFrom 1 = .ok (.aload_n 1, 1) := by decide +kernel
theorem dX10_copyFrom_2 : decode cX10_copyFrom 2 = .ok (.getfield 100, 3) := by decide +kernel
theorem dX10_copyFrom_5 : decode cX10_copyFrom 5 = .ok (.putfield 100, 3) := by decide +kernel
theorem dX10_copyFrom_8 : decode cX10_copyFrom 8 = .ok (.aload_n 0, 1) := by decide +kernel
theorem dX10_copyFrom_9 : decode cX10_copyFrom 9 = .ok (.aload_n 1, 1) := by decide +kernel
theorem dX10_copyFrom_10 : decode cX10_copyFrom 10 = .ok (.getfield 83, 3) := by decide +kernel
theorem dX10_copyFrom_13 : decode cX10_copyFrom 13 = .ok (.putfield 83, 3) := by decide +kernel
theorem dX10_copyFrom_16 : decode cX10_copyFrom 16 = .ok (.aload_n 0, 1) := by decide +kernel
theorem dX10_copyFrom_17 : decode cX10_copyFrom 17 = .ok (.aload_n 1, 1) := by decide +kernel
theorem dX10_copyFrom_18 : decode cX10_copyFrom 18 = .ok (.getfield 104, 3) := by decide +kernel
theorem dX10_copyFrom_21 : decode cX10_copyFrom 21 = .ok (.putfield 104, 3) := by decide +kernel
theorem dX10_copyFrom_24 : decode cX10_copyFrom 24 = .ok (.aload_n 0, 1) := by decide +kernel
theorem dX10_copyFrom_25 : decode cX10_copyFrom 25 = .ok (.aload_n 1, 1) := by decide +kernel
theorem dX10_copyFrom_26 : decode cX10_copyFrom 26 = .ok (.getfield 74, 3) := by decide +kernel
theorem dX10_copyFrom_29 : decode cX10_copyFrom 29 = .ok (.putfield 74, 3) := by decide +kernel
theorem dX10_copyFrom_32 : decode cX10_copyFrom 32 = .ok (.aload_n 0, 1) := by decide +kernel
theorem dX10_copyFrom_33 : decode cX10_copyFrom 33 = .ok (.aload_n 1, 1) := by decide +kernel
theorem dX10_copyFrom_34 : decode cX10_copyFrom 34 = .ok (.getfield 45, 3) := by decide +kernel
theorem dX10_copyFrom_37 : decode cX10_copyFrom 37 = .ok (.putfield 45, 3) := by decide +kernel
theorem dX10_copyFrom_40 : decode cX10_copyFrom 40 = .ok (.aload_n 1, 1) := by decide +kernel
theorem dX10_copyFrom_41 : decode cX10_copyFrom 41 = .ok (.getfield 9, 3) := by decide +kernel
theorem dX10_copyFrom_44 : decode cX10_copyFrom 44 = .ok (.iconst 0, 1) := by decide +kernel
theorem dX10_copyFrom_45 : decode cX10_copyFrom 45 = .ok (.aload_n 0, 1) := by decide +kernel
theorem dX10_copyFrom_46 : decode cX10_copyFrom 46 = .ok (.getfield 9, 3) := by decide +kernel
theorem dX10_copyFrom_49 : decode cX10_copyFrom 49 = .ok (.iconst 0, 1) := by decide +kernel
theorem dX10_copyFrom_50 : decode cX10_copyFrom 50 = .ok (.bipush 20, 2) := by decide +kernel
theorem dX10_copyFrom_52 : decode cX10_copyFrom 52 = .ok (.invokestatic 107, 3) := by decide +kernel
theorem dX10_copyFrom_55 : decode cX10_copyFrom 55 = .ok (.aload_n 1, 1) := by decide +kernel
theorem dX10_copyFrom_56 : decode cX10_copyFrom 56 = .ok (.getfield 15, 3) := by decide +kernel
theorem dX10_copyFrom_59 : decode cX10_copyFrom 59 = .ok (.iconst 0, 1) := by decide +kernel
theorem dX10_copyFrom_60 : decode cX10_copyFrom 60 = .ok (.aload_n 0, 1) := by decide +kernel
theorem dX10_copyFrom_61 : decode cX10_copyFrom 61 = .ok (.getfield 15, 3) := by decide +kernel
theorem dX10_copyFrom_64 : decode cX10_copyFrom 64 = .ok (.iconst 0, 1) := by decide +kernel
theorem dX10_copyFrom_65 : decode cX10_copyFrom 65 = .ok (.bipush 20, 2) := by decide +kernel
theorem dX10_copyFrom_67 : decode cX10_copyFrom 67 = .ok (.invokestatic 107, 3) := by decide +kernel
theorem dX10_copyFrom_70 : decode cX10_copyFrom 70 = .ok (.aload_n 0, 1) := by decide +kernel
theorem dX10_copyFrom_71 : decode cX10_copyFrom 71 = .ok (.aload_n 1, 1) := by decide +kernel
theorem dX10_copyFrom_72 : decode cX10_copyFrom 72 = .ok (.getfield 71, 3) := by decide +kernel
theorem dX10_copyFrom_75 : decode cX10_copyFrom 75 = .ok (.putfield 71, 3) := by decide +kernel
theorem dX10_copyFrom_78 : decode cX10_copyFrom 78 = .ok (.aload_n 1, 1) := by decide +kernel
theorem dX10_copyFrom_79 : decode cX10_copyFrom 79 = .ok (.getfield 18, 3) := by decide +kernel
theorem dX10_copyFrom_82 : decode cX10_copyFrom 82 = .ok (.iconst 0, 1) := by decide +kernel
theorem dX10_copyFrom_83 : decode cX10_copyFrom 83 = .ok (.aload_n 0, 1) := by decide +kernel
theorem dX10_copyFrom_84 : decode cX10_copyFrom 84 = .ok (.getfield 18, 3) := by decide +kernel
theorem dX10_copyFrom_87 : decode cX10_copyFrom 87 = .ok (.iconst 0, 1) := by decide +kernel
theorem dX10_copyFrom_88 : decode cX10_copyFrom 88 = .ok (.sipush 400, 3) := by decide +kernel
theorem dX10_copyFrom_91 : decode cX10_copyFrom 91 = .ok (.invokestatic 107, 3) := by decide +kernel
theorem dX10_copyFrom_94 : decode cX10_copyFrom 94 = .ok (.aload_n 0, 1) := by decide +kernel
theorem dX10_copyFrom_95 : decode cX10_copyFrom 95 = .ok (.aload_n 1, 1) := by decide +kernel
theorem dX10_copyFrom_96 : decode cX10_copyFrom 96 = .ok (.getfield 113, 3) := by decide +kernel
theorem dX10_copyFrom_99 : decode cX10_copyFrom 99 = .ok (.putfield 113, 3) := by decide +kernel
theorem dX10_copyFrom_102 : decode cX10_copyFrom 102 = .ok (.aload_n 1, 1) := by decide +kernel
theorem dX10_copyFrom_103 : decode cX10_copyFrom 103 = .ok (.getfield 21, 3) := by decide +kernel
theorem dX10_copyFrom_106 : decode cX10_copyFrom 106 = .ok (.iconst 0, 1) := by decide +kernel
theorem dX10_copyFrom_107 : decode cX10_copyFrom 107 = .ok (.aload_n 0, 1) := by decide +kernel
theorem dX10_copyFrom_108 : decode cX10_copyFrom 108 = .ok (.getfield 21, 3) := by decide +kernel
theorem dX10_copyFrom_111 : decode cX10_copyFrom 111 = .ok (.iconst 0, 1) := by decide +kernel
theorem dX10_copyFrom_112 : decode cX10_copyFrom 112 = .ok (.bipush 12, 2) := by decide +kernel
theorem dX10_copyFrom_114 : decode cX10_copyFrom 114 = .ok (.invokestatic 107, 3) := by decide +kernel
theorem dX10_copyFrom_117 : decode cX10_copyFrom 117 = .ok (.aload_n 0, 1) := by decide +kernel
theorem dX10_copyFrom_118 : decode cX10_copyFrom 118 = .ok (.getfield 27, 3) := by decide +kernel
theorem dX10_copyFrom_121 : decode cX10_copyFrom 121 = .ok (.aload_n 1, 1) := by decide +kernel
theorem dX10_copyFrom_122 : decode cX10_copyFrom 122 = .ok (.getfield 27, 3) := by decide +kernel
theorem dX10_copyFrom_125 : decode cX10_copyFrom 125 = .ok (.invokevirtual 116, 3) := by decide +kernel
theorem dX10_copyFrom_128 : decode cX10_copyFrom 128 = .ok (.aload_n 0, 1) := by decide +kernel
theorem dX10_copyFrom_129 : decode cX10_copyFrom 129 = .ok (.getfield 34, 3) := by decide +kernel
theorem dX10_copyFrom_132 : decode cX10_copyFrom 132 = .ok (.aload_n 1, 1) := by decide +kernel
theorem dX10_copyFrom_133 : decode cX10_copyFrom 133 = .ok (.getfield 34, 3) := by decide +kernel
theorem dX10_copyFrom_136 : decode cX10_copyFrom 136 = .ok (.invokevirtual 120, 3) := by decide +kernel
theorem dX10_copyFrom_139 : decode cX10_copyFrom 139 = .ok (.aload_n 0, 1) := by decide +kernel
theorem dX10_copyFrom_140 : decode cX10_copyFrom 140 = .ok (.getfield 41, 3) := by decide +kernel
theorem dX10_copyFrom_143 : decode cX10_copyFrom 143 = .ok (.aload_n 1, 1) := by decide +kernel
theorem dX10_copyFrom_144 : decode cX10_copyFrom 144 = .ok (.getfield 41, 3) := by decide +kernel
theorem dX10_copyFrom_147 : decode cX10_copyFrom 147 = .ok (.invokevirtual 123, 3) := by decide +kernel
theorem dX10_copyFrom_150 : decode cX10_copyFrom 150 = .ok (.return_, 1) := by decide +kernel
def tX10_copyFrom_0 : Nat → Option am_Act := am_nd 24 (am_nd 10 (am_nd 5 (am_nd 1 (am_lf 0 (a_aload 0 1)) (am_nd 2 (am_lf 1 (a_aload 1 2)) (am_lf 2 (a_get tT 10 0 5)))) (am_nd 8 (am_lf 5 (a_put tT 10 0 8)) (am_nd 9 (am_lf 8 (a_aload 0 9)) (am_lf 9 (a_aload 1 10))))) (am_nd 17 (am_nd 13 (am_lf 10 (a_get tT 10 1 13)) (am_nd 16 (am_lf 13 (a_put tT 10 1 16)) (am_lf 16 (a_aload 0 17)))) (am_nd 18 (am_lf 17 (a_aload 1 18)) (am_nd 21 (am_lf 18 (a_get tT 10 2 21)) (am_lf 21 (a_put tT 10 2 24)))))) (am_nd 34 (am_nd 29 (am_nd 25 (am_lf 24 (a_aload 0 25)) (am_nd 26 (am_lf 25 (a_aload 1 26)) (am_lf 26 (a_get tT 10 3 29)))) (am_nd 32 (am_lf 29 (a_put tT 10 3 32)) (am_nd 33 (am_lf 32 (a_aload 0 33)) (am_lf 33 (a_aload 1 34))))) (am_nd 41 (am_nd 37 (am_lf 34 (a_get tT 10 4 37)) (am_nd 40 (am_lf 37 (a_put tT 10 4 40)) (am_lf 40 (a_aload 1 41)))) (am_nd 44 (am_lf 41 (a_get tT 10 5 44)) (am_nd 45 (am_lf 44 (a_const (nI 0) 45)) (am_lf 45 (a_aload 0 46))))))
theorem gX10_copyFrom_0 : am_Good tT mX10_copyFrom tX10_copyFrom_0 := am_nd_ok (am_nd_ok (am_nd_ok (am_nd_ok (am_lf_ok (fun _ => ok_aload_n dX10_copyFrom_0 rfl rfl)) (am_nd_ok (am_lf_ok (fun _ => ok_aload_n dX10_copyFrom_1 rfl rfl)) (am_lf_ok (fun _ => ok_get (C := RX10) (TT := TX10) (N := 14) rfl inw_X10 (Nat.le_of_ble_eq_true rfl) wd_278 dX10_copyFrom_2 rfl)))) (am_nd_ok (am_lf_ok (fun _ => ok_put (C := RX10) (TT := TX10) (N := 14) (ty0 := tyX10) rfl inw_X10 tyX10_ok nmX10 (Nat.le_of_ble_eq_true rfl) rfl rfl wd_278 dX10_copyFrom_5 rfl)) (am_nd_ok (am_lf_ok (fun _ => ok_aload_n dX10_copyFrom_8 rfl rfl)) (am_lf_ok (fun _ => ok_aload_n dX10_copyFrom_9 rfl rfl))))) (am_nd_ok (am_nd_ok (am_lf_ok (fun _ => ok_get (C := RX10) (TT := TX10) (N := 14) rfl inw_X10 (Nat.le_of_ble_eq_true rfl) wd_271 dX10_copyFrom_10 rfl)) (am_nd_ok (am_lf_ok (fun _ => ok_put (C := RX10) (TT := TX10) (N := 14) (ty0 := tyX10) rfl inw_X10 tyX10_ok nmX10 (Nat.le_of_ble_eq_true rfl) rfl rfl wd_271 dX10_copyFrom_13 rfl)) (am_lf_ok (fun _ => ok_aload_n dX10_copyFrom_16 rfl rfl)))) (am_nd_ok (am_lf_ok (fun _ => ok_aload_n dX10_copyFrom_17 rfl rfl)) (am_nd_ok (am_lf_ok (fun _ => ok_get (C := RX10) (TT := TX10) (N := 14) rfl inw_X10 (Nat.le_of_ble_eq_true rfl) wd_280 dX10_copyFrom_18 rfl)) (am_lf_ok (fun _ => ok_put (C := RX10) (TT := TX10) (N := 14) (ty0 := tyX10) rfl inw_X10 tyX10_ok nmX10 (Nat.le_of_ble_eq_true rfl) rfl rfl wd_280 dX10_copyFrom_21 rfl)))))) (am_nd_ok (am_nd_ok (am_nd_ok (am_lf_ok (fun _ => ok_aload_n dX10_copyFrom_24 rfl rfl)) (am_nd_ok (am_lf_ok (fun _ => ok_aload_n dX10_copyFrom_25 rfl rfl)) (am_lf_ok (fun _ => ok_get (C := RX10) (TT := TX10) (N := 14) rfl inw_X10 (Nat.le_of_ble_eq_true rfl) wd_268 dX10_copyFrom_26 rfl)))) (am_nd_ok (am_lf_ok (fun _ => ok_put (C := RX10) (TT := TX10) (N := 14) (ty0 := tyX10) rfl inw_X10 tyX10_ok nmX10 (Nat.le_of_ble_eq_true rfl) rfl rfl wd_268 dX10_copyFrom_29 rfl)) (am_nd_ok (am_lf_ok (fun _ => ok_aload_n dX10_copyFrom_32 rfl rfl)) (am_lf_ok (fun _ => ok_aload_n dX10_copyFrom_33 rfl rfl))))) (am_nd_ok (am_nd_ok (am_lf_ok (fun _ => ok_get (C := RX10) (TT := TX10) (N := 14) rfl inw_X10 (Nat.le_of_ble_eq_true rfl) wd_255 dX10_copyFrom_34 rfl)) (am_nd_ok (am_lf_ok (fun _ => ok_put (C := RX10) (TT := TX10) (N := 14) (ty0 := tyX10) rfl inw_X10 tyX10_ok nmX10 (Nat.le_of_ble_eq_true rfl) rfl rfl wd_255 dX10_copyFrom_37 rfl)) (am_lf_ok (fun _ => ok_aload_n dX10_copyFrom_40 rfl rfl)))) (am_nd_ok (am_lf_ok (fun _ => ok_get (C := RX10) (TT := TX10) (N := 14) rfl inw_X10 (Nat.le_of_ble_eq_true rfl) wd_281 dX10_copyFrom_41 rfl)) (am_nd_ok (am_lf_ok (fun _ => ok_iconst dX10_copyFrom_44 cv_iconst_0 rfl)) (am_lf_ok (fun _ => ok_aload_n dX10_copyFrom_45 rfl rfl))))))
def tX10_copyFrom_1 : Nat → Option am_Act := am_nd 70 (am_nd 59 (am_nd 52 (am_nd 49 (am_lf 46 (a_get tT 10 5 49)) (am_nd 50 (am_lf 49 (a_const (nI 0) 50)) (am_lf 50 (a_const (nI 20) 52)))) (am_nd 55 (am_lf 52 (a_copy tT 55)) (am_nd 56 (am_lf 55 (a_aload 1 56)) (am_lf 56 (a_get tT 10 6 59))))) (am_nd 64 (am_nd 60 (am_lf 59 (a_const (nI 0) 60)) (am_nd 61 (am_lf 60 (a_aload 0 61)) (am_lf 61 (a_get tT 10 6 64)))) (am_nd 65 (am_lf 64 (a_const (nI 0) 65)) (am_nd 67 (am_lf 65 (a_const (nI 20) 67)) (am_lf 67 (a_copy tT 70)))))) (am_nd 82 (am_nd 75 (am_nd 71 (am_lf 70 (a_aload 0 71)) (am_nd 72 (am_lf 71 (a_aload 1 72)) (am_lf 72 (a_get tT 10 7 75)))) (am_nd 78 (am_lf 75 (a_put tT 10 7 78)) (am_nd 79 (am_lf 78 (a_aload 1 79)) (am_lf 79 (a_get tT 10 8 82))))) (am_nd 87 (am_nd 83 (am_lf 82 (a_const (nI 0) 83)) (am_nd 84 (am_lf 83 (a_aload 0 84)) (am_lf 84 (a_get tT 10 8 87)))) (am_nd 88 (am_lf 87 (a_const (nI 0) 88)) (am_nd 91 (am_lf 88 (a_const (nI 400) 91)) (am_lf 91 (a_copy tT 94))))))
theorem gX10_copyFrom_1 : am_Good tT mX10_copyFrom tX10_copyFrom_1 := am_nd_ok (am_nd_ok (am_nd_ok (am_nd_ok (am_lf_ok (fun _ => ok_get (C := RX10) (TT := TX10) (N := 14) rfl inw_X10 (Nat.le_of_ble_eq_true rfl) wd_281 dX10_copyFrom_46 rfl)) (am_nd_ok (am_lf_ok (fun _ => ok_iconst dX10_copyFrom_49 cv_iconst_0 rfl)) (am_lf_ok (fun _ => ok_bipush dX10_copyFrom_50 cv_bipush_20 rfl)))) (am_nd_ok (am_lf_ok (fun _ => ok_copy wd_282 wd_31 wd_32 wd_33 dX10_copyFrom_52 rfl)) (am_nd_ok (am_lf_ok (fun _ => ok_aload_n dX10_copyFrom_55 rfl rfl)) (am_lf_ok (fun _ => ok_get (C := RX10) (TT := TX10) (N := 14) rfl inw_X10 (Nat.le_of_ble_eq_true rfl) wd_264 dX10_copyFrom_56 rfl))))) (am_nd_ok (am_nd_ok (am_lf_ok (fun _ => ok_iconst dX10_copyFrom_59 cv_iconst_0 rfl)) (am_nd_ok (am_lf_ok (fun _ => ok_aload_n dX10_copyFrom_60 rfl rfl)) (am_lf_ok (fun _ => ok_get (C := RX10) (TT := TX10) (N := 14) rfl inw_X10 (Nat.le_of_ble_eq_true rfl) wd_264 dX10_copyFrom_61 rfl)))) (am_nd_ok (am_lf_ok (fun _ => ok_iconst dX10_copyFrom_64 cv_iconst_0 rfl)) (am_nd_ok (am_lf_ok (fun _ => ok_bipush dX10_copyFrom_65 cv_bipush_20 rfl)) (am_lf_ok (fun _ => ok_copy wd_282 wd_31 wd_32 wd_33 dX10_copyFrom_67 rfl)))))) (am_nd_ok (am_nd_ok (am_nd_ok (am_lf_ok (fun _ => ok_aload_n dX10_copyFrom_70 rfl rfl)) (am_nd_ok (am_lf_ok (fun _ => ok_aload_n dX10_copyFrom_71 rfl rfl)) (am_lf_ok (fun _ => ok_get (C := RX10) (TT := TX10) (N := 14) rfl inw_X10 (Nat.le_of_ble_eq_true rfl) wd_266 dX10_copyFrom_72 rfl)))) (am_nd_ok (am_lf_ok (fun _ => ok_put (C := RX10) (TT := TX10) (N := 14) (ty0 := tyX10) rfl inw_X10 tyX10_ok nmX10 (Nat.le_of_ble_eq_true rfl) rfl rfl wd_266 dX10_copyFrom_75 rfl)) (am_nd_ok (am_lf_ok (fun _ => ok_aload_n dX10_copyFrom_78 rfl rfl)) (am_lf_ok (fun _ => ok_get (C := RX10) (TT := TX10) (N := 14) rfl inw_X10 (Nat.le_of_ble_eq_true rfl) wd_267 dX10_copyFrom_79 rfl))))) (am_nd_ok (am_nd_ok (am_lf_ok (fun _ => ok_iconst dX10_copyFrom_82 cv_iconst_0 rfl)) (am_nd_ok (am_lf_ok (fun _ => ok_aload_n dX10_copyFrom_83 rfl rfl)) (am_lf_ok (fun _ => ok_get (C := RX10) (TT := TX10) (N := 14) rfl inw_X10 (Nat.le_of_ble_eq_true rfl) wd_267 dX10_copyFrom_84 rfl)))) (am_nd_ok (am_lf_ok (fun _ => ok_iconst dX10_copyFrom_87 cv_iconst_0 rfl)) (am_nd_ok (am_lf_ok (fun _ => ok_sipush dX10_copyFrom_88 cv_sipush_400 rfl)) (am_lf_ok (fun _ => ok_copy wd_282 wd_31 wd_32 wd_33 dX10_copyFrom_91 rfl))))))
def tX10_copyFrom_2 : Nat → Option am_Act := am_nd 117 (am_nd 106 (am_nd 99 (am_nd 95 (am_lf 94 (a_aload 0 95)) (am_nd 96 (am_lf 95 (a_aload 1 96)) (am_lf 96 (a_get tT 10 9 99)))) (am_nd 102 (am_lf 99 (a_put tT 10 9 102)) (am_nd 103 (am_lf 102 (a_aload 1 103)) (am_lf 103 (a_get tT 10 10 106))))) (am_nd 111 (am_nd 107 (am_lf 106 (a_const (nI 0) 107)) (am_nd 108 (am_lf 107 (a_aload 0 108)) (am_lf 108 (a_get tT 10 10 111)))) (am_nd 112 (am_lf 111 (a_const (nI 0) 112)) (am_nd 114 (am_lf 112 (a_const (nI 12) 114)) (am_lf 114 (a_copy tT 117)))))) (am_nd 129 (am_nd 122 (am_nd 118 (am_lf 117 (a_aload 0 118)) (am_nd 121 (am_lf 118 (a_get tT 10 11 121)) (am_lf 121 (a_aload 1 122)))) (am_nd 125 (am_lf 122 (a_get tT 10 11 125)) (am_nd 128 (am_lf 125 (a_cvV tT mX5_copyFrom 5 1 128)) (am_lf 128 (a_aload 0 129))))) (am_nd 136 (am_nd 132 (am_lf 129 (a_get tT 10 12 132)) (am_nd 133 (am_lf 132 (a_aload 1 133)) (am_lf 133 (a_get tT 10 12 136)))) (am_nd 139 (am_lf 136 (a_cvV tT mX2_copyFrom 2 1 139)) (am_nd 140 (am_lf 139 (a_aload 0 140)) (am_lf 140 (a_get tT 10 13 143))))))
theorem gX10_copyFrom_2 : am_Good tT mX10_copyFrom tX10_copyFrom_2 := am_nd_ok (am_nd_ok (am_nd_ok (am_nd_ok (am_lf_ok (fun _ => ok_aload_n dX10_copyFrom_94 rfl rfl)) (am_nd_ok (am_lf_ok (fun _ => ok_aload_n dX10_copyFrom_95 rfl rfl)) (am_lf_ok (fun _ => ok_get (C := RX10) (TT := TX10) (N := 14) rfl inw_X10 (Nat.le_of_ble_eq_true rfl) wd_283 dX10_copyFrom_96 rfl)))) (am_nd_ok (am_lf_ok (fun _ => ok_put (C := RX10) (TT := TX10) (N := 14) (ty0 := tyX10) rfl inw_X10 tyX10_ok nmX10 (Nat.le_of_ble_eq_true rfl) rfl rfl wd_283 dX10_copyFrom_99 rfl)) (am_nd_ok (am_lf_ok (fun _ => ok_aload_n dX10_copyFrom_102 rfl rfl)) (am_lf_ok (fun _ => ok_get (C := RX10) (TT := TX10) (N := 14) rfl inw_X10 (Nat.le_of_ble_eq_true rfl) wd_284 dX10_copyFrom_103 rfl))))) (am_nd_ok (am_nd_ok (am_lf_ok (fun _ => ok_iconst dX10_copyFrom_106 cv_iconst_0 rfl)) (am_nd_ok (am_lf_ok (fun _ => ok_aload_n dX10_copyFrom_107 rfl rfl)) (am_lf_ok (fun _ => ok_get (C := RX10) (TT := TX10) (N := 14) rfl inw_X10 (Nat.le_of_ble_eq_true rfl) wd_284 dX10_copyFrom_108 rfl)))) (am_nd_ok (am_lf_ok (fun _ => ok_iconst dX10_copyFrom_111 cv_iconst_0 rfl)) (am_nd_ok (am_lf_ok (fun _ => ok_bipush dX10_copyFrom_112 cv_bipush_12 rfl)) (am_lf_ok (fun _ => ok_copy wd_282 wd_31 wd_32 wd_33 dX10_copyFrom_114 rfl)))))) (am_nd_ok (am_nd_ok (am_nd_ok (am_lf_ok (fun _ => ok_aload_n dX10_copyFrom_117 rfl rfl)) (am_nd_ok (am_lf_ok (fun _ => ok_get (C := RX10) (TT := TX10) (N := 14) rfl inw_X10 (Nat.le_of_ble_eq_true rfl) wd_256 dX10_copyFrom_118 rfl)) (am_lf_ok (fun _ => ok_aload_n dX10_copyFrom_121 rfl rfl)))) (am_nd_ok (am_lf_ok (fun _ => ok_get (C := RX10) (TT := TX10) (N := 14) rfl inw_X10 (Nat.le_of_ble_eq_true rfl) wd_256 dX10_copyFrom_122 rfl)) (am_nd_ok (am_lf_ok (fun _ => ok_cvV rfl mw_X5_copyFrom (ci := 5) rfl rfl wd_285 wd_286 wd_287 dX10_copyFrom_125 rfl)) (am_lf_ok (fun _ => ok_aload_n dX10_copyFrom_128 rfl rfl))))) (am_nd_ok (am_nd_ok (am_lf_ok (fun _ => ok_get (C := RX10) (TT := TX10) (N := 14) rfl inw_X10 (Nat.le_of_ble_eq_true rfl) wd_258 dX10_copyFrom_129 rfl)) (am_nd_ok (am_lf_ok (fun _ => ok_aload_n dX10_copyFrom_132 rfl rfl)) (am_lf_ok (fun _ => ok_get (C := RX10) (TT := TX10) (N := 14) rfl inw_X10 (Nat.le_of_ble_eq_true rfl) wd_258 dX10_copyFrom_133 rfl)))) (am_nd_ok (am_lf_ok (fun _ => ok_cvV rfl mw_X2_copyFrom (ci := 2) rfl rfl wd_288 wd_289 wd_290 dX10_copyFrom_136 rfl)) (am_nd_ok (am_lf_ok (fun _ => ok_aload_n dX10_copyFrom_139 rfl rfl)) (am_lf_ok (fun _ => ok_get (C := RX10) (TT := TX10) (N := 14) rfl inw_X10 (Nat.le_of_ble_eq_true rfl) wd_291 dX10_copyFrom_140 rfl))))))
def tX10_copyFrom_3 : Nat → Option am_Act := am_nd 147 (am_nd 144 (am_lf 143 (a_aload 1 144)) (am_lf 144 (a_get tT 10 13 147))) (am_nd 150 (am_lf 147 (a_cvV tT mX3_copyFrom 3 1 150)) (am_lf 150 (a_ret)))
theorem gX10_copyFrom_3 : am_Good tT mX10_copyFrom tX10_copyFrom_3 := am_nd_ok (am_nd_ok (am_lf_ok (fun _ => ok_aload_n dX10_copyFrom_143 rfl rfl)) (am_lf_ok (fun _ => ok_get (C := RX10) (TT := TX10) (N := 14) rfl inw_X10 (Nat.le_of_ble_eq_true rfl) wd_291 dX10_copyFrom_144 rfl))) (am_nd_ok (am_lf_ok (fun _ => ok_cvV rfl mw_X3_copyFrom (ci := 3) rfl rfl wd_292 wd_293 wd_294 dX10_copyFrom_147 rfl)) (am_lf_ok (fun _ => ok_ret rfl dX10_copyFrom_150)))
def tX10_copyFrom : Nat → Option am_Act := am_nd 94 (am_nd 46 (tX10_copyFrom_0) (tX10_copyFrom_1)) (am_nd 143 (tX10_copyFrom_2) (tX10_copyFrom_3))
theorem gX10_copyFrom : am_Good tT mX10_copyFrom tX10_copyFrom := am_nd_ok (am_nd_ok (gX10_copyFrom_0) (gX10_copyFrom_1)) (am_nd_ok (gX10_copyFrom_2) (gX10_copyFrom_3))
