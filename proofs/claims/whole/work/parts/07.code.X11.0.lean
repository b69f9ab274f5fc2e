/-! ===== code of TollOfNames ===== -/
theorem dX11_state_0 : decode cX11_state 0 = .ok (.aload_n 0, 1) := by decide +kernel
theorem dX11_state_1 : decode cX11_state 1 = .ok (.getfield 22, 3) := by decide +kernel
theorem dX11_state_4 : decode cX11_state 4 = .ok (.getfield 78, 3) := by decide +kernel
theorem dX11_state_7 : decode cX11_state 7 = .ok (.istore_n 2, 1) := by decide +kernel
theorem dX11_state_8 : decode cX11_state 8 = .ok (.aload_n 0, 1) := by decide +kernel
theorem dX11_state_9 : decode cX11_state 9 = .ok (.getfield 22, 3) := by decide +kernel
theorem dX11_state_12 : decode cX11_state 12 = .ok (.iload_n 1, 1) := by decide +kernel
theorem dX11_state_13 : decode cX11_state 13 = .ok (.putfield 78, 3) := by decide +kernel
theorem dX11_state_16 : decode cX11_state 16 = .ok (.iload_n 2, 1) := by decide +kernel
theorem dX11_state_17 : decode cX11_state 17 = .ok (.ireturn, 1) := by decide +kernel
def tX11_state_0 : Nat → Option am_Act := am_nd 9 (am_nd 4 (am_nd 1 (am_lf 0 (a_aload 0 1)) (am_lf 1 (a_get tT 11 0 4))) (am_nd 7 (am_lf 4 (a_get tT 10 0 7)) (am_nd 8 (am_lf 7 (a_istore 2 8)) (am_lf 8 (a_aload 0 9))))) (am_nd 13 (am_nd 12 (am_lf 9 (a_get tT 11 0 12)) (am_lf 12 (a_iload 1 13))) (am_nd 16 (am_lf 13 (a_put tT 10 0 16)) (am_nd 17 (am_lf 16 (a_iload 2 17)) (am_lf 17 (a_iret)))))
theorem gX11_state_0 : am_Good tT mX11_state tX11_state_0 := am_nd_ok (am_nd_ok (am_nd_ok (am_lf_ok (fun _ => ok_aload_n dX11_state_0 rfl rfl)) (am_lf_ok (fun _ => ok_get (C := RX11) (TT := TX11) (N := 10) rfl inw_X11 (Nat.le_of_ble_eq_true rfl) wd_295 dX11_state_1 rfl))) (am_nd_ok (am_lf_ok (fun _ => ok_get (C := RX10) (TT := TX10) (N := 14) rfl inw_X10 (Nat.le_of_ble_eq_true rfl) wd_296 dX11_state_4 rfl)) (am_nd_ok (am_lf_ok (fun _ => ok_istore_n dX11_state_7 rfl (Nat.le_of_ble_eq_true rfl) rfl)) (am_lf_ok (fun _ => ok_aload_n dX11_state_8 rfl rfl))))) (am_nd_ok (am_nd_ok (am_lf_ok (fun _ => ok_get (C := RX11) (TT := TX11) (N := 10) rfl inw_X11 (Nat.le_of_ble_eq_true rfl) wd_295 dX11_state_9 rfl)) (am_lf_ok (fun _ => ok_iload_n dX11_state_12 rfl rfl))) (am_nd_ok (am_lf_ok (fun _ => ok_put (C := RX10) (TT := TX10) (N := 14) (ty0 := tyX10) rfl inw_X10 tyX10_ok nmX10 (Nat.le_of_ble_eq_true rfl) rfl rfl wd_296 dX11_state_13 rfl)) (am_nd_ok (am_lf_ok (fun _ => ok_iload_n dX11_state_16 rfl rfl)) (am_lf_ok (fun _ => ok_iret rfl dX11_state_17)))))
def tX11_state : Nat → Option am_Act := tX11_state_0
theorem gX11_state : am_Good tT mX11_state tX11_state := gX11_state_0
theorem dX11_name_0 : decode cX11_name 0 = .ok (.iload_n 1, 1) := by decide +kernel
theorem dX11_name_1 : decode cX11_name 1 = .ok (.iconst 0, 1) := by decide +kernel
theorem dX11_name_2 : decode cX11_name 2 = .ok (.iconst 3, 1) := by decide +kernel
theorem dX11_name_3 : decode cX11_name 3 = .ok (.invokestatic 82, 3) := by decide +kernel
theorem dX11_name_6 : decode cX11_name 6 = .ok (.ifCond .eq 25, 3) := by decide +kernel
theorem dX11_name_9 : decode cX11_name 9 = .ok (.iload_n 2, 1) := by decide +kernel
theorem dX11_name_10 : decode cX11_name 10 = .ok (.iconst 1, 1) := by decide +kernel
theorem dX11_name_11 : decode cX11_name 11 = .ok (.bipush 12, 2) := by decide +kernel
theorem dX11_name_13 : decode cX11_name 13 = .ok (.invokestatic 82, 3) := by decide +kernel
theorem dX11_name_16 : decode cX11_name 16 = .ok (.ifCond .eq 15, 3) := by decide +kernel
theorem dX11_name_19 : decode cX11_name 19 = .ok (.aload_n 0, 1) := by decide +kernel
theorem dX11_name_20 : decode cX11_name 20 = .ok (.getfield 22, 3) := by decide +kernel
theorem dX11_name_23 : decode cX11_name 23 = .ok (.getfield 86, 3) := by decide +kernel
theorem dX11_name_26 : decode cX11_name 26 = .ok (.bipush 20, 2) := by decide +kernel
theorem dX11_name_28 : decode cX11_name 28 = .ok (.if_icmp .lt 5, 3) := by decide +kernel
theorem dX11_name_31 : decode cX11_name 31 = .ok (.iconst (-1), 1) := by decide +kernel
theorem dX11_name_32 : decode cX11_name 32 = .ok (.ireturn, 1) := by decide +kernel
theorem dX11_name_33 : decode cX11_name 33 = .ok (.aload_n 0, 1) := by decide +kernel
theorem dX11_name_34 : decode cX11_name 34 = .ok (.getfield 43, 3) := by decide +kernel
theorem dX11_name_37 : decode cX11_name 37 = .ok (.invokevirtual 89, 3) := by decide +kernel
theorem dX11_name_40 : decode cX11_name 40 = .ok (.aload_n 0, 1) := by decide +kernel
theorem dX11_name_41 : decode cX11_name 41 = .ok (.getfield 22, 3) := by decide +kernel
theorem dX11_name_44 : decode cX11_name 44 = .ok (.getfield 86, 3) := by decide +kernel
theorem dX11_name_47 : decode cX11_name 47 = .ok (.istore_n 3, 1) := by decide +kernel
theorem dX11_name_48 : decode cX11_name 48 = .ok (.aload_n 0, 1) := by decide +kernel
theorem dX11_name_49 : decode cX11_name 49 = .ok (.getfield 22, 3) := by decide +kernel
theorem dX11_name_52 : decode cX11_name 52 = .ok (.getfield 92, 3) := by decide +kernel
theorem dX11_name_55 : decode cX11_name 55 = .ok (.iload_n 3, 1) := by decide +kernel
theorem dX11_name_56 : decode cX11_name 56 = .ok (.iload_n 1, 1) := by decide +kernel
theorem dX11_name_57 : decode cX11_name 57 = .ok (.iastore, 1) := by decide +kernel
theorem dX11_name_58 : decode cX11_name 58 = .ok (.aload_n 0, 1) := by decide +kernel
theorem dX11_name_59 : decode cX11_name 59 = .ok (.getfield 22, 3) := by decide +kernel
theorem dX11_name_62 : decode cX11_name 62 = .ok (.getfield 96, 3) := by decide +kernel
theorem dX11_name_65 : decode cX11_name 65 = .ok (.iload_n 3, 1) := by decide +kernel
theorem dX11_name_66 : decode cX11_name 66 = .ok (.iload_n 2, 1) := by decide +kernel
theorem dX11_name_67 : decode cX11_name 67 = .ok (.iastore, 1) := by decide +kernel
theorem dX11_name_68 : decode cX11_name 68 = .ok (.aload_n 0, 1) := by decide +kernel
theorem dX11_name_69 : decode cX11_name 69 = .ok (.getfield 22, 3) := by decide +kernel
theorem dX11_name_72 : decode cX11_name 72 = .ok (.iload_n 3, 1) := by decide +kernel
theorem dX11_name_73 : decode cX11_name 73 = .ok (.iconst 1, 1) := by decide +kernel
theorem dX11_name_74 : decode cX11_name 74 = .ok (.iadd, 1) := by decide +kernel
theorem dX11_name_75 : decode cX11_name 75 = .ok (.putfield 86, 3) := by decide +kernel
theorem dX11_name_78 : decode cX11_name 78 = .ok (.iload_n 3, 1) := by decide +kernel
theorem dX11_name_79 : decode cX11_name 79 = .ok (.ireturn, 1) := by decide +kernel
def tX11_name_0 : Nat → Option am_Act := am_nd 23 (am_nd 10 (am_nd 3 (am_nd 1 (am_lf 0 (a_iload 1 1)) (am_nd 2 (am_lf 1 (a_const (nI 0) 2)) (am_lf 2 (a_const (nI 3) 3)))) (am_nd 6 (am_lf 3 (a_csI mX11_within 3 6)) (am_nd 9 (am_lf 6 (a_if (fun x => x = nI 0) 31 9)) (am_lf 9 (a_iload 2 10))))) (am_nd 16 (am_nd 11 (am_lf 10 (a_const (nI 1) 11)) (am_nd 13 (am_lf 11 (a_const (nI 12) 13)) (am_lf 13 (a_csI mX11_within 3 16)))) (am_nd 19 (am_lf 16 (a_if (fun x => x = nI 0) 31 19)) (am_nd 20 (am_lf 19 (a_aload 0 20)) (am_lf 20 (a_get tT 11 0 23)))))) (am_nd 34 (am_nd 31 (am_nd 26 (am_lf 23 (a_get tT 10 4 26)) (am_nd 28 (am_lf 26 (a_const (nI 20) 28)) (am_lf 28 (a_cmp (fun x y => x < y) 33 31)))) (am_nd 32 (am_lf 31 (a_const (-1) 32)) (am_nd 33 (am_lf 32 (a_iret)) (am_lf 33 (a_aload 0 34))))) (am_nd 41 (am_nd 37 (am_lf 34 (a_get tT 11 4 37)) (am_nd 40 (am_lf 37 (a_cvV tT mX8_forget 8 0 40)) (am_lf 40 (a_aload 0 41)))) (am_nd 44 (am_lf 41 (a_get tT 11 0 44)) (am_nd 47 (am_lf 44 (a_get tT 10 4 47)) (am_lf 47 (a_istore 3 48))))))
theorem gX11_name_0 : am_Good tT mX11_name tX11_name_0 := am_nd_ok (am_nd_ok (am_nd_ok (am_nd_ok (am_lf_ok (fun _ => ok_iload_n dX11_name_0 rfl rfl)) (am_nd_ok (am_lf_ok (fun _ => ok_iconst dX11_name_1 cv_iconst_0 rfl)) (am_lf_ok (fun _ => ok_iconst dX11_name_2 cv_iconst_3 rfl)))) (am_nd_ok (am_lf_ok (fun _ => ok_csI rfl mw_X11_within wd_297 wd_120 dX11_name_3 rfl)) (am_nd_ok (am_lf_ok (fun _ => ok_if_eq dX11_name_6 rfl rfl)) (am_lf_ok (fun _ => ok_iload_n dX11_name_9 rfl rfl))))) (am_nd_ok (am_nd_ok (am_lf_ok (fun _ => ok_iconst dX11_name_10 cv_iconst_1 rfl)) (am_nd_ok (am_lf_ok (fun _ => ok_bipush dX11_name_11 cv_bipush_12 rfl)) (am_lf_ok (fun _ => ok_csI rfl mw_X11_within wd_297 wd_120 dX11_name_13 rfl)))) (am_nd_ok (am_lf_ok (fun _ => ok_if_eq dX11_name_16 rfl rfl)) (am_nd_ok (am_lf_ok (fun _ => ok_aload_n dX11_name_19 rfl rfl)) (am_lf_ok (fun _ => ok_get (C := RX11) (TT := TX11) (N := 10) rfl inw_X11 (Nat.le_of_ble_eq_true rfl) wd_295 dX11_name_20 rfl)))))) (am_nd_ok (am_nd_ok (am_nd_ok (am_lf_ok (fun _ => ok_get (C := RX10) (TT := TX10) (N := 14) rfl inw_X10 (Nat.le_of_ble_eq_true rfl) wd_298 dX11_name_23 rfl)) (am_nd_ok (am_lf_ok (fun _ => ok_bipush dX11_name_26 cv_bipush_20 rfl)) (am_lf_ok (fun _ => ok_cmp_lt dX11_name_28 rfl rfl)))) (am_nd_ok (am_lf_ok (fun _ => ok_iconst dX11_name_31 cv_iconst_m1 rfl)) (am_nd_ok (am_lf_ok (fun _ => ok_iret rfl dX11_name_32)) (am_lf_ok (fun _ => ok_aload_n dX11_name_33 rfl rfl))))) (am_nd_ok (am_nd_ok (am_lf_ok (fun _ => ok_get (C := RX11) (TT := TX11) (N := 10) rfl inw_X11 (Nat.le_of_ble_eq_true rfl) wd_299 dX11_name_34 rfl)) (am_nd_ok (am_lf_ok (fun _ => ok_cvV rfl mw_X8_forget (ci := 8) rfl rfl wd_300 wd_301 wd_302 dX11_name_37 rfl)) (am_lf_ok (fun _ => ok_aload_n dX11_name_40 rfl rfl)))) (am_nd_ok (am_lf_ok (fun _ => ok_get (C := RX11) (TT := TX11) (N := 10) rfl inw_X11 (Nat.le_of_ble_eq_true rfl) wd_295 dX11_name_41 rfl)) (am_nd_ok (am_lf_ok (fun _ => ok_get (C := RX10) (TT := TX10) (N := 14) rfl inw_X10 (Nat.le_of_ble_eq_true rfl) wd_298 dX11_name_44 rfl)) (am_lf_ok (fun _ => ok_istore_n dX11_name_47 rfl (Nat.le_of_ble_eq_true rfl) rfl))))))
def tX11_name_1 : Nat → Option am_Act := am_nd 66 (am_nd 57 (am_nd 52 (am_nd 49 (am_lf 48 (a_aload 0 49)) (am_lf 49 (a_get tT 11 0 52))) (am_nd 55 (am_lf 52 (a_get tT 10 5 55)) (am_nd 56 (am_lf 55 (a_iload 3 56)) (am_lf 56 (a_iload 1 57))))) (am_nd 59 (am_nd 58 (am_lf 57 (a_iast tT 58)) (am_lf 58 (a_aload 0 59))) (am_nd 62 (am_lf 59 (a_get tT 11 0 62)) (am_nd 65 (am_lf 62 (a_get tT 10 6 65)) (am_lf 65 (a_iload 3 66)))))) (am_nd 73 (am_nd 68 (am_nd 67 (am_lf 66 (a_iload 2 67)) (am_lf 67 (a_iast tT 68))) (am_nd 69 (am_lf 68 (a_aload 0 69)) (am_nd 72 (am_lf 69 (a_get tT 11 0 72)) (am_lf 72 (a_iload 3 73))))) (am_nd 75 (am_nd 74 (am_lf 73 (a_const (nI 1) 74)) (am_lf 74 (a_bin (fun x y => x + y) 75))) (am_nd 78 (am_lf 75 (a_put tT 10 4 78)) (am_nd 79 (am_lf 78 (a_iload 3 79)) (am_lf 79 (a_iret))))))
theorem gX11_name_1 : am_Good tT mX11_name tX11_name_1 := am_nd_ok (am_nd_ok (am_nd_ok (am_nd_ok (am_lf_ok (fun _ => ok_aload_n dX11_name_48 rfl rfl)) (am_lf_ok (fun _ => ok_get (C := RX11) (TT := TX11) (N := 10) rfl inw_X11 (Nat.le_of_ble_eq_true rfl) wd_295 dX11_name_49 rfl))) (am_nd_ok (am_lf_ok (fun _ => ok_get (C := RX10) (TT := TX10) (N := 14) rfl inw_X10 (Nat.le_of_ble_eq_true rfl) wd_303 dX11_name_52 rfl)) (am_nd_ok (am_lf_ok (fun _ => ok_iload_n dX11_name_55 rfl rfl)) (am_lf_ok (fun _ => ok_iload_n dX11_name_56 rfl rfl))))) (am_nd_ok (am_nd_ok (am_lf_ok (fun _ => ok_iast dX11_name_57 rfl)) (am_lf_ok (fun _ => ok_aload_n dX11_name_58 rfl rfl))) (am_nd_ok (am_lf_ok (fun _ => ok_get (C := RX11) (TT := TX11) (N := 10) rfl inw_X11 (Nat.le_of_ble_eq_true rfl) wd_295 dX11_name_59 rfl)) (am_nd_ok (am_lf_ok (fun _ => ok_get (C := RX10) (TT := TX10) (N := 14) rfl inw_X10 (Nat.le_of_ble_eq_true rfl) wd_304 dX11_name_62 rfl)) (am_lf_ok (fun _ => ok_iload_n dX11_name_65 rfl rfl)))))) (am_nd_ok (am_nd_ok (am_nd_ok (am_lf_ok (fun _ => ok_iload_n dX11_name_66 rfl rfl)) (am_lf_ok (fun _ => ok_iast dX11_name_67 rfl))) (am_nd_ok (am_lf_ok (fun _ => ok_aload_n dX11_name_68 rfl rfl)) (am_nd_ok (am_lf_ok (fun _ => ok_get (C := RX11) (TT := TX11) (N := 10) rfl inw_X11 (Nat.le_of_ble_eq_true rfl) wd_295 dX11_name_69 rfl)) (am_lf_ok (fun _ => ok_iload_n dX11_name_72 rfl rfl))))) (am_nd_ok (am_nd_ok (am_lf_ok (fun _ => ok_iconst dX11_name_73 cv_iconst_1 rfl)) (am_lf_ok (fun _ => ok_iadd dX11_name_74 rfl))) (am_nd_ok (am_lf_ok (fun _ => ok_put (C := RX10) (TT := TX10) (N := 14) (ty0 := tyX10) rfl inw_X10 tyX10_ok nmX10 (Nat.le_of_ble_eq_true rfl) rfl rfl wd_298 dX11_name_75 rfl)) (am_nd_ok (am_lf_ok (fun _ => ok_iload_n dX11_name_78 rfl rfl)) (am_lf_ok (fun _ => ok_iret rfl dX11_name_79))))))
def tX11_name : Nat → Option am_Act := am_nd 48 (tX11_name_0) (tX11_name_1)
theorem gX11_name : am_Good tT mX11_name tX11_name := am_nd_ok (gX11_name_0) (gX11_name_1)
theorem dX11_person_0 : decode cX11_person 0 = .ok (.iload_n 1, 1) := by decide +kernel
theorem dX11_person_1 : decode cX11_person 1 = .ok (.invokestatic 99, 3) := by decide +kernel
theorem dX11_person_4 : decode cX11_person 4 = .ok (.ifCond .eq 29, 3) := by decide +kernel
theorem dX11_person_7 : decode cX11_person 7 = .ok (.iload_n 2, 1) := by decide +kernel
theorem dX11_person_8 : decode cX11_person 8 = .ok (.iconst 0, 1) := by decide +kernel
theorem dX11_person_9 : decode cX11_person 9 = .ok (.sipush 9999, 3) := by decide +kernel
theorem dX11_person_12 : decode cX11_person 12 = .ok (.invokestatic 82, 3) := by decide +kernel
theorem dX11_person_15 : decode cX11_person 15 = .ok (.ifCond .eq 18, 3) := by decide +kernel
theorem dX11_person_18 : decode cX11_person 18 = .ok (.aload_n 0, 1) := by decide +kernel
theorem dX11_person_19 : decode cX11_person 19 = .ok (.getfield 22, 3) := by decide +kernel
theorem dX11_person_22 : decode cX11_person 22 = .ok (.getfield 103, 3) := by decide +kernel
theorem dX11_person_25 : decode cX11_person 25 = .ok (.getfield 107, 3) := by decide +kernel
theorem dX11_person_28 : decode cX11_person 28 = .ok (.bipush 8, 2) := by decide +kernel
theorem dX11_person_30 : decode cX11_person 30 = .ok (.if_icmp .lt 5, 3) := by decide +kernel
theorem dX11_person_33 : decode cX11_person 33 = .ok (.iconst (-1), 1) := by decide +kernel
theorem dX11_person_34 : decode cX11_person 34 = .ok (.ireturn, 1) := by decide +kernel
theorem dX11_person_35 : decode cX11_person 35 = .ok (.aload_n 0, 1) := by decide +kernel
theorem dX11_person_36 : decode cX11_person 36 = .ok (.getfield 43, 3) := by decide +kernel
theorem dX11_person_39 : decode cX11_person 39 = .ok (.invokevirtual 89, 3) := by decide +kernel
theorem dX11_person_42 : decode cX11_person 42 = .ok (.aload_n 0, 1) := by decide +kernel
theorem dX11_person_43 : decode cX11_person 43 = .ok (.getfield 22, 3) := by decide +kernel
theorem dX11_person_46 : decode cX11_person 46 = .ok (.getfield 103, 3) := by decide +kernel
theorem dX11_person_49 : decode cX11_person 49 = .ok (.iload_n 1, 1) := by decide +kernel
theorem dX11_person_50 : decode cX11_person 50 = .ok (.iload_n 2, 1) := by decide +kernel
theorem dX11_person_51 : decode cX11_person 51 = .ok (.invokevirtual 112, 3) := by decide +kernel
theorem dX11_person_54 : decode cX11_person 54 = .ok (.ireturn, 1) := by decide +kernel
def tX11_person_0 : Nat → Option am_Act := am_nd 28 (am_nd 12 (am_nd 7 (am_nd 1 (am_lf 0 (a_iload 1 1)) (am_nd 4 (am_lf 1 (a_csI mX11_isPlace 1 4)) (am_lf 4 (a_if (fun x => x = nI 0) 33 7)))) (am_nd 8 (am_lf 7 (a_iload 2 8)) (am_nd 9 (am_lf 8 (a_const (nI 0) 9)) (am_lf 9 (a_const (nI 9999) 12))))) (am_nd 19 (am_nd 15 (am_lf 12 (a_csI mX11_within 3 15)) (am_nd 18 (am_lf 15 (a_if (fun x => x = nI 0) 33 18)) (am_lf 18 (a_aload 0 19)))) (am_nd 22 (am_lf 19 (a_get tT 11 0 22)) (am_nd 25 (am_lf 22 (a_get tT 10 11 25)) (am_lf 25 (a_get tT 5 0 28)))))) (am_nd 39 (am_nd 34 (am_nd 30 (am_lf 28 (a_const (nI 8) 30)) (am_nd 33 (am_lf 30 (a_cmp (fun x y => x < y) 35 33)) (am_lf 33 (a_const (-1) 34)))) (am_nd 35 (am_lf 34 (a_iret)) (am_nd 36 (am_lf 35 (a_aload 0 36)) (am_lf 36 (a_get tT 11 4 39))))) (am_nd 46 (am_nd 42 (am_lf 39 (a_cvV tT mX8_forget 8 0 42)) (am_nd 43 (am_lf 42 (a_aload 0 43)) (am_lf 43 (a_get tT 11 0 46)))) (am_nd 49 (am_lf 46 (a_get tT 10 11 49)) (am_nd 50 (am_lf 49 (a_iload 1 50)) (am_lf 50 (a_iload 2 51))))))
theorem gX11_person_0 : am_Good tT mX11_person tX11_person_0 := am_nd_ok (am_nd_ok (am_nd_ok (am_nd_ok (am_lf_ok (fun _ => ok_iload_n dX11_person_0 rfl rfl)) (am_nd_ok (am_lf_ok (fun _ => ok_csI rfl mw_X11_isPlace wd_305 wd_306 dX11_person_1 rfl)) (am_lf_ok (fun _ => ok_if_eq dX11_person_4 rfl rfl)))) (am_nd_ok (am_lf_ok (fun _ => ok_iload_n dX11_person_7 rfl rfl)) (am_nd_ok (am_lf_ok (fun _ => ok_iconst dX11_person_8 cv_iconst_0 rfl)) (am_lf_ok (fun _ => ok_sipush dX11_person_9 cv_sipush_9999 rfl))))) (am_nd_ok (am_nd_ok (am_lf_ok (fun _ => ok_csI rfl mw_X11_within wd_297 wd_120 dX11_person_12 rfl)) (am_nd_ok (am_lf_ok (fun _ => ok_if_eq dX11_person_15 rfl rfl)) (am_lf_ok (fun _ => ok_aload_n dX11_person_18 rfl rfl)))) (am_nd_ok (am_lf_ok (fun _ => ok_get (C := RX11) (TT := TX11) (N := 10) rfl inw_X11 (Nat.le_of_ble_eq_true rfl) wd_295 dX11_person_19 rfl)) (am_nd_ok (am_lf_ok (fun _ => ok_get (C := RX10) (TT := TX10) (N := 14) rfl inw_X10 (Nat.le_of_ble_eq_true rfl) wd_307 dX11_person_22 rfl)) (am_lf_ok (fun _ => ok_get (C := RX5) (TT := TX5) (N := 8) rfl inw_X5 (Nat.le_of_ble_eq_true rfl) wd_308 dX11_person_25 rfl)))))) (am_nd_ok (am_nd_ok (am_nd_ok (am_lf_ok (fun _ => ok_bipush dX11_person_28 cv_bipush_8 rfl)) (am_nd_ok (am_lf_ok (fun _ => ok_cmp_lt dX11_person_30 rfl rfl)) (am_lf_ok (fun _ => ok_iconst dX11_person_33 cv_iconst_m1 rfl)))) (am_nd_ok (am_lf_ok (fun _ => ok_iret rfl dX11_person_34)) (am_nd_ok (am_lf_ok (fun _ => ok_aload_n dX11_person_35 rfl rfl)) (am_lf_ok (fun _ => ok_get (C := RX11) (TT := TX11) (N := 10) rfl inw_X11 (Nat.le_of_ble_eq_true rfl) wd_299 dX11_person_36 rfl))))) (am_nd_ok (am_nd_ok (am_lf_ok (fun _ => ok_cvV rfl mw_X8_forget (ci := 8) rfl rfl wd_300 wd_301 wd_302 dX11_person_39 rfl)) (am_nd_ok (am_lf_ok (fun _ => ok_aload_n dX11_person_42 rfl rfl)) (am_lf_ok (fun _ => ok_get (C := RX11) (TT := TX11) (N := 10) rfl inw_X11 (Nat.le_of_ble_eq_true rfl) wd_295 dX11_person_43 rfl)))) (am_nd_ok (am_lf_ok (fun _ => ok_get (C := RX10) (TT := TX10) (N := 14) rfl inw_X10 (Nat.le_of_ble_eq_true rfl) wd_307 dX11_person_46 rfl)) (am_nd_ok (am_lf_ok (fun _ => ok_iload_n dX11_person_49 rfl rfl)) (am_lf_ok (fun _ => ok_iload_n dX11_person_50 rfl rfl))))))
def tX11_person_1 : Nat → Option am_Act := am_nd 54 (am_lf 51 (a_cvI tT mX5_add 5 2 54)) (am_lf 54 (a_iret))
theorem gX11_person_1 : am_Good tT mX11_person tX11_person_1 := am_nd_ok (am_lf_ok (fun _ => ok_cvI rfl mw_X5_add (ci := 5) rfl rfl wd_309 wd_310 wd_311 dX11_person_51 rfl)) (am_lf_ok (fun _ => ok_iret rfl dX11_person_54))
def tX11_person : Nat → Option am_Act := am_nd 51 (tX11_person_0) (tX11_person_1)
theorem gX11_person : am_Good tT mX11_person tX11_person := am_nd_ok (gX11_person_0) (gX11_person_1)
theorem dX11_bridge_0 : decode cX11_bridge 0 = .ok (.iload_n 1, 1) := by decide +kernel
theorem dX11_bridge_1 : decode cX11_bridge 1 = .ok (.invokestatic 99, 3) := by decide +kernel
theorem dX11_bridge_4 : decode cX11_bridge 4 = .ok (.ifCond .eq 30, 3) := by decide +kernel
theorem dX11_bridge_7 : decode cX11_bridge 7 = .ok (.iload_n 2, 1) := by decide +kernel
theorem dX11_bridge_8 : decode cX11_bridge 8 = .ok (.invokestatic 99, 3) := by decide +kernel
theorem dX11_bridge_11 : decode cX11_bridge 11 = .ok (.ifCond .eq 23, 3) := by decide +kernel
theorem dX11_bridge_14 : decode cX11_bridge 14 = .ok (.iload_n 1, 1) := by decide +kernel
theorem dX11_bridge_15 : decode cX11_bridge 15 = .ok (.iload_n 2, 1) := by decide +kernel
theorem dX11_bridge_16 : decode cX11_bridge 16 = .ok (.if_icmp .eq 18, 3) := by decide +kernel
theorem dX11_bridge_19 : decode cX11_bridge 19 = .ok (.aload_n 0, 1) := by decide +kernel
theorem dX11_bridge_20 : decode cX11_bridge 20 = .ok (.getfield 22, 3) := by decide +kernel
theorem dX11_bridge_23 : decode cX11_bridge 23 = .ok (.getfield 116, 3) := by decide +kernel
theorem dX11_bridge_26 : decode cX11_bridge 26 = .ok (.getfield 120, 3) := by decide +kernel
theorem dX11_bridge_29 : decode cX11_bridge 29 = .ok (.bipush 12, 2) := by decide +kernel
theorem dX11_bridge_31 : decode cX11_bridge 31 = .ok (.if_icmp .lt 5, 3) := by decide +kernel
theorem dX11_bridge_34 : decode cX11_bridge 34 = .ok (.iconst (-1), 1) := by decide +kernel
theorem dX11_bridge_35 : decode cX11_bridge 35 = .ok (.ireturn, 1) := by decide +kernel
theorem dX11_bridge_36 : decode cX11_bridge 36 = .ok (.aload_n 0, 1) := by decide +kernel
theorem dX11_bridge_37 : decode cX11_bridge 37 = .ok (.getfield 43, 3) := by decide +kernel
theorem dX11_bridge_40 : decode cX11_bridge 40 = .ok (.invokevirtual 89, 3) := by decide +kernel
theorem dX11_bridge_43 : decode cX11_bridge 43 = .ok (.aload_n 0, 1) := by decide +kernel
theorem dX11_bridge_44 : decode cX11_bridge 44 = .ok (.getfield 22, 3) := by decide +kernel
theorem dX11_bridge_47 : decode cX11_bridge 47 = .ok (.getfield 116, 3) := by decide +kernel
theorem dX11_bridge_50 : decode cX11_bridge 50 = .ok (.iload_n 1, 1) := by decide +kernel
theorem dX11_bridge_51 : decode cX11_bridge 51 = .ok (.iload_n 2, 1) := by decide +kernel
theorem dX11_bridge_52 : decode cX11_bridge 52 = .ok (.invokevirtual 123, 3) := by decide +kernel
theorem dX11_bridge_55 : decode cX11_bridge 55 = .ok (.ireturn, 1) := by decide +kernel
def tX11_bridge_0 : Nat → Option am_Act := am_nd 26 (am_nd 14 (am_nd 7 (am_nd 1 (am_lf 0 (a_iload 1 1)) (am_nd 4 (am_lf 1 (a_csI mX11_isPlace 1 4)) (am_lf 4 (a_if (fun x => x = nI 0) 34 7)))) (am_nd 8 (am_lf 7 (a_iload 2 8)) (am_nd 11 (am_lf 8 (a_csI mX11_isPlace 1 11)) (am_lf 11 (a_if (fun x => x = nI 0) 34 14))))) (am_nd 19 (am_nd 15 (am_lf 14 (a_iload 1 15)) (am_nd 16 (am_lf 15 (a_iload 2 16)) (am_lf 16 (a_cmp (fun x y => x = y) 34 19)))) (am_nd 20 (am_lf 19 (a_aload 0 20)) (am_nd 23 (am_lf 20 (a_get tT 11 0 23)) (am_lf 23 (a_get tT 10 12 26)))))) (am_nd 37 (am_nd 34 (am_nd 29 (am_lf 26 (a_get tT 2 0 29)) (am_nd 31 (am_lf 29 (a_const (nI 12) 31)) (am_lf 31 (a_cmp (fun x y => x < y) 36 34)))) (am_nd 35 (am_lf 34 (a_const (-1) 35)) (am_nd 36 (am_lf 35 (a_iret)) (am_lf 36 (a_aload 0 37))))) (am_nd 44 (am_nd 40 (am_lf 37 (a_get tT 11 4 40)) (am_nd 43 (am_lf 40 (a_cvV tT mX8_forget 8 0 43)) (am_lf 43 (a_aload 0 44)))) (am_nd 47 (am_lf 44 (a_get tT 11 0 47)) (am_nd 50 (am_lf 47 (a_get tT 10 12 50)) (am_lf 50 (a_iload 1 51))))))
theorem gX11_bridge_0 : am_Good tT mX11_bridge tX11_bridge_0 := am_nd_ok (am_nd_ok (am_nd_ok (am_nd_ok (am_lf_ok (fun _ => ok_iload_n dX11_bridge_0 rfl rfl)) (am_nd_ok (am_lf_ok (fun _ => ok_csI rfl mw_X11_isPlace wd_305 wd_306 dX11_bridge_1 rfl)) (am_lf_ok (fun _ => ok_if_eq dX11_bridge_4 rfl rfl)))) (am_nd_ok (am_lf_ok (fun _ => ok_iload_n dX11_bridge_7 rfl rfl)) (am_nd_ok (am_lf_ok (fun _ => ok_csI rfl mw_X11_isPlace wd_305 wd_306 dX11_bridge_8 rfl)) (am_lf_ok (fun _ => ok_if_eq dX11_bridge_11 rfl rfl))))) (am_nd_ok (am_nd_ok (am_lf_ok (fun _ => ok_iload_n dX11_bridge_14 rfl rfl)) (am_nd_ok (am_lf_ok (fun _ => ok_iload_n dX11_bridge_15 rfl rfl)) (am_lf_ok (fun _ => ok_cmp_eq dX11_bridge_16 rfl rfl)))) (am_nd_ok (am_lf_ok (fun _ => ok_aload_n dX11_bridge_19 rfl rfl)) (am_nd_ok (am_lf_ok (fun _ => ok_get (C := RX11) (TT := TX11) (N := 10) rfl inw_X11 (Nat.le_of_ble_eq_true rfl) wd_295 dX11_bridge_20 rfl)) (am_lf_ok (fun _ => ok_get (C := RX10) (TT := TX10) (N := 14) rfl inw_X10 (Nat.le_of_ble_eq_true rfl) wd_312 dX11_bridge_23 rfl)))))) (am_nd_ok (am_nd_ok (am_nd_ok (am_lf_ok (fun _ => ok_get (C := RX2) (TT := TX2) (N := 3) rfl inw_X2 (Nat.le_of_ble_eq_true rfl) wd_313 dX11_bridge_26 rfl)) (am_nd_ok (am_lf_ok (fun _ => ok_bipush dX11_bridge_29 cv_bipush_12 rfl)) (am_lf_ok (fun _ => ok_cmp_lt dX11_bridge_31 rfl rfl)))) (am_nd_ok (am_lf_ok (fun _ => ok_iconst dX11_bridge_34 cv_iconst_m1 rfl)) (am_nd_ok (am_lf_ok (fun _ => ok_iret rfl dX11_bridge_35)) (am_lf_ok (fun _ => ok_aload_n dX11_bridge_36 rfl rfl))))) (am_nd_ok (am_nd_ok (am_lf_ok (fun _ => ok_get (C := RX11) (TT := TX11) (N := 10) rfl inw_X11 (Nat.le_of_ble_eq_true rfl) wd_299 dX11_bridge_37 rfl)) (am_nd_ok (am_lf_ok (fun _ => ok_cvV rfl mw_X8_forget (ci := 8) rfl rfl wd_300 wd_301 wd_302 dX11_bridge_40 rfl)) (am_lf_ok (fun _ => ok_aload_n dX11_bridge_43 rfl rfl)))) (am_nd_ok (am_lf_ok (fun _ => ok_get (C := RX11) (TT := TX11) (N := 10) rfl inw_X11 (Nat.le_of_ble_eq_true rfl) wd_295 dX11_bridge_44 rfl)) (am_nd_ok (am_lf_ok (fun _ => ok_get (C := RX10) (TT := TX10) (N := 14) rfl inw_X10 (Nat.le_of_ble_eq_true rfl) wd_312 dX11_bridge_47 rfl)) (am_lf_ok (fun _ => ok_iload_n dX11_bridge_50 rfl rfl))))))
def tX11_bridge_1 : Nat → Option am_Act := am_nd 52 (am_lf 51 (a_iload 2 52)) (am_nd 55 (am_lf 52 (a_cvI tT mX2_add 2 2 55)) (am_lf 55 (a_iret)))
theorem gX11_bridge_1 : am_Good tT mX11_bridge tX11_bridge_1 := am_nd_ok (am_lf_ok (fun _ => ok_iload_n dX11_bridge_51 rfl rfl)) (am_nd_ok (am_lf_ok (fun _ => ok_cvI rfl mw_X2_add (ci := 2) rfl rfl wd_314 wd_315 wd_316 dX11_bridge_52 rfl)) (am_lf_ok (fun _ => ok_iret rfl dX11_bridge_55)))
def tX11_bridge : Nat → Option am_Act := am_nd 51 (tX11_bridge_0) (tX11_bridge_1)
theorem gX11_bridge : am_Good tT mX11_bridge tX11_bridge := am_nd_ok (gX11_bridge_0) (gX11_bridge_1)
theorem dX11_christen_0 : decode cX11_christen 0 = .ok (.aload_n 0, 1) := by decide +kernel
theorem dX11_christen_1 : decode cX11_christen 1 = .ok (.getfield 22, 3) := by decide +kernel
theorem dX11_christen_4 : decode cX11_christen 4 = .ok (.iload_n 1, 1) := by decide +kernel
theorem dX11_christen_5 : decode cX11_christen 5 = .ok (.invokevirtual 124, 3) := by decide +kernel
theorem dX11_christen_8 : decode cX11_christen 8 = .ok (.ifCond .eq 29, 3) := by decide +kernel
theorem dX11_christen_11 : decode cX11_christen 11 = .ok (.aload_n 0, 1) := by decide +kernel
theorem dX11_christen_12 : decode cX11_christen 12 = .ok (.getfield 22, 3) := by decide +kernel
theorem dX11_christen_15 : decode cX11_christen 15 = .ok (.iload_n 2, 1) := by decide +kernel
theorem dX11_christen_16 : decode cX11_christen 16 = .ok (.invokevirtual 127, 3) := by decide +kernel
theorem dX11_christen_19 : decode cX11_christen 19 = .ok (.ifCond .eq 18, 3) := by decide +kernel
theorem dX11_christen_22 : decode cX11_christen 22 = .ok (.aload_n 0, 1) := by decide +kernel
theorem dX11_christen_23 : decode cX11_christen 23 = .ok (.getfield 22, 3) := by decide +kernel
theorem dX11_christen_26 : decode cX11_christen 26 = .ok (.getfield 103, 3) := by decide +kernel
theorem dX11_christen_29 : decode cX11_christen 29 = .ok (.iload_n 1, 1) := by decide +kernel
theorem dX11_christen_30 : decode cX11_christen 30 = .ok (.iload_n 2, 1) := by decide +kernel
theorem dX11_christen_31 : decode cX11_christen 31 = .ok (.invokevirtual 130, 3) := by decide +kernel
theorem dX11_christen_34 : decode cX11_christen 34 = .ok (.ifCond .ne 5, 3) := by decide +kernel
theorem dX11_christen_37 : decode cX11_christen 37 = .ok (.iconst 0, 1) := by decide +kernel
theorem dX11_christen_38 : decode cX11_christen 38 = .ok (.ireturn, 1) := by decide +kernel
theorem dX11_christen_39 : decode cX11_christen 39 = .ok (.aload_n 0, 1) := by decide +kernel
theorem dX11_christen_40 : decode cX11_christen 40 = .ok (.getfield 43, 3) := by decide +kernel
theorem dX11_christen_43 : decode cX11_christen 43 = .ok (.invokevirtual 89, 3) := by decide +kernel
theorem dX11_christen_46 : decode cX11_christen 46 = .ok (.aload_n 0, 1) := by decide +kernel
theorem dX11_christen_47 : decode cX11_christen 47 = .ok (.getfield 22, 3) := by decide +kernel
theorem dX11_christen_50 : decode cX11_christen 50 = .ok (.getfield 103, 3) := by decide +kernel
theorem dX11_christen_53 : decode cX11_christen 53 = .ok (.iload_n 1, 1) := by decide +kernel
theorem dX11_christen_54 : decode cX11_christen 54 = .ok (.iload_n 2, 1) := by decide +kernel
theorem dX11_christen_55 : decode cX11_christen 55 = .ok (.invokevirtual 134, 3) := by decide +kernel
theorem dX11_christen_58 : decode cX11_christen 58 = .ok (.aload_n 0, 1) := by decide +kernel
theorem dX11_christen_59 : decode cX11_christen 59 = .ok (.getfield 22, 3) := by decide +kernel
theorem dX11_christen_62 : decode cX11_christen 62 = .ok (.getfield 103, 3) := by decide +kernel
theorem dX11_christen_65 : decode cX11_christen 65 = .ok (.getfield 138, 3) := by decide +kernel
theorem dX11_christen_68 : decode cX11_christen 68 = .ok (.iload_n 1, 1) := by decide +kernel
theorem dX11_christen_69 : decode cX11_christen 69 = .ok (.dup2, 1) := by decide +kernel
theorem dX11_christen_70 : decode cX11_christen 70 = .ok (.iaload, 1) := by decide +kernel
theorem dX11_christen_71 : decode cX11_christen 71 = .ok (.iconst 1, 1) := by decide +kernel
theorem dX11_christen_72 : decode cX11_christen 72 = .ok (.iload_n 2, 1) := by decide +kernel
theorem dX11_christen_73 : decode cX11_christen 73 = .ok (.ishl, 1) := by decide +kernel
theorem dX11_christen_74 : decode cX11_christen 74 = .ok (.ior, 1) := by decide +kernel
theorem dX11_christen_75 : decode cX11_christen 75 = .ok (.iastore, 1) := by decide +kernel
theorem dX11_christen_76 : decode cX11_christen 76 = .ok (.iconst 1, 1) := by decide +kernel
theorem dX11_christen_77 : decode cX11_christen 77 = .ok (.ireturn, 1) := by decide +kernel
def tX11_christen_0 : Nat → Option am_Act := am_nd 26 (am_nd 12 (am_nd 5 (am_nd 1 (am_lf 0 (a_aload 0 1)) (am_nd 4 (am_lf 1 (a_get tT 11 0 4)) (am_lf 4 (a_iload 1 5)))) (am_nd 8 (am_lf 5 (a_cvI tT mX10_isPerson 10 1 8)) (am_nd 11 (am_lf 8 (a_if (fun x => x = nI 0) 37 11)) (am_lf 11 (a_aload 0 12))))) (am_nd 19 (am_nd 15 (am_lf 12 (a_get tT 11 0 15)) (am_nd 16 (am_lf 15 (a_iload 2 16)) (am_lf 16 (a_cvI tT mX10_isName 10 1 19)))) (am_nd 22 (am_lf 19 (a_if (fun x => x = nI 0) 37 22)) (am_nd 23 (am_lf 22 (a_aload 0 23)) (am_lf 23 (a_get tT 11 0 26)))))) (am_nd 38 (am_nd 31 (am_nd 29 (am_lf 26 (a_get tT 10 11 29)) (am_nd 30 (am_lf 29 (a_iload 1 30)) (am_lf 30 (a_iload 2 31)))) (am_nd 34 (am_lf 31 (a_cvI tT mX5_canGain 5 2 34)) (am_nd 37 (am_lf 34 (a_if (fun x => x = nI 0) 37 39)) (am_lf 37 (a_const (nI 0) 38))))) (am_nd 43 (am_nd 39 (am_lf 38 (a_zret)) (am_nd 40 (am_lf 39 (a_aload 0 40)) (am_lf 40 (a_get tT 11 4 43)))) (am_nd 46 (am_lf 43 (a_cvV tT mX8_forget 8 0 46)) (am_nd 47 (am_lf 46 (a_aload 0 47)) (am_lf 47 (a_get tT 11 0 50))))))
theorem gX11_christen_0 : am_Good tT mX11_christen tX11_christen_0 := am_nd_ok (am_nd_ok (am_nd_ok (am_nd_ok (am_lf_ok (fun _ => ok_aload_n dX11_christen_0 rfl rfl)) (am_nd_ok (am_lf_ok (fun _ => ok_get (C := RX11) (TT := TX11) (N := 10) rfl inw_X11 (Nat.le_of_ble_eq_true rfl) wd_295 dX11_christen_1 rfl)) (am_lf_ok (fun _ => ok_iload_n dX11_christen_4 rfl rfl)))) (am_nd_ok (am_lf_ok (fun _ => ok_cvI rfl mw_X10_isPerson (ci := 10) rfl rfl wd_317 wd_318 wd_319 dX11_christen_5 rfl)) (am_nd_ok (am_lf_ok (fun _ => ok_if_eq dX11_christen_8 rfl rfl)) (am_lf_ok (fun _ => ok_aload_n dX11_christen_11 rfl rfl))))) (am_nd_ok (am_nd_ok (am_lf_ok (fun _ => ok_get (C := RX11) (TT := TX11) (N := 10) rfl inw_X11 (Nat.le_of_ble_eq_true rfl) wd_295 dX11_christen_12 rfl)) (am_nd_ok (am_lf_ok (fun _ => ok_iload_n dX11_christen_15 rfl rfl)) (am_lf_ok (fun _ => ok_cvI rfl mw_X10_isName (ci := 10) rfl rfl wd_320 wd_321 wd_322 dX11_christen_16 rfl)))) (am_nd_ok (am_lf_ok (fun _ => ok_if_eq dX11_christen_19 rfl rfl)) (am_nd_ok (am_lf_ok (fun _ => ok_aload_n dX11_christen_22 rfl rfl)) (am_lf_ok (fun _ => ok_get (C := RX11) (TT := TX11) (N := 10) rfl inw_X11 (Nat.le_of_ble_eq_true rfl) wd_295 dX11_christen_23 rfl)))))) (am_nd_ok (am_nd_ok (am_nd_ok (am_lf_ok (fun _ => ok_get (C := RX10) (TT := TX10) (N := 14) rfl inw_X10 (Nat.le_of_ble_eq_true rfl) wd_307 dX11_christen_26 rfl)) (am_nd_ok (am_lf_ok (fun _ => ok_iload_n dX11_christen_29 rfl rfl)) (am_lf_ok (fun _ => ok_iload_n dX11_christen_30 rfl rfl)))) (am_nd_ok (am_lf_ok (fun _ => ok_cvI rfl mw_X5_canGain (ci := 5) rfl rfl wd_323 wd_324 wd_325 dX11_christen_31 rfl)) (am_nd_ok (am_lf_ok (fun _ => ok_if_ne dX11_christen_34 rfl rfl)) (am_lf_ok (fun _ => ok_iconst dX11_christen_37 cv_iconst_0 rfl))))) (am_nd_ok (am_nd_ok (am_lf_ok (fun _ => ok_zret rfl dX11_christen_38)) (am_nd_ok (am_lf_ok (fun _ => ok_aload_n dX11_christen_39 rfl rfl)) (am_lf_ok (fun _ => ok_get (C := RX11) (TT := TX11) (N := 10) rfl inw_X11 (Nat.le_of_ble_eq_true rfl) wd_299 dX11_christen_40 rfl)))) (am_nd_ok (am_lf_ok (fun _ => ok_cvV rfl mw_X8_forget (ci := 8) rfl rfl wd_300 wd_301 wd_302 dX11_christen_43 rfl)) (am_nd_ok (am_lf_ok (fun _ => ok_aload_n dX11_christen_46 rfl rfl)) (am_lf_ok (fun _ => ok_get (C := RX11) (TT := TX11) (N := 10) rfl inw_X11 (Nat.le_of_ble_eq_true rfl) wd_295 dX11_christen_47 rfl))))))
def tX11_christen_1 : Nat → Option am_Act := am_nd 69 (am_nd 58 (am_nd 54 (am_nd 53 (am_lf 50 (a_get tT 10 11 53)) (am_lf 53 (a_iload 1 54))) (am_nd 55 (am_lf 54 (a_iload 2 55)) (am_lf 55 (a_cvV tT mX5_append 5 2 58)))) (am_nd 62 (am_nd 59 (am_lf 58 (a_aload 0 59)) (am_lf 59 (a_get tT 11 0 62))) (am_nd 65 (am_lf 62 (a_get tT 10 11 65)) (am_nd 68 (am_lf 65 (a_get tT 5 3 68)) (am_lf 68 (a_iload 1 69)))))) (am_nd 73 (am_nd 71 (am_nd 70 (am_lf 69 (a_dup2 70)) (am_lf 70 (a_iald tT 71))) (am_nd 72 (am_lf 71 (a_const (nI 1) 72)) (am_lf 72 (a_iload 2 73)))) (am_nd 75 (am_nd 74 (am_lf 73 (a_bin (fun x y => x <<< (y &&& 31)) 74)) (am_lf 74 (a_bin (fun x y => x ||| y) 75))) (am_nd 76 (am_lf 75 (a_iast tT 76)) (am_nd 77 (am_lf 76 (a_const (nI 1) 77)) (am_lf 77 (a_zret))))))
theorem gX11_christen_1 : am_Good tT mX11_christen tX11_christen_1 := am_nd_ok (am_nd_ok (am_nd_ok (am_nd_ok (am_lf_ok (fun _ => ok_get (C := RX10) (TT := TX10) (N := 14) rfl inw_X10 (Nat.le_of_ble_eq_true rfl) wd_307 dX11_christen_50 rfl)) (am_lf_ok (fun _ => ok_iload_n dX11_christen_53 rfl rfl))) (am_nd_ok (am_lf_ok (fun _ => ok_iload_n dX11_christen_54 rfl rfl)) (am_lf_ok (fun _ => ok_cvV rfl mw_X5_append (ci := 5) rfl rfl wd_326 wd_185 wd_186 dX11_christen_55 rfl)))) (am_nd_ok (am_nd_ok (am_lf_ok (fun _ => ok_aload_n dX11_christen_58 rfl rfl)) (am_lf_ok (fun _ => ok_get (C := RX11) (TT := TX11) (N := 10) rfl inw_X11 (Nat.le_of_ble_eq_true rfl) wd_295 dX11_christen_59 rfl))) (am_nd_ok (am_lf_ok (fun _ => ok_get (C := RX10) (TT := TX10) (N := 14) rfl inw_X10 (Nat.le_of_ble_eq_true rfl) wd_307 dX11_christen_62 rfl)) (am_nd_ok (am_lf_ok (fun _ => ok_get (C := RX5) (TT := TX5) (N := 8) rfl inw_X5 (Nat.le_of_ble_eq_true rfl) wd_327 dX11_christen_65 rfl)) (am_lf_ok (fun _ => ok_iload_n dX11_christen_68 rfl rfl)))))) (am_nd_ok (am_nd_ok (am_nd_ok (am_lf_ok (fun _ => ok_dup2 dX11_christen_69 rfl)) (am_lf_ok (fun _ => ok_iald dX11_christen_70 rfl))) (am_nd_ok (am_lf_ok (fun _ => ok_iconst dX11_christen_71 cv_iconst_1 rfl)) (am_lf_ok (fun _ => ok_iload_n dX11_christen_72 rfl rfl)))) (am_nd_ok (am_nd_ok (am_lf_ok (fun _ => ok_ishl dX11_christen_73 rfl)) (am_lf_ok (fun _ => ok_ior dX11_christen_74 rfl))) (am_nd_ok (am_lf_ok (fun _ => ok_iast dX11_christen_75 rfl)) (am_nd_ok (am_lf_ok (fun _ => ok_iconst dX11_christen_76 cv_iconst_1 rfl)) (am_lf_ok (fun _ => ok_zret rfl dX11_christen_77))))))
def tX11_christen : Nat → Option am_Act := am_nd 50 (tX11_christen_0) (tX11_christen_1)
theorem gX11_christen : am_Good tT mX11_christen tX11_christen := am_nd_ok (gX11_christen_0) (gX11_christen_1)
theorem dX11_set_0 : decode cX11_set 0 = .ok (.iload_n 1, 1) := by decide +kernel
theorem dX11_set_1 : decode cX11_set 1 = .ok (.ifCond .eq 8, 3) := by decide +kernel
theorem dX11_set_4 : decode cX11_set 4 = .ok (.iload_n 1, 1) := by decide +kernel
theorem dX11_set_5 : decode cX11_set 5 = .ok (.iconst 1, 1) := by decide +kernel
theorem dX11_set_6 : decode cX11_set 6 = .ok (.if_icmp .ne 12, 3) := by decide +kernel
theorem dX11_set_9 : decode cX11_set 9 = .ok (.aload_n 0, 1) := by decide +kernel
theorem dX11_set_10 : decode cX11_set 10 = .ok (.iload_n 1, 1) := by decide +kernel
theorem dX11_set_11 : decode cX11_set 11 = .ok (.iload_n 3, 1) := by decide +kernel
theorem dX11_set_12 : decode cX11_set 12 = .ok (.invokevirtual 141, 3) := by decide +kernel
theorem dX11_set_15 : decode cX11_set 15 = .ok (.goto 10, 3) := by decide +kernel
theorem dX11_set_18 : decode cX11_set 18 = .ok (.aload_n 0, 1) := by decide +kernel
theorem dX11_set_19 : decode cX11_set 19 = .ok (.iload_n 1, 1) := by decide +kernel
theorem dX11_set_20 : decode cX11_set 20 = .ok (.iload_n 2, 1) := by decide +kernel
theorem dX11_set_21 : decode cX11_set 21 = .ok (.iload_n 3, 1) := by decide +kernel
theorem dX11_set_22 : decode cX11_set 22 = .ok (.invokevirtual 144, 3) := by decide +kernel
theorem dX11_set_25 : decode cX11_set 25 = .ok (.istore 4, 2) := by decide +kernel
theorem dX11_set_27 : decode cX11_set 27 = .ok (.iload 4, 2) := by decide +kernel
theorem dX11_set_29 : decode cX11_set 29 = .ok (.ifCond .eq 10, 3) := by decide +kernel
theorem dX11_set_32 : decode cX11_set 32 = .ok (.aload_n 0, 1) := by decide +kernel
theorem dX11_set_33 : decode cX11_set 33 = .ok (.getfield 43, 3) := by decide +kernel
theorem dX11_set_36 : decode cX11_set 36 = .ok (.invokevirtual 89, 3) := by decide +kernel
theorem dX11_set_39 : decode cX11_set 39 = .ok (.iload 4, 2) := by decide +kernel
theorem dX11_set_41 : decode cX11_set 41 = .ok (.ireturn, 1) := by decide +kernel
def tX11_set_0 : Nat → Option am_Act := am_nd 19 (am_nd 9 (am_nd 4 (am_nd 1 (am_lf 0 (a_iload 1 1)) (am_lf 1 (a_if (fun x => x = nI 0) 9 4))) (am_nd 5 (am_lf 4 (a_iload 1 5)) (am_nd 6 (am_lf 5 (a_const (nI 1) 6)) (am_lf 6 (a_cmp (fun x y => x = y) 9 18))))) (am_nd 12 (am_nd 10 (am_lf 9 (a_aload 0 10)) (am_nd 11 (am_lf 10 (a_iload 1 11)) (am_lf 11 (a_iload 3 12)))) (am_nd 15 (am_lf 12 (a_cvI tT mX11_setForAll 11 2 15)) (am_nd 18 (am_lf 15 (a_goto 25)) (am_lf 18 (a_aload 0 19)))))) (am_nd 29 (am_nd 22 (am_nd 20 (am_lf 19 (a_iload 1 20)) (am_nd 21 (am_lf 20 (a_iload 2 21)) (am_lf 21 (a_iload 3 22)))) (am_nd 25 (am_lf 22 (a_cvI tT mX11_setOfPerson 11 3 25)) (am_nd 27 (am_lf 25 (a_istore 4 27)) (am_lf 27 (a_iload 4 29))))) (am_nd 36 (am_nd 32 (am_lf 29 (a_if (fun x => x = nI 0) 39 32)) (am_nd 33 (am_lf 32 (a_aload 0 33)) (am_lf 33 (a_get tT 11 4 36)))) (am_nd 39 (am_lf 36 (a_cvV tT mX8_forget 8 0 39)) (am_nd 41 (am_lf 39 (a_iload 4 41)) (am_lf 41 (a_zret))))))
theorem gX11_set_0 : am_Good tT mX11_set tX11_set_0 := am_nd_ok (am_nd_ok (am_nd_ok (am_nd_ok (am_lf_ok (fun _ => ok_iload_n dX11_set_0 rfl rfl)) (am_lf_ok (fun _ => ok_if_eq dX11_set_1 rfl rfl))) (am_nd_ok (am_lf_ok (fun _ => ok_iload_n dX11_set_4 rfl rfl)) (am_nd_ok (am_lf_ok (fun _ => ok_iconst dX11_set_5 cv_iconst_1 rfl)) (am_lf_ok (fun _ => ok_cmp_ne dX11_set_6 rfl rfl))))) (am_nd_ok (am_nd_ok (am_lf_ok (fun _ => ok_aload_n dX11_set_9 rfl rfl)) (am_nd_ok (am_lf_ok (fun _ => ok_iload_n dX11_set_10 rfl rfl)) (am_lf_ok (fun _ => ok_iload_n dX11_set_11 rfl rfl)))) (am_nd_ok (am_lf_ok (fun _ => ok_cvI rfl mw_X11_setForAll (ci := 11) rfl rfl wd_328 wd_329 wd_330 dX11_set_12 rfl)) (am_nd_ok (am_lf_ok (fun _ => ok_goto dX11_set_15 rfl)) (am_lf_ok (fun _ => ok_aload_n dX11_set_18 rfl rfl)))))) (am_nd_ok (am_nd_ok (am_nd_ok (am_lf_ok (fun _ => ok_iload_n dX11_set_19 rfl rfl)) (am_nd_ok (am_lf_ok (fun _ => ok_iload_n dX11_set_20 rfl rfl)) (am_lf_ok (fun _ => ok_iload_n dX11_set_21 rfl rfl)))) (am_nd_ok (am_lf_ok (fun _ => ok_cvI rfl mw_X11_setOfPerson (ci := 11) rfl rfl wd_331 wd_332 wd_333 dX11_set_22 rfl)) (am_nd_ok (am_lf_ok (fun _ => ok_istore dX11_set_25 (Nat.le_of_ble_eq_true rfl) rfl)) (am_lf_ok (fun _ => ok_iload dX11_set_27 rfl))))) (am_nd_ok (am_nd_ok (am_lf_ok (fun _ => ok_if_eq dX11_set_29 rfl rfl)) (am_nd_ok (am_lf_ok (fun _ => ok_aload_n dX11_set_32 rfl rfl)) (am_lf_ok (fun _ => ok_get (C := RX11) (TT := TX11) (N := 10) rfl inw_X11 (Nat.le_of_ble_eq_true rfl) wd_299 dX11_set_33 rfl)))) (am_nd_ok (am_lf_ok (fun _ => ok_cvV rfl mw_X8_forget (ci := 8) rfl rfl wd_300 wd_301 wd_302 dX11_set_36 rfl)) (am_nd_ok (am_lf_ok (fun _ => ok_iload dX11_set_39 rfl)) (am_lf_ok (fun _ => ok_zret rfl dX11_set_41))))))
def tX11_set : Nat → Option am_Act := tX11_set_0
theorem gX11_set : am_Good tT mX11_set tX11_set := gX11_set_0
theorem dX11_feed_0 : decode cX11_feed 0 = .ok (.aload_n 0, 1) := by decide +kernel
theorem dX11_feed_1 : decode cX11_feed 1 = .ok (.getfield 36, 3) := by decide +kernel
theorem dX11_feed_4 : decode cX11_feed 4 = .ok (.invokevirtual 147, 3) := by decide +kernel
theorem dX11_feed_7 : decode cX11_feed 7 = .ok (.ifCond .ne 5, 3) := by decide +kernel
theorem dX11_feed_10 : decode cX11_feed 10 = .ok (.iconst (-1), 1) := by decide +kernel
theorem dX11_feed_11 : decode cX11_feed 11 = .ok (.ireturn, 1) := by decide +kernel
theorem dX11_feed_12 : decode cX11_feed 12 = .ok (.aload_n 0, 1) := by decide +kernel
theorem dX11_feed_13 : decode cX11_feed 13 = .ok (.getfield 36, 3) := by decide +kernel
theorem dX11_feed_16 : decode cX11_feed 16 = .ok (.iload_n 1, 1) := by decide +kernel
theorem dX11_feed_17 : decode cX11_feed 17 = .ok (.invokevirtual 151, 3) := by decide +kernel
theorem dX11_feed_20 : decode cX11_feed 20 = .ok (.aload_n 0, 1) := by decide +kernel
theorem dX11_feed_21 : decode cX11_feed 21 = .ok (.getfield 36, 3) := by decide +kernel
theorem dX11_feed_24 : decode cX11_feed 24 = .ok (.iload_n 2, 1) := by decide +kernel
theorem dX11_feed_25 : decode cX11_feed 25 = .ok (.invokevirtual 151, 3) := by decide +kernel
theorem dX11_feed_28 : decode cX11_feed 28 = .ok (.aload_n 0, 1) := by decide +kernel
theorem dX11_feed_29 : decode cX11_feed 29 = .ok (.getfield 36, 3) := by decide +kernel
theorem dX11_feed_32 : decode cX11_feed 32 = .ok (.iload_n 3, 1) := by decide +kernel
theorem dX11_feed_33 : decode cX11_feed 33 = .ok (.invokevirtual 151, 3) := by decide +kernel
theorem dX11_feed_36 : decode cX11_feed 36 = .ok (.aload_n 0, 1) := by decide +kernel
theorem dX11_feed_37 : decode cX11_feed 37 = .ok (.getfield 36, 3) := by decide +kernel
theorem dX11_feed_40 : decode cX11_feed 40 = .ok (.iload 4, 2) := by decide +kernel
theorem dX11_feed_42 : decode cX11_feed 42 = .ok (.invokevirtual 151, 3) := by decide +kernel
theorem dX11_feed_45 : decode cX11_feed 45 = .ok (.aload_n 0, 1) := by decide +kernel
theorem dX11_feed_46 : decode cX11_feed 46 = .ok (.getfield 36, 3) := by decide +kernel
theorem dX11_feed_49 : decode cX11_feed 49 = .ok (.iload 5, 2) := by decide +kernel
theorem dX11_feed_51 : decode cX11_feed 51 = .ok (.invokevirtual 151, 3) := by decide +kernel
theorem dX11_feed_54 : decode cX11_feed 54 = .ok (.aload_n 0, 1) := by decide +kernel
theorem dX11_feed_55 : decode cX11_feed 55 = .ok (.getfield 36, 3) := by decide +kernel
theorem dX11_feed_58 : decode cX11_feed 58 = .ok (.getfield 155, 3) := by decide +kernel
theorem dX11_feed_61 : decode cX11_feed 61 = .ok (.ireturn, 1) := by decide +kernel
def tX11_feed_0 : Nat → Option am_Act := am_nd 24 (am_nd 12 (am_nd 7 (am_nd 1 (am_lf 0 (a_aload 0 1)) (am_nd 4 (am_lf 1 (a_get tT 11 3 4)) (am_lf 4 (a_cvI tT mX4_hasRoom 4 0 7)))) (am_nd 10 (am_lf 7 (a_if (fun x => x = nI 0) 10 12)) (am_nd 11 (am_lf 10 (a_const (-1) 11)) (am_lf 11 (a_iret))))) (am_nd 17 (am_nd 13 (am_lf 12 (a_aload 0 13)) (am_nd 16 (am_lf 13 (a_get tT 11 3 16)) (am_lf 16 (a_iload 1 17)))) (am_nd 20 (am_lf 17 (a_cvV tT mX4_put 4 1 20)) (am_nd 21 (am_lf 20 (a_aload 0 21)) (am_lf 21 (a_get tT 11 3 24)))))) (am_nd 36 (am_nd 29 (am_nd 25 (am_lf 24 (a_iload 2 25)) (am_nd 28 (am_lf 25 (a_cvV tT mX4_put 4 1 28)) (am_lf 28 (a_aload 0 29)))) (am_nd 32 (am_lf 29 (a_get tT 11 3 32)) (am_nd 33 (am_lf 32 (a_iload 3 33)) (am_lf 33 (a_cvV tT mX4_put 4 1 36))))) (am_nd 42 (am_nd 37 (am_lf 36 (a_aload 0 37)) (am_nd 40 (am_lf 37 (a_get tT 11 3 40)) (am_lf 40 (a_iload 4 42)))) (am_nd 45 (am_lf 42 (a_cvV tT mX4_put 4 1 45)) (am_nd 46 (am_lf 45 (a_aload 0 46)) (am_lf 46 (a_get tT 11 3 49))))))
theorem gX11_feed_0 : am_Good tT mX11_feed tX11_feed_0 := am_nd_ok (am_nd_ok (am_nd_ok (am_nd_ok (am_lf_ok (fun _ => ok_aload_n dX11_feed_0 rfl rfl)) (am_nd_ok (am_lf_ok (fun _ => ok_get (C := RX11) (TT := TX11) (N := 10) rfl inw_X11 (Nat.le_of_ble_eq_true rfl) wd_334 dX11_feed_1 rfl)) (am_lf_ok (fun _ => ok_cvI rfl mw_X4_hasRoom (ci := 4) rfl rfl wd_335 wd_336 wd_337 dX11_feed_4 rfl)))) (am_nd_ok (am_lf_ok (fun _ => ok_if_ne dX11_feed_7 rfl rfl)) (am_nd_ok (am_lf_ok (fun _ => ok_iconst dX11_feed_10 cv_iconst_m1 rfl)) (am_lf_ok (fun _ => ok_iret rfl dX11_feed_11))))) (am_nd_ok (am_nd_ok (am_lf_ok (fun _ => ok_aload_n dX11_feed_12 rfl rfl)) (am_nd_ok (am_lf_ok (fun _ => ok_get (C := RX11) (TT := TX11) (N := 10) rfl inw_X11 (Nat.le_of_ble_eq_true rfl) wd_334 dX11_feed_13 rfl)) (am_lf_ok (fun _ => ok_iload_n dX11_feed_16 rfl rfl)))) (am_nd_ok (am_lf_ok (fun _ => ok_cvV rfl mw_X4_put (ci := 4) rfl rfl wd_338 wd_339 wd_340 dX11_feed_17 rfl)) (am_nd_ok (am_lf_ok (fun _ => ok_aload_n dX11_feed_20 rfl rfl)) (am_lf_ok (fun _ => ok_get (C := RX11) (TT := TX11) (N := 10) rfl inw_X11 (Nat.le_of_ble_eq_true rfl) wd_334 dX11_feed_21 rfl)))))) (am_nd_ok (am_nd_ok (am_nd_ok (am_lf_ok (fun _ => ok_iload_n dX11_feed_24 rfl rfl)) (am_nd_ok (am_lf_ok (fun _ => ok_cvV rfl mw_X4_put (ci := 4) rfl rfl wd_338 wd_339 wd_340 dX11_feed_25 rfl)) (am_lf_ok (fun _ => ok_aload_n dX11_feed_28 rfl rfl)))) (am_nd_ok (am_lf_ok (fun _ => ok_get (C := RX11) (TT := TX11) (N := 10) rfl inw_X11 (Nat.le_of_ble_eq_true rfl) wd_334 dX11_feed_29 rfl)) (am_nd_ok (am_lf_ok (fun _ => ok_iload_n dX11_feed_32 rfl rfl)) (am_lf_ok (fun _ => ok_cvV rfl mw_X4_put (ci := 4) rfl rfl wd_338 wd_339 wd_340 dX11_feed_33 rfl))))) (am_nd_ok (am_nd_ok (am_lf_ok (fun _ => ok_aload_n dX11_feed_36 rfl rfl)) (am_nd_ok (am_lf_ok (fun _ => ok_get (C := RX11) (TT := TX11) (N := 10) rfl inw_X11 (Nat.le_of_ble_eq_true rfl) wd_334 dX11_feed_37 rfl)) (am_lf_ok (fun _ => ok_iload dX11_feed_40 rfl)))) (am_nd_ok (am_lf_ok (fun _ => ok_cvV rfl mw_X4_put (ci := 4) rfl rfl wd_338 wd_339 wd_340 dX11_feed_42 rfl)) (am_nd_ok (am_lf_ok (fun _ => ok_aload_n dX11_feed_45 rfl rfl)) (am_lf_ok (fun _ => ok_get (C := RX11) (TT := TX11) (N := 10) rfl inw_X11 (Nat.le_of_ble_eq_true rfl) wd_334 dX11_feed_46 rfl))))))
def tX11_feed_1 : Nat → Option am_Act := am_nd 55 (am_nd 51 (am_lf 49 (a_iload 5 51)) (am_nd 54 (am_lf 51 (a_cvV tT mX4_put 4 1 54)) (am_lf 54 (a_aload 0 55)))) (am_nd 58 (am_lf 55 (a_get tT 11 3 58)) (am_nd 61 (am_lf 58 (a_get tT 4 0 61)) (am_lf 61 (a_iret))))
theorem gX11_feed_1 : am_Good tT mX11_feed tX11_feed_1 := am_nd_ok (am_nd_ok (am_lf_ok (fun _ => ok_iload dX11_feed_49 rfl)) (am_nd_ok (am_lf_ok (fun _ => ok_cvV rfl mw_X4_put (ci := 4) rfl rfl wd_338 wd_339 wd_340 dX11_feed_51 rfl)) (am_lf_ok (fun _ => ok_aload_n dX11_feed_54 rfl rfl)))) (am_nd_ok (am_lf_ok (fun _ => ok_get (C := RX11) (TT := TX11) (N := 10) rfl inw_X11 (Nat.le_of_ble_eq_true rfl) wd_334 dX11_feed_55 rfl)) (am_nd_ok (am_lf_ok (fun _ => ok_get (C := RX4) (TT := TX4) (N := 9) rfl inw_X4 (Nat.le_of_ble_eq_true rfl) wd_341 dX11_feed_58 rfl)) (am_lf_ok (fun _ => ok_iret rfl dX11_feed_61))))
def tX11_feed : Nat → Option am_Act := am_nd 49 (tX11_feed_0) (tX11_feed_1)
theorem gX11_feed : am_Good tT mX11_feed tX11_feed := am_nd_ok (gX11_feed_0) (gX11_feed_1)
theorem dX11_end_0 : decode cX11_end 0 = .ok (.iload_n 1, 1) := by decide +kernel
theorem dX11_end_1 : decode cX11_end 1 = .ok (.iconst 0, 1) := by decide +kernel
theorem dX11_end_2 : decode cX11_end 2 = .ok (.aload_n 0, 1) := by decide +kernel
theorem dX11_end_3 : decode cX11_end 3 = .ok (.getfield 36, 3) := by decide +kernel
theorem dX11_end_6 : decode cX11_end 6 = .ok (.getfield 155, 3) := by decide +kernel
theorem dX11_end_9 : decode cX11_end 9 = .ok (.invokestatic 82, 3) := by decide +kernel
theorem dX11_end_12 : decode cX11_end 12 = .ok (.ifCond .ne 5, 3) := by decide +kernel
theorem dX11_end_15 : decode cX11_end 15 = .ok (.iconst 0, 1) := by decide +kernel
theorem dX11_end_16 : decode cX11_end 16 = .ok (.ireturn, 1) := by decide +kernel
theorem dX11_end_17 : decode cX11_end 17 = .ok (.aload_n 0, 1) := by decide +kernel
theorem dX11_end_18 : decode cX11_end 18 = .ok (.getfield 36, 3) := by decide +kernel
theorem dX11_end_21 : decode cX11_end 21 = .ok (.iload_n 1, 1) := by decide +kernel
theorem dX11_end_22 : decode cX11_end 22 = .ok (.putfield 155, 3) := by decide +kernel
theorem dX11_end_25 : decode cX11_end 25 = .ok (.iconst 1, 1) := by decide +kernel
theorem dX11_end_26 : decode cX11_end 26 = .ok (.ireturn, 1) := by decide +kernel
def tX11_end_0 : Nat → Option am_Act := am_nd 15 (am_nd 3 (am_nd 1 (am_lf 0 (a_iload 1 1)) (am_nd 2 (am_lf 1 (a_const (nI 0) 2)) (am_lf 2 (a_aload 0 3)))) (am_nd 9 (am_nd 6 (am_lf 3 (a_get tT 11 3 6)) (am_lf 6 (a_get tT 4 0 9))) (am_nd 12 (am_lf 9 (a_csI mX11_within 3 12)) (am_lf 12 (a_if (fun x => x = nI 0) 15 17))))) (am_nd 21 (am_nd 17 (am_nd 16 (am_lf 15 (a_const (nI 0) 16)) (am_lf 16 (a_zret))) (am_nd 18 (am_lf 17 (a_aload 0 18)) (am_lf 18 (a_get tT 11 3 21)))) (am_nd 25 (am_nd 22 (am_lf 21 (a_iload 1 22)) (am_lf 22 (a_put tT 4 0 25))) (am_nd 26 (am_lf 25 (a_const (nI 1) 26)) (am_lf 26 (a_zret)))))
theorem gX11_end_0 : am_Good tT mX11_end tX11_end_0 := am_nd_ok (am_nd_ok (am_nd_ok (am_lf_ok (fun _ => ok_iload_n dX11_end_0 rfl rfl)) (am_nd_ok (am_lf_ok (fun _ => ok_iconst dX11_end_1 cv_iconst_0 rfl)) (am_lf_ok (fun _ => ok_aload_n dX11_end_2 rfl rfl)))) (am_nd_ok (am_nd_ok (am_lf_ok (fun _ => ok_get (C := RX11) (TT := TX11) (N := 10) rfl inw_X11 (Nat.le_of_ble_eq_true rfl) wd_334 dX11_end_3 rfl)) (am_lf_ok (fun _ => ok_get (C := RX4) (TT := TX4) (N := 9) rfl inw_X4 (Nat.le_of_ble_eq_true rfl) wd_341 dX11_end_6 rfl))) (am_nd_ok (am_lf_ok (fun _ => ok_csI rfl mw_X11_within wd_297 wd_120 dX11_end_9 rfl)) (am_lf_ok (fun _ => ok_if_ne dX11_end_12 rfl rfl))))) (am_nd_ok (am_nd_ok (am_nd_ok (am_lf_ok (fun _ => ok_iconst dX11_end_15 cv_iconst_0 rfl)) (am_lf_ok (fun _ => ok_zret rfl dX11_end_16))) (am_nd_ok (am_lf_ok (fun _ => ok_aload_n dX11_end_17 rfl rfl)) (am_lf_ok (fun _ => ok_get (C := RX11) (TT := TX11) (N := 10) rfl inw_X11 (Nat.le_of_ble_eq_true rfl) wd_334 dX11_end_18 rfl)))) (am_nd_ok (am_nd_ok (am_lf_ok (fun _ => ok_iload_n dX11_end_21 rfl rfl)) (am_lf_ok (fun _ => ok_put (C := RX4) (TT := TX4) (N := 9) (ty0 := tyX4) rfl inw_X4 tyX4_ok nmX4 (Nat.le_of_ble_eq_true rfl) rfl rfl wd_341 dX11_end_22 rfl))) (am_nd_ok (am_lf_ok (fun _ => ok_iconst dX11_end_25 cv_iconst_1 rfl)) (am_lf_ok (fun _ => ok_zret rfl dX11_end_26)))))
def tX11_end : Nat → Option am_Act := tX11_end_0
theorem gX11_end : am_Good tT mX11_end tX11_end := gX11_end_0
theorem dX11_text_0 : decode cX11_text 0 = .ok (.aload_n 0, 1) := by decide +kernel
theorem dX11_text_1 : decode cX11_text 1 = .ok (.getfield 36, 3) := by decide +kernel
theorem dX11_text_4 : decode cX11_text 4 = .ok (.invokevirtual 158, 3) := by decide +kernel
theorem dX11_text_7 : decode cX11_text 7 = .ok (.istore_n 1, 1) := by decide +kernel
theorem dX11_text_8 : decode cX11_text 8 = .ok (.aload_n 0, 1) := by decide +kernel
theorem dX11_text_9 : decode cX11_text 9 = .ok (.getfield 36, 3) := by decide +kernel
theorem dX11_text_12 : decode cX11_text 12 = .ok (.iconst 0, 1) := by decide +kernel
theorem dX11_text_13 : decode cX11_text 13 = .ok (.putfield 155, 3) := by decide +kernel
theorem dX11_text_16 : decode cX11_text 16 = .ok (.iload_n 1, 1) := by decide +kernel
theorem dX11_text_17 : decode cX11_text 17 = .ok (.ifCond .ne 5, 3) := by decide +kernel
theorem dX11_text_20 : decode cX11_text 20 = .ok (.iconst (-1), 1) := by decide +kernel
theorem dX11_text_21 : decode cX11_text 21 = .ok (.ireturn, 1) := by decide +kernel
theorem dX11_text_22 : decode cX11_text 22 = .ok (.aload_n 0, 1) := by decide +kernel
theorem dX11_text_23 : decode cX11_text 23 = .ok (.getfield 22, 3) := by decide +kernel
theorem dX11_text_26 : decode cX11_text 26 = .ok (.getfield 161, 3) := by decide +kernel
theorem dX11_text_29 : decode cX11_text 29 = .ok (.aload_n 0, 1) := by decide +kernel
theorem dX11_text_30 : decode cX11_text 30 = .ok (.getfield 36, 3) := by decide +kernel
theorem dX11_text_33 : decode cX11_text 33 = .ok (.getfield 165, 3) := by decide +kernel
theorem dX11_text_36 : decode cX11_text 36 = .ok (.invokevirtual 168, 3) := by decide +kernel
theorem dX11_text_39 : decode cX11_text 39 = .ok (.aload_n 0, 1) := by decide +kernel
theorem dX11_text_40 : decode cX11_text 40 = .ok (.getfield 22, 3) := by decide +kernel
theorem dX11_text_43 : decode cX11_text 43 = .ok (.getfield 161, 3) := by decide +kernel
theorem dX11_text_46 : decode cX11_text 46 = .ok (.getfield 174, 3) := by decide +kernel
theorem dX11_text_49 : decode cX11_text 49 = .ok (.ireturn, 1) := by decide +kernel
def tX11_text_0 : Nat → Option am_Act := am_nd 22 (am_nd 12 (am_nd 7 (am_nd 1 (am_lf 0 (a_aload 0 1)) (am_nd 4 (am_lf 1 (a_get tT 11 3 4)) (am_lf 4 (a_cvI tT mX4_read 4 0 7)))) (am_nd 8 (am_lf 7 (a_istore 1 8)) (am_nd 9 (am_lf 8 (a_aload 0 9)) (am_lf 9 (a_get tT 11 3 12))))) (am_nd 17 (am_nd 13 (am_lf 12 (a_const (nI 0) 13)) (am_nd 16 (am_lf 13 (a_put tT 4 0 16)) (am_lf 16 (a_iload 1 17)))) (am_nd 20 (am_lf 17 (a_if (fun x => x = nI 0) 20 22)) (am_nd 21 (am_lf 20 (a_const (-1) 21)) (am_lf 21 (a_iret)))))) (am_nd 36 (am_nd 29 (am_nd 23 (am_lf 22 (a_aload 0 23)) (am_nd 26 (am_lf 23 (a_get tT 11 0 26)) (am_lf 26 (a_get tT 10 13 29)))) (am_nd 30 (am_lf 29 (a_aload 0 30)) (am_nd 33 (am_lf 30 (a_get tT 11 3 33)) (am_lf 33 (a_get tT 4 3 36))))) (am_nd 43 (am_nd 39 (am_lf 36 (a_cvV tT mX3_copyFrom 3 1 39)) (am_nd 40 (am_lf 39 (a_aload 0 40)) (am_lf 40 (a_get tT 11 0 43)))) (am_nd 46 (am_lf 43 (a_get tT 10 13 46)) (am_nd 49 (am_lf 46 (a_get tT 3 0 49)) (am_lf 49 (a_iret))))))
theorem gX11_text_0 : am_Good tT mX11_text tX11_text_0 := am_nd_ok (am_nd_ok (am_nd_ok (am_nd_ok (am_lf_ok (fun _ => ok_aload_n dX11_text_0 rfl rfl)) (am_nd_ok (am_lf_ok (fun _ => ok_get (C := RX11) (TT := TX11) (N := 10) rfl inw_X11 (Nat.le_of_ble_eq_true rfl) wd_334 dX11_text_1 rfl)) (am_lf_ok (fun _ => ok_cvI rfl mw_X4_read (ci := 4) rfl rfl wd_342 wd_343 wd_344 dX11_text_4 rfl)))) (am_nd_ok (am_lf_ok (fun _ => ok_istore_n dX11_text_7 rfl (Nat.le_of_ble_eq_true rfl) rfl)) (am_nd_ok (am_lf_ok (fun _ => ok_aload_n dX11_text_8 rfl rfl)) (am_lf_ok (fun _ => ok_get (C := RX11) (TT := TX11) (N := 10) rfl inw_X11 (Nat.le_of_ble_eq_true rfl) wd_334 dX11_text_9 rfl))))) (am_nd_ok (am_nd_ok (am_lf_ok (fun _ => ok_iconst dX11_text_12 cv_iconst_0 rfl)) (am_nd_ok (am_lf_ok (fun _ => ok_put (C := RX4) (TT := TX4) (N := 9) (ty0 := tyX4) rfl inw_X4 tyX4_ok nmX4 (Nat.le_of_ble_eq_true rfl) rfl rfl wd_341 dX11_text_13 rfl)) (am_lf_ok (fun _ => ok_iload_n dX11_text_16 rfl rfl)))) (am_nd_ok (am_lf_ok (fun _ => ok_if_ne dX11_text_17 rfl rfl)) (am_nd_ok (am_lf_ok (fun _ => ok_iconst dX11_text_20 cv_iconst_m1 rfl)) (am_lf_ok (fun _ => ok_iret rfl dX11_text_21)))))) (am_nd_ok (am_nd_ok (am_nd_ok (am_lf_ok (fun _ => ok_aload_n dX11_text_22 rfl rfl)) (am_nd_ok (am_lf_ok (fun _ => ok_get (C := RX11) (TT := TX11) (N := 10) rfl inw_X11 (Nat.le_of_ble_eq_true rfl) wd_295 dX11_text_23 rfl)) (am_lf_ok (fun _ => ok_get (C := RX10) (TT := TX10) (N := 14) rfl inw_X10 (Nat.le_of_ble_eq_true rfl) wd_345 dX11_text_26 rfl)))) (am_nd_ok (am_lf_ok (fun _ => ok_aload_n dX11_text_29 rfl rfl)) (am_nd_ok (am_lf_ok (fun _ => ok_get (C := RX11) (TT := TX11) (N := 10) rfl inw_X11 (Nat.le_of_ble_eq_true rfl) wd_334 dX11_text_30 rfl)) (am_lf_ok (fun _ => ok_get (C := RX4) (TT := TX4) (N := 9) rfl inw_X4 (Nat.le_of_ble_eq_true rfl) wd_346 dX11_text_33 rfl))))) (am_nd_ok (am_nd_ok (am_lf_ok (fun _ => ok_cvV rfl mw_X3_copyFrom (ci := 3) rfl rfl wd_347 wd_293 wd_294 dX11_text_36 rfl)) (am_nd_ok (am_lf_ok (fun _ => ok_aload_n dX11_text_39 rfl rfl)) (am_lf_ok (fun _ => ok_get (C := RX11) (TT := TX11) (N := 10) rfl inw_X11 (Nat.le_of_ble_eq_true rfl) wd_295 dX11_text_40 rfl)))) (am_nd_ok (am_lf_ok (fun _ => ok_get (C := RX10) (TT := TX10) (N := 14) rfl inw_X10 (Nat.le_of_ble_eq_true rfl) wd_345 dX11_text_43 rfl)) (am_nd_ok (am_lf_ok (fun _ => ok_get (C := RX3) (TT := TX3) (N := 4) rfl inw_X3 (Nat.le_of_ble_eq_true rfl) wd_348 dX11_text_46 rfl)) (am_lf_ok (fun _ => ok_iret rfl dX11_text_49))))))
def tX11_text : Nat → Option am_Act := tX11_text_0
theorem gX11_text : am_Good tT mX11_text tX11_text := gX11_text_0
theorem dX11_fault_0 : decode cX11_fault 0 = .ok (.iload_n 1, 1) := by decide +kernel
theorem dX11_fault_1 : decode cX11_fault 1 = .ok (.ifCond .ne 11, 3) := by decide +kernel
theorem dX11_fault_4 : decode cX11_fault 4 = .ok (.aload_n 0, 1) := by decide +kernel
theorem dX11_fault_5 : decode cX11_fault 5 = .ok (.getfield 36, 3) := by decide +kernel
theorem dX11_fault_8 : decode cX11_fault 8 = .ok (.getfield 177, 3) := by decide +kernel
theorem dX11_fault_11 : decode cX11_fault 11 = .ok (.ireturn, 1) := by decide +kernel
theorem dX11_fault_12 : decode cX11_fault 12 = .ok (.iload_n 1, 1) := by decide +kernel
theorem dX11_fault_13 : decode cX11_fault 13 = .ok (.iconst 1, 1) := by decide +kernel
theorem dX11_fault_14 : decode cX11_fault 14 = .ok (.if_icmp .ne 13, 3) := by decide +kernel
theorem dX11_fault_17 : decode cX11_fault 17 = .ok (.aload_n 0, 1) := by decide +kernel
theorem dX11_fault_18 : decode cX11_fault 18 = .ok (.getfield 36, 3) := by decide +kernel
theorem dX11_fault_21 : decode cX11_fault 21 = .ok (.getfield 180, 3) := by decide +kernel
theorem dX11_fault_24 : decode cX11_fault 24 = .ok (.goto 4, 3) := by decide +kernel
theorem dX11_fault_27 : decode cX11_fault 27 = .ok (.iconst (-1), 1) := by decide +kernel
theorem dX11_fault_28 : decode cX11_fault 28 = .ok (.ireturn, 1) := by decide +kernel
def tX11_fault_0 : Nat → Option am_Act := am_nd 13 (am_nd 5 (am_nd 1 (am_lf 0 (a_iload 1 1)) (am_nd 4 (am_lf 1 (a_if (fun x => x = nI 0) 4 12)) (am_lf 4 (a_aload 0 5)))) (am_nd 11 (am_nd 8 (am_lf 5 (a_get tT 11 3 8)) (am_lf 8 (a_get tT 4 1 11))) (am_nd 12 (am_lf 11 (a_iret)) (am_lf 12 (a_iload 1 13))))) (am_nd 21 (am_nd 17 (am_nd 14 (am_lf 13 (a_const (nI 1) 14)) (am_lf 14 (a_cmp (fun x y => x = y) 17 27))) (am_nd 18 (am_lf 17 (a_aload 0 18)) (am_lf 18 (a_get tT 11 3 21)))) (am_nd 27 (am_nd 24 (am_lf 21 (a_get tT 4 2 24)) (am_lf 24 (a_goto 28))) (am_nd 28 (am_lf 27 (a_const (-1) 28)) (am_lf 28 (a_iret)))))
theorem gX11_fault_0 : am_Good tT mX11_fault tX11_fault_0 := am_nd_ok (am_nd_ok (am_nd_ok (am_lf_ok (fun _ => ok_iload_n dX11_fault_0 rfl rfl)) (am_nd_ok (am_lf_ok (fun _ => ok_if_ne dX11_fault_1 rfl rfl)) (am_lf_ok (fun _ => ok_aload_n dX11_fault_4 rfl rfl)))) (am_nd_ok (am_nd_ok (am_lf_ok (fun _ => ok_get (C := RX11) (TT := TX11) (N := 10) rfl inw_X11 (Nat.le_of_ble_eq_true rfl) wd_334 dX11_fault_5 rfl)) (am_lf_ok (fun _ => ok_get (C := RX4) (TT := TX4) (N := 9) rfl inw_X4 (Nat.le_of_ble_eq_true rfl) wd_349 dX11_fault_8 rfl))) (am_nd_ok (am_lf_ok (fun _ => ok_iret rfl dX11_fault_11)) (am_lf_ok (fun _ => ok_iload_n dX11_fault_12 rfl rfl))))) (am_nd_ok (am_nd_ok (am_nd_ok (am_lf_ok (fun _ => ok_iconst dX11_fault_13 cv_iconst_1 rfl)) (am_lf_ok (fun _ => ok_cmp_ne dX11_fault_14 rfl rfl))) (am_nd_ok (am_lf_ok (fun _ => ok_aload_n dX11_fault_17 rfl rfl)) (am_lf_ok (fun _ => ok_get (C := RX11) (TT := TX11) (N := 10) rfl inw_X11 (Nat.le_of_ble_eq_true rfl) wd_334 dX11_fault_18 rfl)))) (am_nd_ok (am_nd_ok (am_lf_ok (fun _ => ok_get (C := RX4) (TT := TX4) (N := 9) rfl inw_X4 (Nat.le_of_ble_eq_true rfl) wd_350 dX11_fault_21 rfl)) (am_lf_ok (fun _ => ok_goto dX11_fault_24 rfl))) (am_nd_ok (am_lf_ok (fun _ => ok_iconst dX11_fault_27 cv_iconst_m1 rfl)) (am_lf_ok (fun _ => ok_iret rfl dX11_fault_28)))))
def tX11_fault : Nat → Option am_Act := tX11_fault_0
theorem gX11_fault : am_Good tT mX11_fault tX11_fault := gX11_fault_0
theorem dX11_cross_0 : decode cX11_cross 0 = .ok (.aload_n 0, 1) := by decide +kernel
theorem dX11_cross_1 : decode cX11_cross 1 = .ok (.getfield 22, 3) := by decide +kernel
theorem dX11_cross_4 : decode cX11_cross 4 = .ok (.iload_n 1, 1) := by decide +kernel
theorem dX11_cross_5 : decode cX11_cross 5 = .ok (.invokevirtual 124, 3) := by decide +kernel
theorem dX11_cross_8 : decode cX11_cross 8 = .ok (.ifCond .eq 15, 3) := by decide +kernel
theorem dX11_cross_11 : decode cX11_cross 11 = .ok (.aload_n 0, 1) := by decide +kernel
theorem dX11_cross_12 : decode cX11_cross 12 = .ok (.getfield 22, 3) := by decide +kernel
theorem dX11_cross_15 : decode cX11_cross 15 = .ok (.iload_n 1, 1) := by decide +kernel
theorem dX11_cross_16 : decode cX11_cross 16 = .ok (.iload_n 2, 1) := by decide +kernel
theorem dX11_cross_17 : decode cX11_cross 17 = .ok (.invokevirtual 183, 3) := by decide +kernel
theorem dX11_cross_20 : decode cX11_cross 20 = .ok (.ifCond .ne 5, 3) := by decide +kernel
theorem dX11_cross_23 : decode cX11_cross 23 = .ok (.iconst (-1), 1) := by decide +kernel
theorem dX11_cross_24 : decode cX11_cross 24 = .ok (.ireturn, 1) := by decide +kernel
theorem dX11_cross_25 : decode cX11_cross 25 = .ok (.aload_n 0, 1) := by decide +kernel
theorem dX11_cross_26 : decode cX11_cross 26 = .ok (.getfield 47, 3) := by decide +kernel
theorem dX11_cross_29 : decode cX11_cross 29 = .ok (.iload_n 1, 1) := by decide +kernel
theorem dX11_cross_30 : decode cX11_cross 30 = .ok (.iload_n 2, 1) := by decide +kernel
theorem dX11_cross_31 : decode cX11_cross 31 = .ok (.invokevirtual 186, 3) := by decide +kernel
theorem dX11_cross_34 : decode cX11_cross 34 = .ok (.istore_n 3, 1) := by decide +kernel
theorem dX11_cross_35 : decode cX11_cross 35 = .ok (.iload_n 3, 1) := by decide +kernel
theorem dX11_cross_36 : decode cX11_cross 36 = .ok (.bipush (-2), 2) := by decide +kernel
theorem dX11_cross_38 : decode cX11_cross 38 = .ok (.if_icmp .ne 6, 3) := by decide +kernel
theorem dX11_cross_41 : decode cX11_cross 41 = .ok (.bipush (-2), 2) := by decide +kernel
theorem dX11_cross_43 : decode cX11_cross 43 = .ok (.ireturn, 1) := by decide +kernel
theorem dX11_cross_44 : decode cX11_cross 44 = .ok (.aload_n 0, 1) := by decide +kernel
theorem dX11_cross_45 : decode cX11_cross 45 = .ok (.getfield 22, 3) := by decide +kernel
theorem dX11_cross_48 : decode cX11_cross 48 = .ok (.getfield 103, 3) := by decide +kernel
theorem dX11_cross_51 : decode cX11_cross 51 = .ok (.getfield 189, 3) := by decide +kernel
theorem dX11_cross_54 : decode cX11_cross 54 = .ok (.iload_n 1, 1) := by decide +kernel
theorem dX11_cross_55 : decode cX11_cross 55 = .ok (.iaload, 1) := by decide +kernel
theorem dX11_cross_56 : decode cX11_cross 56 = .ok (.istore 4, 2) := by decide +kernel
theorem dX11_cross_58 : decode cX11_cross 58 = .ok (.aload_n 0, 1) := by decide +kernel
theorem dX11_cross_59 : decode cX11_cross 59 = .ok (.getfield 47, 3) := by decide +kernel
theorem dX11_cross_62 : decode cX11_cross 62 = .ok (.iload_n 1, 1) := by decide +kernel
theorem dX11_cross_63 : decode cX11_cross 63 = .ok (.iload_n 2, 1) := by decide +kernel
theorem dX11_cross_64 : decode cX11_cross 64 = .ok (.iload_n 3, 1) := by decide +kernel
theorem dX11_cross_65 : decode cX11_cross 65 = .ok (.invokevirtual 192, 3) := by decide +kernel
theorem dX11_cross_68 : decode cX11_cross 68 = .ok (.istore 5, 2) := by decide +kernel
theorem dX11_cross_70 : decode cX11_cross 70 = .ok (.iconst 0, 1) := by decide +kernel
theorem dX11_cross_71 : decode cX11_cross 71 = .ok (.istore 6, 2) := by decide +kernel
theorem dX11_cross_73 : decode cX11_cross 73 = .ok (.iload_n 3, 1) := by decide +kernel
theorem dX11_cross_74 : decode cX11_cross 74 = .ok (.bipush 100, 2) := by decide +kernel
theorem dX11_cross_76 : decode cX11_cross 76 = .ok (.if_icmp .eq 35, 3) := by decide +kernel
theorem dX11_cross_79 : decode cX11_cross 79 = .ok (.aload_n 0, 1) := by decide +kernel
theorem dX11_cross_80 : decode cX11_cross 80 = .ok (.getfield 22, 3) := by decide +kernel
theorem dX11_cross_83 : decode cX11_cross 83 = .ok (.getfield 103, 3) := by decide +kernel
theorem dX11_cross_86 : decode cX11_cross 86 = .ok (.getfield 189, 3) := by decide +kernel
theorem dX11_cross_89 : decode cX11_cross 89 = .ok (.iload_n 1, 1) := by decide +kernel
theorem dX11_cross_90 : decode cX11_cross 90 = .ok (.dup2, 1) := by decide +kernel
theorem dX11_cross_91 : decode cX11_cross 91 = .ok (.iaload, 1) := by decide +kernel
theorem dX11_cross_92 : decode cX11_cross 92 = .ok (.iconst 1, 1) := by decide +kernel
theorem dX11_cross_93 : decode cX11_cross 93 = .ok (.iload 5, 2) := by decide +kernel
theorem dX11_cross_95 : decode cX11_cross 95 = .ok (.ishl, 1) := by decide +kernel
theorem dX11_cross_96 : decode cX11_cross 96 = .ok (.ior, 1) := by decide +kernel
theorem dX11_cross_97 : decode cX11_cross 97 = .ok (.iastore, 1) := by decide +kernel
theorem dX11_cross_98 : decode cX11_cross 98 = .ok (.aload_n 0, 1) := by decide +kernel
theorem dX11_cross_99 : decode cX11_cross 99 = .ok (.getfield 22, 3) := by decide +kernel
theorem dX11_cross_102 : decode cX11_cross 102 = .ok (.iload_n 1, 1) := by decide +kernel
theorem dX11_cross_103 : decode cX11_cross 103 = .ok (.iload_n 2, 1) := by decide +kernel
theorem dX11_cross_104 : decode cX11_cross 104 = .ok (.iload 5, 2) := by decide +kernel
theorem dX11_cross_106 : decode cX11_cross 106 = .ok (.invokevirtual 196, 3) := by decide +kernel
theorem dX11_cross_109 : decode cX11_cross 109 = .ok (.istore 6, 2) := by decide +kernel
theorem dX11_cross_111 : decode cX11_cross 111 = .ok (.aload_n 0, 1) := by decide +kernel
theorem dX11_cross_112 : decode cX11_cross 112 = .ok (.getfield 43, 3) := by decide +kernel
theorem dX11_cross_115 : decode cX11_cross 115 = .ok (.iload_n 1, 1) := by decide +kernel
theorem dX11_cross_116 : decode cX11_cross 116 = .ok (.iload_n 2, 1) := by decide +kernel
theorem dX11_cross_117 : decode cX11_cross 117 = .ok (.iload_n 3, 1) := by decide +kernel
theorem dX11_cross_118 : decode cX11_cross 118 = .ok (.iload 5, 2) := by decide +kernel
theorem dX11_cross_120 : decode cX11_cross 120 = .ok (.iload 4, 2) := by decide +kernel
theorem dX11_cross_122 : decode cX11_cross 122 = .ok (.iload 6, 2) := by decide +kernel
theorem dX11_cross_124 : decode cX11_cross 124 = .ok (.invokevirtual 199, 3) := by decide +kernel
theorem dX11_cross_127 : decode cX11_cross 127 = .ok (.iload 5, 2) := by decide +kernel
theorem dX11_cross_129 : decode cX11_cross 129 = .ok (.ireturn, 1) := by decide +kernel
def tX11_cross_0 : Nat → Option am_Act := am_nd 24 (am_nd 12 (am_nd 5 (am_nd 1 (am_lf 0 (a_aload 0 1)) (am_nd 4 (am_lf 1 (a_get tT 11 0 4)) (am_lf 4 (a_iload 1 5)))) (am_nd 8 (am_lf 5 (a_cvI tT mX10_isPerson 10 1 8)) (am_nd 11 (am_lf 8 (a_if (fun x => x = nI 0) 23 11)) (am_lf 11 (a_aload 0 12))))) (am_nd 17 (am_nd 15 (am_lf 12 (a_get tT 11 0 15)) (am_nd 16 (am_lf 15 (a_iload 1 16)) (am_lf 16 (a_iload 2 17)))) (am_nd 20 (am_lf 17 (a_cvI tT mX10_standsAt 10 2 20)) (am_nd 23 (am_lf 20 (a_if (fun x => x = nI 0) 23 25)) (am_lf 23 (a_const (-1) 24)))))) (am_nd 34 (am_nd 29 (am_nd 25 (am_lf 24 (a_iret)) (am_nd 26 (am_lf 25 (a_aload 0 26)) (am_lf 26 (a_get tT 11 5 29)))) (am_nd 30 (am_lf 29 (a_iload 1 30)) (am_nd 31 (am_lf 30 (a_iload 2 31)) (am_lf 31 (a_cvI tT mX7_due 7 2 34))))) (am_nd 38 (am_nd 35 (am_lf 34 (a_istore 3 35)) (am_nd 36 (am_lf 35 (a_iload 3 36)) (am_lf 36 (a_const (-2) 38)))) (am_nd 41 (am_lf 38 (a_cmp (fun x y => x = y) 41 44)) (am_nd 43 (am_lf 41 (a_const (-2) 43)) (am_lf 43 (a_iret))))))
theorem gX11_cross_0 : am_Good tT mX11_cross tX11_cross_0 := am_nd_ok (am_nd_ok (am_nd_ok (am_nd_ok (am_lf_ok (fun _ => ok_aload_n dX11_cross_0 rfl rfl)) (am_nd_ok (am_lf_ok (fun _ => ok_get (C := RX11) (TT := TX11) (N := 10) rfl inw_X11 (Nat.le_of_ble_eq_true rfl) wd_295 dX11_cross_1 rfl)) (am_lf_ok (fun _ => ok_iload_n dX11_cross_4 rfl rfl)))) (am_nd_ok (am_lf_ok (fun _ => ok_cvI rfl mw_X10_isPerson (ci := 10) rfl rfl wd_317 wd_318 wd_319 dX11_cross_5 rfl)) (am_nd_ok (am_lf_ok (fun _ => ok_if_eq dX11_cross_8 rfl rfl)) (am_lf_ok (fun _ => ok_aload_n dX11_cross_11 rfl rfl))))) (am_nd_ok (am_nd_ok (am_lf_ok (fun _ => ok_get (C := RX11) (TT := TX11) (N := 10) rfl inw_X11 (Nat.le_of_ble_eq_true rfl) wd_295 dX11_cross_12 rfl)) (am_nd_ok (am_lf_ok (fun _ => ok_iload_n dX11_cross_15 rfl rfl)) (am_lf_ok (fun _ => ok_iload_n dX11_cross_16 rfl rfl)))) (am_nd_ok (am_lf_ok (fun _ => ok_cvI rfl mw_X10_standsAt (ci := 10) rfl rfl wd_351 wd_247 wd_248 dX11_cross_17 rfl)) (am_nd_ok (am_lf_ok (fun _ => ok_if_ne dX11_cross_20 rfl rfl)) (am_lf_ok (fun _ => ok_iconst dX11_cross_23 cv_iconst_m1 rfl)))))) (am_nd_ok (am_nd_ok (am_nd_ok (am_lf_ok (fun _ => ok_iret rfl dX11_cross_24)) (am_nd_ok (am_lf_ok (fun _ => ok_aload_n dX11_cross_25 rfl rfl)) (am_lf_ok (fun _ => ok_get (C := RX11) (TT := TX11) (N := 10) rfl inw_X11 (Nat.le_of_ble_eq_true rfl) wd_352 dX11_cross_26 rfl)))) (am_nd_ok (am_lf_ok (fun _ => ok_iload_n dX11_cross_29 rfl rfl)) (am_nd_ok (am_lf_ok (fun _ => ok_iload_n dX11_cross_30 rfl rfl)) (am_lf_ok (fun _ => ok_cvI rfl mw_X7_due (ci := 7) rfl rfl wd_353 wd_17 wd_18 dX11_cross_31 rfl))))) (am_nd_ok (am_nd_ok (am_lf_ok (fun _ => ok_istore_n dX11_cross_34 rfl (Nat.le_of_ble_eq_true rfl) rfl)) (am_nd_ok (am_lf_ok (fun _ => ok_iload_n dX11_cross_35 rfl rfl)) (am_lf_ok (fun _ => ok_bipush dX11_cross_36 cv_bipush_m2 rfl)))) (am_nd_ok (am_lf_ok (fun _ => ok_cmp_ne dX11_cross_38 rfl rfl)) (am_nd_ok (am_lf_ok (fun _ => ok_bipush dX11_cross_41 cv_bipush_m2 rfl)) (am_lf_ok (fun _ => ok_iret rfl dX11_cross_43))))))
def tX11_cross_1 : Nat → Option am_Act := am_nd 65 (am_nd 56 (am_nd 51 (am_nd 45 (am_lf 44 (a_aload 0 45)) (am_nd 48 (am_lf 45 (a_get tT 11 0 48)) (am_lf 48 (a_get tT 10 11 51)))) (am_nd 54 (am_lf 51 (a_get tT 5 4 54)) (am_nd 55 (am_lf 54 (a_iload 1 55)) (am_lf 55 (a_iald tT 56))))) (am_nd 62 (am_nd 58 (am_lf 56 (a_istore 4 58)) (am_nd 59 (am_lf 58 (a_aload 0 59)) (am_lf 59 (a_get tT 11 5 62)))) (am_nd 63 (am_lf 62 (a_iload 1 63)) (am_nd 64 (am_lf 63 (a_iload 2 64)) (am_lf 64 (a_iload 3 65)))))) (am_nd 76 (am_nd 71 (am_nd 68 (am_lf 65 (a_cvI tT mX7_pass 7 3 68)) (am_nd 70 (am_lf 68 (a_istore 5 70)) (am_lf 70 (a_const (nI 0) 71)))) (am_nd 73 (am_lf 71 (a_istore 6 73)) (am_nd 74 (am_lf 73 (a_iload 3 74)) (am_lf 74 (a_const (nI 100) 76))))) (am_nd 83 (am_nd 79 (am_lf 76 (a_cmp (fun x y => x = y) 111 79)) (am_nd 80 (am_lf 79 (a_aload 0 80)) (am_lf 80 (a_get tT 11 0 83)))) (am_nd 86 (am_lf 83 (a_get tT 10 11 86)) (am_nd 89 (am_lf 86 (a_get tT 5 4 89)) (am_lf 89 (a_iload 1 90))))))
theorem gX11_cross_1 : am_Good tT mX11_cross tX11_cross_1 := am_nd_ok (am_nd_ok (am_nd_ok (am_nd_ok (am_lf_ok (fun _ => ok_aload_n dX11_cross_44 rfl rfl)) (am_nd_ok (am_lf_ok (fun _ => ok_get (C := RX11) (TT := TX11) (N := 10) rfl inw_X11 (Nat.le_of_ble_eq_true rfl) wd_295 dX11_cross_45 rfl)) (am_lf_ok (fun _ => ok_get (C := RX10) (TT := TX10) (N := 14) rfl inw_X10 (Nat.le_of_ble_eq_true rfl) wd_307 dX11_cross_48 rfl)))) (am_nd_ok (am_lf_ok (fun _ => ok_get (C := RX5) (TT := TX5) (N := 8) rfl inw_X5 (Nat.le_of_ble_eq_true rfl) wd_354 dX11_cross_51 rfl)) (am_nd_ok (am_lf_ok (fun _ => ok_iload_n dX11_cross_54 rfl rfl)) (am_lf_ok (fun _ => ok_iald dX11_cross_55 rfl))))) (am_nd_ok (am_nd_ok (am_lf_ok (fun _ => ok_istore dX11_cross_56 (Nat.le_of_ble_eq_true rfl) rfl)) (am_nd_ok (am_lf_ok (fun _ => ok_aload_n dX11_cross_58 rfl rfl)) (am_lf_ok (fun _ => ok_get (C := RX11) (TT := TX11) (N := 10) rfl inw_X11 (Nat.le_of_ble_eq_true rfl) wd_352 dX11_cross_59 rfl)))) (am_nd_ok (am_lf_ok (fun _ => ok_iload_n dX11_cross_62 rfl rfl)) (am_nd_ok (am_lf_ok (fun _ => ok_iload_n dX11_cross_63 rfl rfl)) (am_lf_ok (fun _ => ok_iload_n dX11_cross_64 rfl rfl)))))) (am_nd_ok (am_nd_ok (am_nd_ok (am_lf_ok (fun _ => ok_cvI rfl mw_X7_pass (ci := 7) rfl rfl wd_355 wd_21 wd_22 dX11_cross_65 rfl)) (am_nd_ok (am_lf_ok (fun _ => ok_istore dX11_cross_68 (Nat.le_of_ble_eq_true rfl) rfl)) (am_lf_ok (fun _ => ok_iconst dX11_cross_70 cv_iconst_0 rfl)))) (am_nd_ok (am_lf_ok (fun _ => ok_istore dX11_cross_71 (Nat.le_of_ble_eq_true rfl) rfl)) (am_nd_ok (am_lf_ok (fun _ => ok_iload_n dX11_cross_73 rfl rfl)) (am_lf_ok (fun _ => ok_bipush dX11_cross_74 cv_bipush_100 rfl))))) (am_nd_ok (am_nd_ok (am_lf_ok (fun _ => ok_cmp_eq dX11_cross_76 rfl rfl)) (am_nd_ok (am_lf_ok (fun _ => ok_aload_n dX11_cross_79 rfl rfl)) (am_lf_ok (fun _ => ok_get (C := RX11) (TT := TX11) (N := 10) rfl inw_X11 (Nat.le_of_ble_eq_true rfl) wd_295 dX11_cross_80 rfl)))) (am_nd_ok (am_lf_ok (fun _ => ok_get (C := RX10) (TT := TX10) (N := 14) rfl inw_X10 (Nat.le_of_ble_eq_true rfl) wd_307 dX11_cross_83 rfl)) (am_nd_ok (am_lf_ok (fun _ => ok_get (C := RX5) (TT := TX5) (N := 8) rfl inw_X5 (Nat.le_of_ble_eq_true rfl) wd_354 dX11_cross_86 rfl)) (am_lf_ok (fun _ => ok_iload_n dX11_cross_89 rfl rfl))))))
def tX11_cross_2 : Nat → Option am_Act := am_nd 106 (am_nd 97 (am_nd 93 (am_nd 91 (am_lf 90 (a_dup2 91)) (am_nd 92 (am_lf 91 (a_iald tT 92)) (am_lf 92 (a_const (nI 1) 93)))) (am_nd 95 (am_lf 93 (a_iload 5 95)) (am_nd 96 (am_lf 95 (a_bin (fun x y => x <<< (y &&& 31)) 96)) (am_lf 96 (a_bin (fun x y => x ||| y) 97))))) (am_nd 102 (am_nd 98 (am_lf 97 (a_iast tT 98)) (am_nd 99 (am_lf 98 (a_aload 0 99)) (am_lf 99 (a_get tT 11 0 102)))) (am_nd 103 (am_lf 102 (a_iload 1 103)) (am_nd 104 (am_lf 103 (a_iload 2 104)) (am_lf 104 (a_iload 5 106)))))) (am_nd 117 (am_nd 112 (am_nd 109 (am_lf 106 (a_cvI tT mX10_enter 10 3 109)) (am_nd 111 (am_lf 109 (a_istore 6 111)) (am_lf 111 (a_aload 0 112)))) (am_nd 115 (am_lf 112 (a_get tT 11 4 115)) (am_nd 116 (am_lf 115 (a_iload 1 116)) (am_lf 116 (a_iload 2 117))))) (am_nd 122 (am_nd 118 (am_lf 117 (a_iload 3 118)) (am_nd 120 (am_lf 118 (a_iload 5 120)) (am_lf 120 (a_iload 4 122)))) (am_nd 124 (am_lf 122 (a_iload 6 124)) (am_nd 127 (am_lf 124 (a_cvV tT mX8_add 8 6 127)) (am_lf 127 (a_iload 5 129))))))
theorem gX11_cross_2 : am_Good tT mX11_cross tX11_cross_2 := am_nd_ok (am_nd_ok (am_nd_ok (am_nd_ok (am_lf_ok (fun _ => ok_dup2 dX11_cross_90 rfl)) (am_nd_ok (am_lf_ok (fun _ => ok_iald dX11_cross_91 rfl)) (am_lf_ok (fun _ => ok_iconst dX11_cross_92 cv_iconst_1 rfl)))) (am_nd_ok (am_lf_ok (fun _ => ok_iload dX11_cross_93 rfl)) (am_nd_ok (am_lf_ok (fun _ => ok_ishl dX11_cross_95 rfl)) (am_lf_ok (fun _ => ok_ior dX11_cross_96 rfl))))) (am_nd_ok (am_nd_ok (am_lf_ok (fun _ => ok_iast dX11_cross_97 rfl)) (am_nd_ok (am_lf_ok (fun _ => ok_aload_n dX11_cross_98 rfl rfl)) (am_lf_ok (fun _ => ok_get (C := RX11) (TT := TX11) (N := 10) rfl inw_X11 (Nat.le_of_ble_eq_true rfl) wd_295 dX11_cross_99 rfl)))) (am_nd_ok (am_lf_ok (fun _ => ok_iload_n dX11_cross_102 rfl rfl)) (am_nd_ok (am_lf_ok (fun _ => ok_iload_n dX11_cross_103 rfl rfl)) (am_lf_ok (fun _ => ok_iload dX11_cross_104 rfl)))))) (am_nd_ok (am_nd_ok (am_nd_ok (am_lf_ok (fun _ => ok_cvI rfl mw_X10_enter (ci := 10) rfl rfl wd_356 wd_357 wd_358 dX11_cross_106 rfl)) (am_nd_ok (am_lf_ok (fun _ => ok_istore dX11_cross_109 (Nat.le_of_ble_eq_true rfl) rfl)) (am_lf_ok (fun _ => ok_aload_n dX11_cross_111 rfl rfl)))) (am_nd_ok (am_lf_ok (fun _ => ok_get (C := RX11) (TT := TX11) (N := 10) rfl inw_X11 (Nat.le_of_ble_eq_true rfl) wd_299 dX11_cross_112 rfl)) (am_nd_ok (am_lf_ok (fun _ => ok_iload_n dX11_cross_115 rfl rfl)) (am_lf_ok (fun _ => ok_iload_n dX11_cross_116 rfl rfl))))) (am_nd_ok (am_nd_ok (am_lf_ok (fun _ => ok_iload_n dX11_cross_117 rfl rfl)) (am_nd_ok (am_lf_ok (fun _ => ok_iload dX11_cross_118 rfl)) (am_lf_ok (fun _ => ok_iload dX11_cross_120 rfl)))) (am_nd_ok (am_lf_ok (fun _ => ok_iload dX11_cross_122 rfl)) (am_nd_ok (am_lf_ok (fun _ => ok_cvV rfl mw_X8_add (ci := 8) rfl rfl wd_359 wd_360 wd_361 dX11_cross_124 rfl)) (am_lf_ok (fun _ => ok_iload dX11_cross_127 rfl))))))
def tX11_cross_3 : Nat → Option am_Act := am_lf 129 (a_iret)
theorem gX11_cross_3 : am_Good tT mX11_cross tX11_cross_3 := am_lf_ok (fun _ => ok_iret rfl dX11_cross_129)
def tX11_cross : Nat → Option am_Act := am_nd 90 (am_nd 44 (tX11_cross_0) (tX11_cross_1)) (am_nd 129 (tX11_cross_2) (tX11_cross_3))
theorem gX11_cross : am_Good tT mX11_cross tX11_cross := am_nd_ok (am_nd_ok (gX11_cross_0) (gX11_cross_1)) (am_nd_ok (gX11_cross_2) (gX11_cross_3))
theorem dX11_take_0 : decode cX11_take 0 = .ok (.aload_n 0, 1) := by decide +kernel
theorem dX11_take_1 : decode cX11_take 1 = .ok (.getfield 22, 3) := by decide +kernel
theorem dX11_take_4 : decode cX11_take 4 = .ok (.iload_n 1, 1) := by decide +kernel
theorem dX11_take_5 : decode cX11_take 5 = .ok (.invokevirtual 124, 3) := by decide +kernel
theorem dX11_take_8 : decode cX11_take 8 = .ok (.ifCond .eq 26, 3) := by decide +kernel
theorem dX11_take_11 : decode cX11_take 11 = .ok (.aload_n 0, 1) := by decide +kernel
theorem dX11_take_12 : decode cX11_take 12 = .ok (.getfield 22, 3) := by decide +kernel
theorem dX11_take_15 : decode cX11_take 15 = .ok (.iload_n 3, 1) := by decide +kernel
theorem dX11_take_16 : decode cX11_take 16 = .ok (.invokevirtual 127, 3) := by decide +kernel
theorem dX11_take_19 : decode cX11_take 19 = .ok (.ifCond .eq 15, 3) := by decide +kernel
theorem dX11_take_22 : decode cX11_take 22 = .ok (.aload_n 0, 1) := by decide +kernel
theorem dX11_take_23 : decode cX11_take 23 = .ok (.getfield 22, 3) := by decide +kernel
theorem dX11_take_26 : decode cX11_take 26 = .ok (.iload_n 1, 1) := by decide +kernel
theorem dX11_take_27 : decode cX11_take 27 = .ok (.iload_n 2, 1) := by decide +kernel
theorem dX11_take_28 : decode cX11_take 28 = .ok (.invokevirtual 183, 3) := by decide +kernel
theorem dX11_take_31 : decode cX11_take 31 = .ok (.ifCond .ne 5, 3) := by decide +kernel
theorem dX11_take_34 : decode cX11_take 34 = .ok (.iconst 0, 1) := by decide +kernel
theorem dX11_take_35 : decode cX11_take 35 = .ok (.ireturn, 1) := by decide +kernel
theorem dX11_take_36 : decode cX11_take 36 = .ok (.aload_n 0, 1) := by decide +kernel
theorem dX11_take_37 : decode cX11_take 37 = .ok (.getfield 22, 3) := by decide +kernel
theorem dX11_take_40 : decode cX11_take 40 = .ok (.getfield 116, 3) := by decide +kernel
theorem dX11_take_43 : decode cX11_take 43 = .ok (.iload_n 2, 1) := by decide +kernel
theorem dX11_take_44 : decode cX11_take 44 = .ok (.iload_n 3, 1) := by decide +kernel
theorem dX11_take_45 : decode cX11_take 45 = .ok (.invokevirtual 202, 3) := by decide +kernel
theorem dX11_take_48 : decode cX11_take 48 = .ok (.iconst 1, 1) := by decide +kernel
theorem dX11_take_49 : decode cX11_take 49 = .ok (.if_icmp .lt 18, 3) := by decide +kernel
theorem dX11_take_52 : decode cX11_take 52 = .ok (.aload_n 0, 1) := by decide +kernel
theorem dX11_take_53 : decode cX11_take 53 = .ok (.getfield 22, 3) := by decide +kernel
theorem dX11_take_56 : decode cX11_take 56 = .ok (.getfield 103, 3) := by decide +kernel
theorem dX11_take_59 : decode cX11_take 59 = .ok (.iload_n 1, 1) := by decide +kernel
theorem dX11_take_60 : decode cX11_take 60 = .ok (.iload_n 3, 1) := by decide +kernel
theorem dX11_take_61 : decode cX11_take 61 = .ok (.invokevirtual 130, 3) := by decide +kernel
theorem dX11_take_64 : decode cX11_take 64 = .ok (.ifCond .ne 5, 3) := by decide +kernel
theorem dX11_take_67 : decode cX11_take 67 = .ok (.iconst 0, 1) := by decide +kernel
theorem dX11_take_68 : decode cX11_take 68 = .ok (.ireturn, 1) := by decide +kernel
theorem dX11_take_69 : decode cX11_take 69 = .ok (.aload_n 0, 1) := by decide +kernel
theorem dX11_take_70 : decode cX11_take 70 = .ok (.getfield 43, 3) := by decide +kernel
theorem dX11_take_73 : decode cX11_take 73 = .ok (.invokevirtual 89, 3) := by decide +kernel
theorem dX11_take_76 : decode cX11_take 76 = .ok (.aload_n 0, 1) := by decide +kernel
theorem dX11_take_77 : decode cX11_take 77 = .ok (.getfield 22, 3) := by decide +kernel
theorem dX11_take_80 : decode cX11_take 80 = .ok (.getfield 116, 3) := by decide +kernel
theorem dX11_take_83 : decode cX11_take 83 = .ok (.iload_n 2, 1) := by decide +kernel
theorem dX11_take_84 : decode cX11_take 84 = .ok (.iload_n 3, 1) := by decide +kernel
theorem dX11_take_85 : decode cX11_take 85 = .ok (.iconst (-1), 1) := by decide +kernel
theorem dX11_take_86 : decode cX11_take 86 = .ok (.invokevirtual 205, 3) := by decide +kernel
theorem dX11_take_89 : decode cX11_take 89 = .ok (.aload_n 0, 1) := by decide +kernel
theorem dX11_take_90 : decode cX11_take 90 = .ok (.getfield 22, 3) := by decide +kernel
theorem dX11_take_93 : decode cX11_take 93 = .ok (.getfield 103, 3) := by decide +kernel
theorem dX11_take_96 : decode cX11_take 96 = .ok (.iload_n 1, 1) := by decide +kernel
theorem dX11_take_97 : decode cX11_take 97 = .ok (.iload_n 3, 1) := by decide +kernel
theorem dX11_take_98 : decode cX11_take 98 = .ok (.invokevirtual 134, 3) := by decide +kernel
theorem dX11_take_101 : decode cX11_take 101 = .ok (.iconst 1, 1) := by decide +kernel
theorem dX11_take_102 : decode cX11_take 102 = .ok (.ireturn, 1) := by decide +kernel
def tX11_take_0 : Nat → Option am_Act := am_nd 26 (am_nd 12 (am_nd 5 (am_nd 1 (am_lf 0 (a_aload 0 1)) (am_nd 4 (am_lf 1 (a_get tT 11 0 4)) (am_lf 4 (a_iload 1 5)))) (am_nd 8 (am_lf 5 (a_cvI tT mX10_isPerson 10 1 8)) (am_nd 11 (am_lf 8 (a_if (fun x => x = nI 0) 34 11)) (am_lf 11 (a_aload 0 12))))) (am_nd 19 (am_nd 15 (am_lf 12 (a_get tT 11 0 15)) (am_nd 16 (am_lf 15 (a_iload 3 16)) (am_lf 16 (a_cvI tT mX10_isName 10 1 19)))) (am_nd 22 (am_lf 19 (a_if (fun x => x = nI 0) 34 22)) (am_nd 23 (am_lf 22 (a_aload 0 23)) (am_lf 23 (a_get tT 11 0 26)))))) (am_nd 36 (am_nd 31 (am_nd 27 (am_lf 26 (a_iload 1 27)) (am_nd 28 (am_lf 27 (a_iload 2 28)) (am_lf 28 (a_cvI tT mX10_standsAt 10 2 31)))) (am_nd 34 (am_lf 31 (a_if (fun x => x = nI 0) 34 36)) (am_nd 35 (am_lf 34 (a_const (nI 0) 35)) (am_lf 35 (a_zret))))) (am_nd 43 (am_nd 37 (am_lf 36 (a_aload 0 37)) (am_nd 40 (am_lf 37 (a_get tT 11 0 40)) (am_lf 40 (a_get tT 10 12 43)))) (am_nd 44 (am_lf 43 (a_iload 2 44)) (am_nd 45 (am_lf 44 (a_iload 3 45)) (am_lf 45 (a_cvI tT mX2_keptOf 2 2 48))))))
theorem gX11_take_0 : am_Good tT mX11_take tX11_take_0 := am_nd_ok (am_nd_ok (am_nd_ok (am_nd_ok (am_lf_ok (fun _ => ok_aload_n dX11_take_0 rfl rfl)) (am_nd_ok (am_lf_ok (fun _ => ok_get (C := RX11) (TT := TX11) (N := 10) rfl inw_X11 (Nat.le_of_ble_eq_true rfl) wd_295 dX11_take_1 rfl)) (am_lf_ok (fun _ => ok_iload_n dX11_take_4 rfl rfl)))) (am_nd_ok (am_lf_ok (fun _ => ok_cvI rfl mw_X10_isPerson (ci := 10) rfl rfl wd_317 wd_318 wd_319 dX11_take_5 rfl)) (am_nd_ok (am_lf_ok (fun _ => ok_if_eq dX11_take_8 rfl rfl)) (am_lf_ok (fun _ => ok_aload_n dX11_take_11 rfl rfl))))) (am_nd_ok (am_nd_ok (am_lf_ok (fun _ => ok_get (C := RX11) (TT := TX11) (N := 10) rfl inw_X11 (Nat.le_of_ble_eq_true rfl) wd_295 dX11_take_12 rfl)) (am_nd_ok (am_lf_ok (fun _ => ok_iload_n dX11_take_15 rfl rfl)) (am_lf_ok (fun _ => ok_cvI rfl mw_X10_isName (ci := 10) rfl rfl wd_320 wd_321 wd_322 dX11_take_16 rfl)))) (am_nd_ok (am_lf_ok (fun _ => ok_if_eq dX11_take_19 rfl rfl)) (am_nd_ok (am_lf_ok (fun _ => ok_aload_n dX11_take_22 rfl rfl)) (am_lf_ok (fun _ => ok_get (C := RX11) (TT := TX11) (N := 10) rfl inw_X11 (Nat.le_of_ble_eq_true rfl) wd_295 dX11_take_23 rfl)))))) (am_nd_ok (am_nd_ok (am_nd_ok (am_lf_ok (fun _ => ok_iload_n dX11_take_26 rfl rfl)) (am_nd_ok (am_lf_ok (fun _ => ok_iload_n dX11_take_27 rfl rfl)) (am_lf_ok (fun _ => ok_cvI rfl mw_X10_standsAt (ci := 10) rfl rfl wd_351 wd_247 wd_248 dX11_take_28 rfl)))) (am_nd_ok (am_lf_ok (fun _ => ok_if_ne dX11_take_31 rfl rfl)) (am_nd_ok (am_lf_ok (fun _ => ok_iconst dX11_take_34 cv_iconst_0 rfl)) (am_lf_ok (fun _ => ok_zret rfl dX11_take_35))))) (am_nd_ok (am_nd_ok (am_lf_ok (fun _ => ok_aload_n dX11_take_36 rfl rfl)) (am_nd_ok (am_lf_ok (fun _ => ok_get (C := RX11) (TT := TX11) (N := 10) rfl inw_X11 (Nat.le_of_ble_eq_true rfl) wd_295 dX11_take_37 rfl)) (am_lf_ok (fun _ => ok_get (C := RX10) (TT := TX10) (N := 14) rfl inw_X10 (Nat.le_of_ble_eq_true rfl) wd_312 dX11_take_40 rfl)))) (am_nd_ok (am_lf_ok (fun _ => ok_iload_n dX11_take_43 rfl rfl)) (am_nd_ok (am_lf_ok (fun _ => ok_iload_n dX11_take_44 rfl rfl)) (am_lf_ok (fun _ => ok_cvI rfl mw_X2_keptOf (ci := 2) rfl rfl wd_362 wd_68 wd_69 dX11_take_45 rfl))))))
def tX11_take_1 : Nat → Option am_Act := am_nd 70 (am_nd 60 (am_nd 53 (am_nd 49 (am_lf 48 (a_const (nI 1) 49)) (am_nd 52 (am_lf 49 (a_cmp (fun x y => x < y) 67 52)) (am_lf 52 (a_aload 0 53)))) (am_nd 56 (am_lf 53 (a_get tT 11 0 56)) (am_nd 59 (am_lf 56 (a_get tT 10 11 59)) (am_lf 59 (a_iload 1 60))))) (am_nd 67 (am_nd 61 (am_lf 60 (a_iload 3 61)) (am_nd 64 (am_lf 61 (a_cvI tT mX5_canGain 5 2 64)) (am_lf 64 (a_if (fun x => x = nI 0) 67 69)))) (am_nd 68 (am_lf 67 (a_const (nI 0) 68)) (am_nd 69 (am_lf 68 (a_zret)) (am_lf 69 (a_aload 0 70)))))) (am_nd 84 (am_nd 77 (am_nd 73 (am_lf 70 (a_get tT 11 4 73)) (am_nd 76 (am_lf 73 (a_cvV tT mX8_forget 8 0 76)) (am_lf 76 (a_aload 0 77)))) (am_nd 80 (am_lf 77 (a_get tT 11 0 80)) (am_nd 83 (am_lf 80 (a_get tT 10 12 83)) (am_lf 83 (a_iload 2 84))))) (am_nd 89 (am_nd 85 (am_lf 84 (a_iload 3 85)) (am_nd 86 (am_lf 85 (a_const (-1) 86)) (am_lf 86 (a_cvV tT mX2_changeKept 2 3 89)))) (am_nd 90 (am_lf 89 (a_aload 0 90)) (am_nd 93 (am_lf 90 (a_get tT 11 0 93)) (am_lf 93 (a_get tT 10 11 96))))))
theorem gX11_take_1 : am_Good tT mX11_take tX11_take_1 := am_nd_ok (am_nd_ok (am_nd_ok (am_nd_ok (am_lf_ok (fun _ => ok_iconst dX11_take_48 cv_iconst_1 rfl)) (am_nd_ok (am_lf_ok (fun _ => ok_cmp_lt dX11_take_49 rfl rfl)) (am_lf_ok (fun _ => ok_aload_n dX11_take_52 rfl rfl)))) (am_nd_ok (am_lf_ok (fun _ => ok_get (C := RX11) (TT := TX11) (N := 10) rfl inw_X11 (Nat.le_of_ble_eq_true rfl) wd_295 dX11_take_53 rfl)) (am_nd_ok (am_lf_ok (fun _ => ok_get (C := RX10) (TT := TX10) (N := 14) rfl inw_X10 (Nat.le_of_ble_eq_true rfl) wd_307 dX11_take_56 rfl)) (am_lf_ok (fun _ => ok_iload_n dX11_take_59 rfl rfl))))) (am_nd_ok (am_nd_ok (am_lf_ok (fun _ => ok_iload_n dX11_take_60 rfl rfl)) (am_nd_ok (am_lf_ok (fun _ => ok_cvI rfl mw_X5_canGain (ci := 5) rfl rfl wd_323 wd_324 wd_325 dX11_take_61 rfl)) (am_lf_ok (fun _ => ok_if_ne dX11_take_64 rfl rfl)))) (am_nd_ok (am_lf_ok (fun _ => ok_iconst dX11_take_67 cv_iconst_0 rfl)) (am_nd_ok (am_lf_ok (fun _ => ok_zret rfl dX11_take_68)) (am_lf_ok (fun _ => ok_aload_n dX11_take_69 rfl rfl)))))) (am_nd_ok (am_nd_ok (am_nd_ok (am_lf_ok (fun _ => ok_get (C := RX11) (TT := TX11) (N := 10) rfl inw_X11 (Nat.le_of_ble_eq_true rfl) wd_299 dX11_take_70 rfl)) (am_nd_ok (am_lf_ok (fun _ => ok_cvV rfl mw_X8_forget (ci := 8) rfl rfl wd_300 wd_301 wd_302 dX11_take_73 rfl)) (am_lf_ok (fun _ => ok_aload_n dX11_take_76 rfl rfl)))) (am_nd_ok (am_lf_ok (fun _ => ok_get (C := RX11) (TT := TX11) (N := 10) rfl inw_X11 (Nat.le_of_ble_eq_true rfl) wd_295 dX11_take_77 rfl)) (am_nd_ok (am_lf_ok (fun _ => ok_get (C := RX10) (TT := TX10) (N := 14) rfl inw_X10 (Nat.le_of_ble_eq_true rfl) wd_312 dX11_take_80 rfl)) (am_lf_ok (fun _ => ok_iload_n dX11_take_83 rfl rfl))))) (am_nd_ok (am_nd_ok (am_lf_ok (fun _ => ok_iload_n dX11_take_84 rfl rfl)) (am_nd_ok (am_lf_ok (fun _ => ok_iconst dX11_take_85 cv_iconst_m1 rfl)) (am_lf_ok (fun _ => ok_cvV rfl mw_X2_changeKept (ci := 2) rfl rfl wd_363 wd_225 wd_226 dX11_take_86 rfl)))) (am_nd_ok (am_lf_ok (fun _ => ok_aload_n dX11_take_89 rfl rfl)) (am_nd_ok (am_lf_ok (fun _ => ok_get (C := RX11) (TT := TX11) (N := 10) rfl inw_X11 (Nat.le_of_ble_eq_true rfl) wd_295 dX11_take_90 rfl)) (am_lf_ok (fun _ => ok_get (C := RX10) (TT := TX10) (N := 14) rfl inw_X10 (Nat.le_of_ble_eq_true rfl) wd_307 dX11_take_93 rfl))))))
def tX11_take_2 : Nat → Option am_Act := am_nd 98 (am_nd 97 (am_lf 96 (a_iload 1 97)) (am_lf 97 (a_iload 3 98))) (am_nd 101 (am_lf 98 (a_cvV tT mX5_append 5 2 101)) (am_nd 102 (am_lf 101 (a_const (nI 1) 102)) (am_lf 102 (a_zret))))
theorem gX11_take_2 : am_Good tT mX11_take tX11_take_2 := am_nd_ok (am_nd_ok (am_lf_ok (fun _ => ok_iload_n dX11_take_96 rfl rfl)) (am_lf_ok (fun _ => ok_iload_n dX11_take_97 rfl rfl))) (am_nd_ok (am_lf_ok (fun _ => ok_cvV rfl mw_X5_append (ci := 5) rfl rfl wd_326 wd_185 wd_186 dX11_take_98 rfl)) (am_nd_ok (am_lf_ok (fun _ => ok_iconst dX11_take_101 cv_iconst_1 rfl)) (am_lf_ok (fun _ => ok_zret rfl dX11_take_102))))
def tX11_take : Nat → Option am_Act := am_nd 48 (tX11_take_0) (am_nd 96 (tX11_take_1) (tX11_take_2))
theorem gX11_take : am_Good tT mX11_take tX11_take := am_nd_ok (gX11_take_0) (am_nd_ok (gX11_take_1) (gX11_take_2))
theorem dX11_day_0 : decode cX11_day 0 = .ok (.aload_n 0, 1) := by decide +kernel
theorem dX11_day_1 : decode cX11_day 1 = .ok (.getfield 22, 3) := by decide +kernel
theorem dX11_day_4 : decode cX11_day 4 = .ok (.getfield 209, 3) := by decide +kernel
theorem dX11_day_7 : decode cX11_day 7 = .ok (.sipush 9999, 3) := by decide +kernel
theorem dX11_day_10 : decode cX11_day 10 = .ok (.if_icmp .lt 5, 3) := by decide +kernel
theorem dX11_day_13 : decode cX11_day 13 = .ok (.iconst (-1), 1) := by decide +kernel
theorem dX11_day_14 : decode cX11_day 14 = .ok (.ireturn, 1) := by decide +kernel
theorem dX11_day_15 : decode cX11_day 15 = .ok (.aload_n 0, 1) := by decide +kernel
theorem dX11_day_16 : decode cX11_day 16 = .ok (.getfield 43, 3) := by decide +kernel
theorem dX11_day_19 : decode cX11_day 19 = .ok (.invokevirtual 89, 3) := by decide +kernel
theorem dX11_day_22 : decode cX11_day 22 = .ok (.aload_n 0, 1) := by decide +kernel
theorem dX11_day_23 : decode cX11_day 23 = .ok (.getfield 22, 3) := by decide +kernel
theorem dX11_day_26 : decode cX11_day 26 = .ok (.dup, 1) := by decide +kernel
theorem dX11_day_27 : decode cX11_day 27 = .ok (.getfield 209, 3) := by decide +kernel
theorem dX11_day_30 : decode cX11_day 30 = .ok (.iconst 1, 1) := by decide +kernel
theorem dX11_day_31 : decode cX11_day 31 = .ok (.iadd, 1) := by decide +kernel
theorem dX11_day_32 : decode cX11_day 32 = .ok (.putfield 209, 3) := by decide +kernel
theorem dX11_day_35 : decode cX11_day 35 = .ok (.iconst 0, 1) := by decide +kernel
theorem dX11_day_36 : decode cX11_day 36 = .ok (.istore_n 1, 1) := by decide +kernel
theorem dX11_day_37 : decode cX11_day 37 = .ok (.iconst 0, 1) := by decide +kernel
theorem dX11_day_38 : decode cX11_day 38 = .ok (.istore_n 2, 1) := by decide +kernel
theorem dX11_day_39 : decode cX11_day 39 = .ok (.iload_n 2, 1) := by decide +kernel
theorem dX11_day_40 : decode cX11_day 40 = .ok (.aload_n 0, 1) := by decide +kernel
theorem dX11_day_41 : decode cX11_day 41 = .ok (.getfield 22, 3) := by decide +kernel
theorem dX11_day_44 : decode cX11_day 44 = .ok (.getfield 103, 3) := by decide +kernel
theorem dX11_day_47 : decode cX11_day 47 = .ok (.getfield 107, 3) := by decide +kernel
theorem dX11_day_50 : decode cX11_day 50 = .ok (.if_icmp .ge 23, 3) := by decide +kernel
theorem dX11_day_53 : decode cX11_day 53 = .ok (.aload_n 0, 1) := by decide +kernel
theorem dX11_day_54 : decode cX11_day 54 = .ok (.getfield 22, 3) := by decide +kernel
theorem dX11_day_57 : decode cX11_day 57 = .ok (.iload_n 2, 1) := by decide +kernel
theorem dX11_day_58 : decode cX11_day 58 = .ok (.invokevirtual 212, 3) := by decide +kernel
theorem dX11_day_61 : decode cX11_day 61 = .ok (.ifCond .eq 6, 3) := by decide +kernel
theorem dX11_day_64 : decode cX11_day 64 = .ok (.iinc 1 1, 3) := by decide +kernel
theorem dX11_day_67 : decode cX11_day 67 = .ok (.iinc 2 1, 3) := by decide +kernel
theorem dX11_day_70 : decode cX11_day 70 = .ok (.goto (-31), 3) := by decide +kernel
theorem dX11_day_73 : decode cX11_day 73 = .ok (.iload_n 1, 1) := by decide +kernel
theorem dX11_day_74 : decode cX11_day 74 = .ok (.ireturn, 1) := by decide +kernel
def tX11_day_0 : Nat → Option am_Act := am_nd 26 (am_nd 14 (am_nd 7 (am_nd 1 (am_lf 0 (a_aload 0 1)) (am_nd 4 (am_lf 1 (a_get tT 11 0 4)) (am_lf 4 (a_get tT 10 3 7)))) (am_nd 10 (am_lf 7 (a_const (nI 9999) 10)) (am_nd 13 (am_lf 10 (a_cmp (fun x y => x < y) 15 13)) (am_lf 13 (a_const (-1) 14))))) (am_nd 19 (am_nd 15 (am_lf 14 (a_iret)) (am_nd 16 (am_lf 15 (a_aload 0 16)) (am_lf 16 (a_get tT 11 4 19)))) (am_nd 22 (am_lf 19 (a_cvV tT mX8_forget 8 0 22)) (am_nd 23 (am_lf 22 (a_aload 0 23)) (am_lf 23 (a_get tT 11 0 26)))))) (am_nd 36 (am_nd 31 (am_nd 27 (am_lf 26 (a_dup 27)) (am_nd 30 (am_lf 27 (a_get tT 10 3 30)) (am_lf 30 (a_const (nI 1) 31)))) (am_nd 32 (am_lf 31 (a_bin (fun x y => x + y) 32)) (am_nd 35 (am_lf 32 (a_put tT 10 3 35)) (am_lf 35 (a_const (nI 0) 36))))) (am_nd 39 (am_nd 37 (am_lf 36 (a_istore 1 37)) (am_nd 38 (am_lf 37 (a_const (nI 0) 38)) (am_lf 38 (a_istore 2 39)))) (am_nd 40 (am_lf 39 (a_iload 2 40)) (am_nd 41 (am_lf 40 (a_aload 0 41)) (am_lf 41 (a_get tT 11 0 44))))))
theorem gX11_day_0 : am_Good tT mX11_day tX11_day_0 := am_nd_ok (am_nd_ok (am_nd_ok (am_nd_ok (am_lf_ok (fun _ => ok_aload_n dX11_day_0 rfl rfl)) (am_nd_ok (am_lf_ok (fun _ => ok_get (C := RX11) (TT := TX11) (N := 10) rfl inw_X11 (Nat.le_of_ble_eq_true rfl) wd_295 dX11_day_1 rfl)) (am_lf_ok (fun _ => ok_get (C := RX10) (TT := TX10) (N := 14) rfl inw_X10 (Nat.le_of_ble_eq_true rfl) wd_364 dX11_day_4 rfl)))) (am_nd_ok (am_lf_ok (fun _ => ok_sipush dX11_day_7 cv_sipush_9999 rfl)) (am_nd_ok (am_lf_ok (fun _ => ok_cmp_lt dX11_day_10 rfl rfl)) (am_lf_ok (fun _ => ok_iconst dX11_day_13 cv_iconst_m1 rfl))))) (am_nd_ok (am_nd_ok (am_lf_ok (fun _ => ok_iret rfl dX11_day_14)) (am_nd_ok (am_lf_ok (fun _ => ok_aload_n dX11_day_15 rfl rfl)) (am_lf_ok (fun _ => ok_get (C := RX11) (TT := TX11) (N := 10) rfl inw_X11 (Nat.le_of_ble_eq_true rfl) wd_299 dX11_day_16 rfl)))) (am_nd_ok (am_lf_ok (fun _ => ok_cvV rfl mw_X8_forget (ci := 8) rfl rfl wd_300 wd_301 wd_302 dX11_day_19 rfl)) (am_nd_ok (am_lf_ok (fun _ => ok_aload_n dX11_day_22 rfl rfl)) (am_lf_ok (fun _ => ok_get (C := RX11) (TT := TX11) (N := 10) rfl inw_X11 (Nat.le_of_ble_eq_true rfl) wd_295 dX11_day_23 rfl)))))) (am_nd_ok (am_nd_ok (am_nd_ok (am_lf_ok (fun _ => ok_dup dX11_day_26 rfl)) (am_nd_ok (am_lf_ok (fun _ => ok_get (C := RX10) (TT := TX10) (N := 14) rfl inw_X10 (Nat.le_of_ble_eq_true rfl) wd_364 dX11_day_27 rfl)) (am_lf_ok (fun _ => ok_iconst dX11_day_30 cv_iconst_1 rfl)))) (am_nd_ok (am_lf_ok (fun _ => ok_iadd dX11_day_31 rfl)) (am_nd_ok (am_lf_ok (fun _ => ok_put (C := RX10) (TT := TX10) (N := 14) (ty0 := tyX10) rfl inw_X10 tyX10_ok nmX10 (Nat.le_of_ble_eq_true rfl) rfl rfl wd_364 dX11_day_32 rfl)) (am_lf_ok (fun _ => ok_iconst dX11_day_35 cv_iconst_0 rfl))))) (am_nd_ok (am_nd_ok (am_lf_ok (fun _ => ok_istore_n dX11_day_36 rfl (Nat.le_of_ble_eq_true rfl) rfl)) (am_nd_ok (am_lf_ok (fun _ => ok_iconst dX11_day_37 cv_iconst_0 rfl)) (am_lf_ok (fun _ => ok_istore_n dX11_day_38 rfl (Nat.le_of_ble_eq_true rfl) rfl)))) (am_nd_ok (am_lf_ok (fun _ => ok_iload_n dX11_day_39 rfl rfl)) (am_nd_ok (am_lf_ok (fun _ => ok_aload_n dX11_day_40 rfl rfl)) (am_lf_ok (fun _ => ok_get (C := RX11) (TT := TX11) (N := 10) rfl inw_X11 (Nat.le_of_ble_eq_true rfl) wd_295 dX11_day_41 rfl))))))
def tX11_day_1 : Nat → Option am_Act := am_nd 58 (am_nd 53 (am_nd 47 (am_lf 44 (a_get tT 10 11 47)) (am_nd 50 (am_lf 47 (a_get tT 5 0 50)) (am_lf 50 (a_cmp (fun x y => y ≤ x) 73 53)))) (am_nd 54 (am_lf 53 (a_aload 0 54)) (am_nd 57 (am_lf 54 (a_get tT 11 0 57)) (am_lf 57 (a_iload 2 58))))) (am_nd 67 (am_nd 61 (am_lf 58 (a_cvI tT mX10_growBack 10 1 61)) (am_nd 64 (am_lf 61 (a_if (fun x => x = nI 0) 67 64)) (am_lf 64 (a_iinc 1 (nI 1) 67)))) (am_nd 73 (am_nd 70 (am_lf 67 (a_iinc 2 (nI 1) 70)) (am_lf 70 (a_goto 39))) (am_nd 74 (am_lf 73 (a_iload 1 74)) (am_lf 74 (a_iret)))))
theorem gX11_day_1 : am_Good tT mX11_day tX11_day_1 := am_nd_ok (am_nd_ok (am_nd_ok (am_lf_ok (fun _ => ok_get (C := RX10) (TT := TX10) (N := 14) rfl inw_X10 (Nat.le_of_ble_eq_true rfl) wd_307 dX11_day_44 rfl)) (am_nd_ok (am_lf_ok (fun _ => ok_get (C := RX5) (TT := TX5) (N := 8) rfl inw_X5 (Nat.le_of_ble_eq_true rfl) wd_308 dX11_day_47 rfl)) (am_lf_ok (fun _ => ok_cmp_ge dX11_day_50 rfl rfl)))) (am_nd_ok (am_lf_ok (fun _ => ok_aload_n dX11_day_53 rfl rfl)) (am_nd_ok (am_lf_ok (fun _ => ok_get (C := RX11) (TT := TX11) (N := 10) rfl inw_X11 (Nat.le_of_ble_eq_true rfl) wd_295 dX11_day_54 rfl)) (am_lf_ok (fun _ => ok_iload_n dX11_day_57 rfl rfl))))) (am_nd_ok (am_nd_ok (am_lf_ok (fun _ => ok_cvI rfl mw_X10_growBack (ci := 10) rfl rfl wd_365 wd_366 wd_367 dX11_day_58 rfl)) (am_nd_ok (am_lf_ok (fun _ => ok_if_eq dX11_day_61 rfl rfl)) (am_lf_ok (fun _ => ok_iinc dX11_day_64 cv_iconst_1 (Nat.le_of_ble_eq_true rfl) rfl)))) (am_nd_ok (am_nd_ok (am_lf_ok (fun _ => ok_iinc dX11_day_67 cv_iconst_1 (Nat.le_of_ble_eq_true rfl) rfl)) (am_lf_ok (fun _ => ok_goto dX11_day_70 rfl))) (am_nd_ok (am_lf_ok (fun _ => ok_iload_n dX11_day_73 rfl rfl)) (am_lf_ok (fun _ => ok_iret rfl dX11_day_74)))))
def tX11_day : Nat → Option am_Act := am_nd 44 (tX11_day_0) (tX11_day_1)
theorem gX11_day : am_Good tT mX11_day tX11_day := am_nd_ok (gX11_day_0) (gX11_day_1)
