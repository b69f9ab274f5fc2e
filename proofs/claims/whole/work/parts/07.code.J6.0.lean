/-! ===== code of java/lang/Integer ===== -/
theorem dJ6_bitCount_0f7a4_0 : decode cJ6_bitCount_0f7a4 0 = .ok (.iload_n 0, 1) := by decide +kernel
theorem dJ6_bitCount_0f7a4_1 : decode cJ6_bitCount_0f7a4 1 = .ok (.iload_n 0, 1) := by decide +kernel
theorem dJ6_bitCount_0f7a4_2 : decode cJ6_bitCount_0f7a4 2 = .ok (.iconst 1, 1) := by decide +kernel
theorem dJ6_bitCount_0f7a4_3 : decode cJ6_bitCount_0f7a4 3 = .ok (.iushr, 1) := by decide +kernel
theorem dJ6_bitCount_0f7a4_4 : decode cJ6_bitCount_0f7a4 4 = .ok (.ldc_w 265, 3) := by decide +kernel
theorem dJ6_bitCount_0f7a4_7 : decode cJ6_bitCount_0f7a4 7 = .ok (.iand, 1) := by decide +kernel
theorem dJ6_bitCount_0f7a4_8 : decode cJ6_bitCount_0f7a4 8 = .ok (.isub, 1) := by decide +kernel
theorem dJ6_bitCount_0f7a4_9 : decode cJ6_bitCount_0f7a4 9 = .ok (.istore_n 0, 1) := by decide +kernel
theorem dJ6_bitCount_0f7a4_10 : decode cJ6_bitCount_0f7a4 10 = .ok (.iload_n 0, 1) := by decide +kernel
theorem dJ6_bitCount_0f7a4_11 : decode cJ6_bitCount_0f7a4 11 = .ok (.ldc_w 266, 3) := by decide +kernel
theorem dJ6_bitCount_0f7a4_14 : decode cJ6_bitCount_0f7a4 14 = .ok (.iand, 1) := by decide +kernel
theorem dJ6_bitCount_0f7a4_15 : decode cJ6_bitCount_0f7a4 15 = .ok (.iload_n 0, 1) := by decide +kernel
theorem dJ6_bitCount_0f7a4_16 : decode cJ6_bitCount_0f7a4 16 = .ok (.iconst 2, 1) := by decide +kernel
theorem dJ6_bitCount_0f7a4_17 : decode cJ6_bitCount_0f7a4 17 = .ok (.iushr, 1) := by decide +kernel
theorem dJ6_bitCount_0f7a4_18 : decode cJ6_bitCount_0f7a4 18 = .ok (.ldc_w 266, 3) := by decide +kernel
theorem dJ6_bitCount_0f7a4_21 : decode cJ6_bitCount_0f7a4 21 = .ok (.iand, 1) := by decide +kernel
theorem dJ6_bitCount_0f7a4_22 : decode cJ6_bitCount_0f7a4 22 = .ok (.iadd, 1) := by decide +kernel
theorem dJ6_bitCount_0f7a4_23 : decode cJ6_bitCount_0f7a4 23 = .ok (.istore_n 0, 1) := by decide +kernel
theorem dJ6_bitCount_0f7a4_24 : decode cJ6_bitCount_0f7a4 24 = .ok (.iload_n 0, 1) := by decide +kernel
theorem dJ6_bitCount_0f7a4_25 : decode cJ6_bitCount_0f7a4 25 = .ok (.iload_n 0, 1) := by decide +kernel
theorem dJ6_bitCount_0f7a4_26 : decode cJ6_bitCount_0f7a4 26 = .ok (.iconst 4, 1) := by decide +kernel
theorem dJ6_bitCount_0f7a4_27 : decode cJ6_bitCount_0f7a4 27 = .ok (.iushr, 1) := by decide +kernel
theorem dJ6_bitCount_0f7a4_28 : decode cJ6_bitCount_0f7a4 28 = .ok (.iadd, 1) := by decide +kernel
theorem dJ6_bitCount_0f7a4_29 : decode cJ6_bitCount_0f7a4 29 = .ok (.ldc_w 267, 3) := by decide +kernel
theorem dJ6_bitCount_0f7a4_32 : decode cJ6_bitCount_0f7a4 32 = .ok (.iand, 1) := by decide +kernel
theorem dJ6_bitCount_0f7a4_33 : decode cJ6_bitCount_0f7a4 33 = .ok (.istore_n 0, 1) := by decide +kernel
theorem dJ6_bitCount_0f7a4_34 : decode cJ6_bitCount_0f7a4 34 = .ok (.iload_n 0, 1) := by decide +kernel
theorem dJ6_bitCount_0f7a4_35 : decode cJ6_bitCount_0f7a4 35 = .ok (.iload_n 0, 1) := by decide +kernel
theorem dJ6_bitCount_0f7a4_36 : decode cJ6_bitCount_0f7a4 36 = .ok (.bipush 8, 2) := by decide +kernel
theorem dJ6_bitCount_0f7a4_38 : decode cJ6_bitCount_0f7a4 38 = .ok (.iushr, 1) := by decide +kernel
theorem dJ6_bitCount_0f7a4_39 : decode cJ6_bitCount_0f7a4 39 = .ok (.iadd, 1) := by decide +kernel
theorem dJ6_bitCount_0f7a4_40 : decode cJ6_bitCount_0f7a4 40 = .ok (.istore_n 0, 1) := by decide +kernel
theorem dJ6_bitCount_0f7a4_41 : decode cJ6_bitCount_0f7a4 41 = .ok (.iload_n 0, 1) := by decide +kernel
theorem dJ6_bitCount_0f7a4_42 : decode cJ6_bitCount_0f7a4 42 = .ok (.iload_n 0, 1) := by decide +kernel
theorem dJ6_bitCount_0f7a4_43 : decode cJ6_bitCount_0f7a4 43 = .ok (.bipush 16, 2) := by decide +kernel
theorem dJ6_bitCount_0f7a4_45 : decode cJ6_bitCount_0f7a4 45 = .ok (.iushr, 1) := by decide +kernel
theorem dJ6_bitCount_0f7a4_46 : decode cJ6_bitCount_0f7a4 46 = .ok (.iadd, 1) := by decide +kernel
theorem dJ6_bitCount_0f7a4_47 : decode cJ6_bitCount_0f7a4 47 = .ok (.istore_n 0, 1) := by decide +kernel
theorem dJ6_bitCount_0f7a4_48 : decode cJ6_bitCount_0f7a4 48 = .ok (.iload_n 0, 1) := by decide +kernel
theorem dJ6_bitCount_0f7a4_49 : decode cJ6_bitCount_0f7a4 49 = .ok (.bipush 63, 2) := by decide +kernel
theorem dJ6_bitCount_0f7a4_51 : decode cJ6_bitCount_0f7a4 51 = .ok (.iand, 1) := by decide +kernel
theorem dJ6_bitCount_0f7a4_52 : decode cJ6_bitCount_0f7a4 52 = .ok (.ireturn, 1) := by decide +kernel
def tJ6_bitCount_0f7a4_0 : Nat → Option am_Act := am_nd 16 (am_nd 8 (am_nd 3 (am_nd 1 (am_lf 0 (a_iload 0 1)) (am_nd 2 (am_lf 1 (a_iload 0 2)) (am_lf 2 (a_const (nI 1) 3)))) (am_nd 4 (am_lf 3 (a_bin am_ushr 4)) (am_nd 7 (am_lf 4 (a_const (nI 1431655765) 7)) (am_lf 7 (a_bin (fun x y => x &&& y) 8))))) (am_nd 11 (am_nd 9 (am_lf 8 (a_bin (fun x y => x - y) 9)) (am_nd 10 (am_lf 9 (a_istore 0 10)) (am_lf 10 (a_iload 0 11)))) (am_nd 14 (am_lf 11 (a_const (nI 858993459) 14)) (am_nd 15 (am_lf 14 (a_bin (fun x y => x &&& y) 15)) (am_lf 15 (a_iload 0 16)))))) (am_nd 24 (am_nd 21 (am_nd 17 (am_lf 16 (a_const (nI 2) 17)) (am_nd 18 (am_lf 17 (a_bin am_ushr 18)) (am_lf 18 (a_const (nI 858993459) 21)))) (am_nd 22 (am_lf 21 (a_bin (fun x y => x &&& y) 22)) (am_nd 23 (am_lf 22 (a_bin (fun x y => x + y) 23)) (am_lf 23 (a_istore 0 24))))) (am_nd 27 (am_nd 25 (am_lf 24 (a_iload 0 25)) (am_nd 26 (am_lf 25 (a_iload 0 26)) (am_lf 26 (a_const (nI 4) 27)))) (am_nd 28 (am_lf 27 (a_bin am_ushr 28)) (am_nd 29 (am_lf 28 (a_bin (fun x y => x + y) 29)) (am_lf 29 (a_const (nI 252645135) 32))))))
theorem gJ6_bitCount_0f7a4_0 : am_Good tT mJ6_bitCount_0f7a4 tJ6_bitCount_0f7a4_0 := am_nd_ok (am_nd_ok (am_nd_ok (am_nd_ok (am_lf_ok (fun _ => ok_iload_n dJ6_bitCount_0f7a4_0 rfl rfl)) (am_nd_ok (am_lf_ok (fun _ => ok_iload_n dJ6_bitCount_0f7a4_1 rfl rfl)) (am_lf_ok (fun _ => ok_iconst dJ6_bitCount_0f7a4_2 cv_iconst_1 rfl)))) (am_nd_ok (am_lf_ok (fun _ => ok_iushr dJ6_bitCount_0f7a4_3 rfl)) (am_nd_ok (am_lf_ok (fun _ => ok_ldcw wd_629 dJ6_bitCount_0f7a4_4 rfl)) (am_lf_ok (fun _ => ok_iand dJ6_bitCount_0f7a4_7 rfl))))) (am_nd_ok (am_nd_ok (am_lf_ok (fun _ => ok_isub dJ6_bitCount_0f7a4_8 rfl)) (am_nd_ok (am_lf_ok (fun _ => ok_istore_n dJ6_bitCount_0f7a4_9 rfl (Nat.le_of_ble_eq_true rfl) rfl)) (am_lf_ok (fun _ => ok_iload_n dJ6_bitCount_0f7a4_10 rfl rfl)))) (am_nd_ok (am_lf_ok (fun _ => ok_ldcw wd_630 dJ6_bitCount_0f7a4_11 rfl)) (am_nd_ok (am_lf_ok (fun _ => ok_iand dJ6_bitCount_0f7a4_14 rfl)) (am_lf_ok (fun _ => ok_iload_n dJ6_bitCount_0f7a4_15 rfl rfl)))))) (am_nd_ok (am_nd_ok (am_nd_ok (am_lf_ok (fun _ => ok_iconst dJ6_bitCount_0f7a4_16 cv_iconst_2 rfl)) (am_nd_ok (am_lf_ok (fun _ => ok_iushr dJ6_bitCount_0f7a4_17 rfl)) (am_lf_ok (fun _ => ok_ldcw wd_630 dJ6_bitCount_0f7a4_18 rfl)))) (am_nd_ok (am_lf_ok (fun _ => ok_iand dJ6_bitCount_0f7a4_21 rfl)) (am_nd_ok (am_lf_ok (fun _ => ok_iadd dJ6_bitCount_0f7a4_22 rfl)) (am_lf_ok (fun _ => ok_istore_n dJ6_bitCount_0f7a4_23 rfl (Nat.le_of_ble_eq_true rfl) rfl))))) (am_nd_ok (am_nd_ok (am_lf_ok (fun _ => ok_iload_n dJ6_bitCount_0f7a4_24 rfl rfl)) (am_nd_ok (am_lf_ok (fun _ => ok_iload_n dJ6_bitCount_0f7a4_25 rfl rfl)) (am_lf_ok (fun _ => ok_iconst dJ6_bitCount_0f7a4_26 cv_iconst_4 rfl)))) (am_nd_ok (am_lf_ok (fun _ => ok_iushr dJ6_bitCount_0f7a4_27 rfl)) (am_nd_ok (am_lf_ok (fun _ => ok_iadd dJ6_bitCount_0f7a4_28 rfl)) (am_lf_ok (fun _ => ok_ldcw wd_631 dJ6_bitCount_0f7a4_29 rfl))))))
def tJ6_bitCount_0f7a4_1 : Nat → Option am_Act := am_nd 42 (am_nd 36 (am_nd 34 (am_nd 33 (am_lf 32 (a_bin (fun x y => x &&& y) 33)) (am_lf 33 (a_istore 0 34))) (am_nd 35 (am_lf 34 (a_iload 0 35)) (am_lf 35 (a_iload 0 36)))) (am_nd 39 (am_nd 38 (am_lf 36 (a_const (nI 8) 38)) (am_lf 38 (a_bin am_ushr 39))) (am_nd 40 (am_lf 39 (a_bin (fun x y => x + y) 40)) (am_nd 41 (am_lf 40 (a_istore 0 41)) (am_lf 41 (a_iload 0 42)))))) (am_nd 47 (am_nd 45 (am_nd 43 (am_lf 42 (a_iload 0 43)) (am_lf 43 (a_const (nI 16) 45))) (am_nd 46 (am_lf 45 (a_bin am_ushr 46)) (am_lf 46 (a_bin (fun x y => x + y) 47)))) (am_nd 49 (am_nd 48 (am_lf 47 (a_istore 0 48)) (am_lf 48 (a_iload 0 49))) (am_nd 51 (am_lf 49 (a_const (nI 63) 51)) (am_nd 52 (am_lf 51 (a_bin (fun x y => x &&& y) 52)) (am_lf 52 (a_iret))))))
theorem gJ6_bitCount_0f7a4_1 : am_Good tT mJ6_bitCount_0f7a4 tJ6_bitCount_0f7a4_1 := am_nd_ok (am_nd_ok (am_nd_ok (am_nd_ok (am_lf_ok (fun _ => ok_iand dJ6_bitCount_0f7a4_32 rfl)) (am_lf_ok (fun _ => ok_istore_n dJ6_bitCount_0f7a4_33 rfl (Nat.le_of_ble_eq_true rfl) rfl))) (am_nd_ok (am_lf_ok (fun _ => ok_iload_n dJ6_bitCount_0f7a4_34 rfl rfl)) (am_lf_ok (fun _ => ok_iload_n dJ6_bitCount_0f7a4_35 rfl rfl)))) (am_nd_ok (am_nd_ok (am_lf_ok (fun _ => ok_bipush dJ6_bitCount_0f7a4_36 cv_bipush_8 rfl)) (am_lf_ok (fun _ => ok_iushr dJ6_bitCount_0f7a4_38 rfl))) (am_nd_ok (am_lf_ok (fun _ => ok_iadd dJ6_bitCount_0f7a4_39 rfl)) (am_nd_ok (am_lf_ok (fun _ => ok_istore_n dJ6_bitCount_0f7a4_40 rfl (Nat.le_of_ble_eq_true rfl) rfl)) (am_lf_ok (fun _ => ok_iload_n dJ6_bitCount_0f7a4_41 rfl rfl)))))) (am_nd_ok (am_nd_ok (am_nd_ok (am_lf_ok (fun _ => ok_iload_n dJ6_bitCount_0f7a4_42 rfl rfl)) (am_lf_ok (fun _ => ok_bipush dJ6_bitCount_0f7a4_43 cv_bipush_16 rfl))) (am_nd_ok (am_lf_ok (fun _ => ok_iushr dJ6_bitCount_0f7a4_45 rfl)) (am_lf_ok (fun _ => ok_iadd dJ6_bitCount_0f7a4_46 rfl)))) (am_nd_ok (am_nd_ok (am_lf_ok (fun _ => ok_istore_n dJ6_bitCount_0f7a4_47 rfl (Nat.le_of_ble_eq_true rfl) rfl)) (am_lf_ok (fun _ => ok_iload_n dJ6_bitCount_0f7a4_48 rfl rfl))) (am_nd_ok (am_lf_ok (fun _ => ok_bipush dJ6_bitCount_0f7a4_49 cv_bipush_63 rfl)) (am_nd_ok (am_lf_ok (fun _ => ok_iand dJ6_bitCount_0f7a4_51 rfl)) (am_lf_ok (fun _ => ok_iret rfl dJ6_bitCount_0f7a4_52))))))
def tJ6_bitCount_0f7a4 : Nat → Option am_Act := am_nd 32 (tJ6_bitCount_0f7a4_0) (tJ6_bitCount_0f7a4_1)
theorem gJ6_bitCount_0f7a4 : am_Good tT mJ6_bitCount_0f7a4 tJ6_bitCount_0f7a4 := am_nd_ok (gJ6_bitCount_0f7a4_0) (gJ6_bitCount_0f7a4_1)
