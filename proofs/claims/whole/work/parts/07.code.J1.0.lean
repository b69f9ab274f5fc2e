/-! ===== code of java/lang/StringLatin1 ===== -/
theorem dJ1_charAt_3b067_0 : decode cJ1_charAt_3b067 0 = .ok (.iload_n 1, 1) := by decide +kernel
theorem dJ1_charAt_3b067_1 : decode cJ1_charAt_3b067 1 = .ok (.aload_n 0, 1) := by decide +kernel
theorem dJ1_charAt_3b067_2 : decode cJ1_charAt_3b067 2 = .ok (.arraylength, 1) := by decide +kernel
theorem dJ1_charAt_3b067_3 : decode cJ1_charAt_3b067 3 = .ok (.invokestatic 9, 3) := by decide +kernel
theorem dJ1_charAt_3b067_6 : decode cJ1_charAt_3b067 6 = .ok (.aload_n 0, 1) := by decide +kernel
theorem dJ1_charAt_3b067_7 : decode cJ1_charAt_3b067 7 = .ok (.iload_n 1, 1) := by decide +kernel
theorem dJ1_charAt_3b067_8 : decode cJ1_charAt_3b067 8 = .ok (.baload, 1) := by decide +kernel
theorem dJ1_charAt_3b067_9 : decode cJ1_charAt_3b067 9 = .ok (.sipush 255, 3) := by decide +kernel
theorem dJ1_charAt_3b067_12 : decode cJ1_charAt_3b067 12 = .ok (.iand, 1) := by decide +kernel
theorem dJ1_charAt_3b067_13 : decode cJ1_charAt_3b067 13 = .ok (.i2c, 1) := by decide +kernel
theorem dJ1_charAt_3b067_14 : decode cJ1_charAt_3b067 14 = .ok (.ireturn, 1) := by decide +kernel
def tJ1_charAt_3b067_0 : Nat → Option am_Act := am_nd 7 (am_nd 2 (am_nd 1 (am_lf 0 (a_iload 1 1)) (am_lf 1 (a_aload 0 2))) (am_nd 3 (am_lf 2 (a_blen tT 3)) (am_nd 6 (am_lf 3 (a_csV mJ0_checkIndex_df160 2 6)) (am_lf 6 (a_aload 0 7))))) (am_nd 12 (am_nd 8 (am_lf 7 (a_iload 1 8)) (am_nd 9 (am_lf 8 (a_bald tT 9)) (am_lf 9 (a_const (nI 255) 12)))) (am_nd 13 (am_lf 12 (a_bin (fun x y => x &&& y) 13)) (am_nd 14 (am_lf 13 (a_un am_i2c 14)) (am_lf 14 (a_nret .char)))))
theorem gJ1_charAt_3b067_0 : am_Good tT mJ1_charAt_3b067 tJ1_charAt_3b067_0 := am_nd_ok (am_nd_ok (am_nd_ok (am_lf_ok (fun _ => ok_iload_n dJ1_charAt_3b067_0 rfl rfl)) (am_lf_ok (fun _ => ok_aload_n dJ1_charAt_3b067_1 rfl rfl))) (am_nd_ok (am_lf_ok (fun _ => ok_blen dJ1_charAt_3b067_2 rfl)) (am_nd_ok (am_lf_ok (fun _ => ok_csV rfl mw_J0_checkIndex_df160 wd_657 wd_658 dJ1_charAt_3b067_3 rfl)) (am_lf_ok (fun _ => ok_aload_n dJ1_charAt_3b067_6 rfl rfl))))) (am_nd_ok (am_nd_ok (am_lf_ok (fun _ => ok_iload_n dJ1_charAt_3b067_7 rfl rfl)) (am_nd_ok (am_lf_ok (fun _ => ok_bald dJ1_charAt_3b067_8 rfl)) (am_lf_ok (fun _ => ok_sipush dJ1_charAt_3b067_9 cv_sipush_255 rfl)))) (am_nd_ok (am_lf_ok (fun _ => ok_iand dJ1_charAt_3b067_12 rfl)) (am_nd_ok (am_lf_ok (fun _ => ok_i2c dJ1_charAt_3b067_13 rfl)) (am_lf_ok (fun _ => ok_nret rfl dJ1_charAt_3b067_14)))))
def tJ1_charAt_3b067 : Nat → Option am_Act := tJ1_charAt_3b067_0
theorem gJ1_charAt_3b067 : am_Good tT mJ1_charAt_3b067 tJ1_charAt_3b067 := gJ1_charAt_3b067_0
theorem dJ1_canEncode_9a6ad_0 : decode cJ1_canEncode_9a6ad 0 = .ok (.iload_n 0, 1) := by decide +kernel
theorem dJ1_canEncode_9a6ad_1 : decode cJ1_canEncode_9a6ad 1 = .ok (.ifCond .lt 14, 3) := by decide +kernel
theorem dJ1_canEncode_9a6ad_4 : decode cJ1_canEncode_9a6ad 4 = .ok (.iload_n 0, 1) := by decide +kernel
theorem dJ1_canEncode_9a6ad_5 : decode cJ1_canEncode_9a6ad 5 = .ok (.sipush 255, 3) := by decide +kernel
theorem dJ1_canEncode_9a6ad_8 : decode cJ1_canEncode_9a6ad 8 = .ok (.if_icmp .gt 7, 3) := by decide +kernel
theorem dJ1_canEncode_9a6ad_11 : decode cJ1_canEncode_9a6ad 11 = .ok (.iconst 1, 1) := by decide +kernel
theorem dJ1_canEncode_9a6ad_12 : decode cJ1_canEncode_9a6ad 12 = .ok (.goto 4, 3) := by decide +kernel
theorem dJ1_canEncode_9a6ad_15 : decode cJ1_canEncode_9a6ad 15 = .ok (.iconst 0, 1) := by decide +kernel
theorem dJ1_canEncode_9a6ad_16 : decode cJ1_canEncode_9a6ad 16 = .ok (.ireturn, 1) := by decide +kernel
def tJ1_canEncode_9a6ad_0 : Nat → Option am_Act := am_nd 8 (am_nd 4 (am_nd 1 (am_lf 0 (a_iload 0 1)) (am_lf 1 (a_if (fun x => x < nI 0) 15 4))) (am_nd 5 (am_lf 4 (a_iload 0 5)) (am_lf 5 (a_const (nI 255) 8)))) (am_nd 12 (am_nd 11 (am_lf 8 (a_cmp (fun x y => y < x) 15 11)) (am_lf 11 (a_const (nI 1) 12))) (am_nd 15 (am_lf 12 (a_goto 16)) (am_nd 16 (am_lf 15 (a_const (nI 0) 16)) (am_lf 16 (a_zret)))))
theorem gJ1_canEncode_9a6ad_0 : am_Good tT mJ1_canEncode_9a6ad tJ1_canEncode_9a6ad_0 := am_nd_ok (am_nd_ok (am_nd_ok (am_lf_ok (fun _ => ok_iload_n dJ1_canEncode_9a6ad_0 rfl rfl)) (am_lf_ok (fun _ => ok_if_lt dJ1_canEncode_9a6ad_1 rfl rfl))) (am_nd_ok (am_lf_ok (fun _ => ok_iload_n dJ1_canEncode_9a6ad_4 rfl rfl)) (am_lf_ok (fun _ => ok_sipush dJ1_canEncode_9a6ad_5 cv_sipush_255 rfl)))) (am_nd_ok (am_nd_ok (am_lf_ok (fun _ => ok_cmp_gt dJ1_canEncode_9a6ad_8 rfl rfl)) (am_lf_ok (fun _ => ok_iconst dJ1_canEncode_9a6ad_11 cv_iconst_1 rfl))) (am_nd_ok (am_lf_ok (fun _ => ok_goto dJ1_canEncode_9a6ad_12 rfl)) (am_nd_ok (am_lf_ok (fun _ => ok_iconst dJ1_canEncode_9a6ad_15 cv_iconst_0 rfl)) (am_lf_ok (fun _ => ok_zret rfl dJ1_canEncode_9a6ad_16)))))
def tJ1_canEncode_9a6ad : Nat → Option am_Act := tJ1_canEncode_9a6ad_0
theorem gJ1_canEncode_9a6ad : am_Good tT mJ1_canEncode_9a6ad tJ1_canEncode_9a6ad := gJ1_canEncode_9a6ad_0
theorem dJ1_indexOf_4cfef_0 : decode cJ1_indexOf_4cfef 0 = .ok (.iload_n 1, 1) := by decide +kernel
theorem dJ1_indexOf_4cfef_1 : decode cJ1_indexOf_4cfef 1 = .ok (.invokestatic 88, 3) := by decide +kernel
theorem dJ1_indexOf_4cfef_4 : decode cJ1_indexOf_4cfef 4 = .ok (.ifCond .ne 5, 3) := by decide +kernel
theorem dJ1_indexOf_4cfef_7 : decode cJ1_indexOf_4cfef 7 = .ok (.iconst (-1), 1) := by decide +kernel
theorem dJ1_indexOf_4cfef_8 : decode cJ1_indexOf_4cfef 8 = .ok (.ireturn, 1) := by decide +kernel
theorem dJ1_indexOf_4cfef_9 : decode cJ1_indexOf_4cfef 9 = .ok (.iload_n 2, 1) := by decide +kernel
theorem dJ1_indexOf_4cfef_10 : decode cJ1_indexOf_4cfef 10 = .ok (.iconst 0, 1) := by decide +kernel
theorem dJ1_indexOf_4cfef_11 : decode cJ1_indexOf_4cfef 11 = .ok (.invokestatic 92, 3) := by decide +kernel
theorem dJ1_indexOf_4cfef_14 : decode cJ1_indexOf_4cfef 14 = .ok (.istore_n 2, 1) := by decide +kernel
theorem dJ1_indexOf_4cfef_15 : decode cJ1_indexOf_4cfef 15 = .ok (.iload_n 3, 1) := by decide +kernel
theorem dJ1_indexOf_4cfef_16 : decode cJ1_indexOf_4cfef 16 = .ok (.aload_n 0, 1) := by decide +kernel
theorem dJ1_indexOf_4cfef_17 : decode cJ1_indexOf_4cfef 17 = .ok (.arraylength, 1) := by decide +kernel
theorem dJ1_indexOf_4cfef_18 : decode cJ1_indexOf_4cfef 18 = .ok (.invokestatic 38, 3) := by decide +kernel
theorem dJ1_indexOf_4cfef_21 : decode cJ1_indexOf_4cfef 21 = .ok (.istore_n 3, 1) := by decide +kernel
theorem dJ1_indexOf_4cfef_22 : decode cJ1_indexOf_4cfef 22 = .ok (.iload_n 2, 1) := by decide +kernel
theorem dJ1_indexOf_4cfef_23 : decode cJ1_indexOf_4cfef 23 = .ok (.iload_n 3, 1) := by decide +kernel
theorem dJ1_indexOf_4cfef_24 : decode cJ1_indexOf_4cfef 24 = .ok (.if_icmp .lt 5, 3) := by decide +kernel
theorem dJ1_indexOf_4cfef_27 : decode cJ1_indexOf_4cfef 27 = .ok (.iconst (-1), 1) := by decide +kernel
theorem dJ1_indexOf_4cfef_28 : decode cJ1_indexOf_4cfef 28 = .ok (.ireturn, 1) := by decide +kernel
theorem dJ1_indexOf_4cfef_29 : decode cJ1_indexOf_4cfef 29 = .ok (.aload_n 0, 1) := by decide +kernel
theorem dJ1_indexOf_4cfef_30 : decode cJ1_indexOf_4cfef 30 = .ok (.iload_n 1, 1) := by decide +kernel
theorem dJ1_indexOf_4cfef_31 : decode cJ1_indexOf_4cfef 31 = .ok (.iload_n 2, 1) := by decide +kernel
theorem dJ1_indexOf_4cfef_32 : decode cJ1_indexOf_4cfef 32 = .ok (.iload_n 3, 1) := by decide +kernel
theorem dJ1_indexOf_4cfef_33 : decode cJ1_indexOf_4cfef 33 = .ok (.invokestatic 95, 3) := by decide +kernel
theorem dJ1_indexOf_4cfef_36 : decode cJ1_indexOf_4cfef 36 = .ok (.ireturn, 1) := by decide +kernel
def tJ1_indexOf_4cfef_0 : Nat → Option am_Act := am_nd 18 (am_nd 10 (am_nd 7 (am_nd 1 (am_lf 0 (a_iload 1 1)) (am_nd 4 (am_lf 1 (a_csI mJ1_canEncode_9a6ad 1 4)) (am_lf 4 (a_if (fun x => x = nI 0) 7 9)))) (am_nd 8 (am_lf 7 (a_const (-1) 8)) (am_nd 9 (am_lf 8 (a_iret)) (am_lf 9 (a_iload 2 10))))) (am_nd 15 (am_nd 11 (am_lf 10 (a_const (nI 0) 11)) (am_nd 14 (am_lf 11 (a_csI mJ9_max_7cf53 2 14)) (am_lf 14 (a_istore 2 15)))) (am_nd 16 (am_lf 15 (a_iload 3 16)) (am_nd 17 (am_lf 16 (a_aload 0 17)) (am_lf 17 (a_blen tT 18)))))) (am_nd 28 (am_nd 23 (am_nd 21 (am_lf 18 (a_csI mJ9_min_7cf53 2 21)) (am_nd 22 (am_lf 21 (a_istore 3 22)) (am_lf 22 (a_iload 2 23)))) (am_nd 24 (am_lf 23 (a_iload 3 24)) (am_nd 27 (am_lf 24 (a_cmp (fun x y => x < y) 29 27)) (am_lf 27 (a_const (-1) 28))))) (am_nd 31 (am_nd 29 (am_lf 28 (a_iret)) (am_nd 30 (am_lf 29 (a_aload 0 30)) (am_lf 30 (a_iload 1 31)))) (am_nd 32 (am_lf 31 (a_iload 2 32)) (am_nd 33 (am_lf 32 (a_iload 3 33)) (am_lf 33 (a_csI mJ1_indexOfChar_4cfef 4 36))))))
theorem gJ1_indexOf_4cfef_0 : am_Good tT mJ1_indexOf_4cfef tJ1_indexOf_4cfef_0 := am_nd_ok (am_nd_ok (am_nd_ok (am_nd_ok (am_lf_ok (fun _ => ok_iload_n dJ1_indexOf_4cfef_0 rfl rfl)) (am_nd_ok (am_lf_ok (fun _ => ok_csI rfl mw_J1_canEncode_9a6ad wd_659 wd_660 dJ1_indexOf_4cfef_1 rfl)) (am_lf_ok (fun _ => ok_if_ne dJ1_indexOf_4cfef_4 rfl rfl)))) (am_nd_ok (am_lf_ok (fun _ => ok_iconst dJ1_indexOf_4cfef_7 cv_iconst_m1 rfl)) (am_nd_ok (am_lf_ok (fun _ => ok_iret rfl dJ1_indexOf_4cfef_8)) (am_lf_ok (fun _ => ok_iload_n dJ1_indexOf_4cfef_9 rfl rfl))))) (am_nd_ok (am_nd_ok (am_lf_ok (fun _ => ok_iconst dJ1_indexOf_4cfef_10 cv_iconst_0 rfl)) (am_nd_ok (am_lf_ok (fun _ => ok_csI rfl mw_J9_max_7cf53 wd_661 wd_662 dJ1_indexOf_4cfef_11 rfl)) (am_lf_ok (fun _ => ok_istore_n dJ1_indexOf_4cfef_14 rfl (Nat.le_of_ble_eq_true rfl) rfl)))) (am_nd_ok (am_lf_ok (fun _ => ok_iload_n dJ1_indexOf_4cfef_15 rfl rfl)) (am_nd_ok (am_lf_ok (fun _ => ok_aload_n dJ1_indexOf_4cfef_16 rfl rfl)) (am_lf_ok (fun _ => ok_blen dJ1_indexOf_4cfef_17 rfl)))))) (am_nd_ok (am_nd_ok (am_nd_ok (am_lf_ok (fun _ => ok_csI rfl mw_J9_min_7cf53 wd_663 wd_170 dJ1_indexOf_4cfef_18 rfl)) (am_nd_ok (am_lf_ok (fun _ => ok_istore_n dJ1_indexOf_4cfef_21 rfl (Nat.le_of_ble_eq_true rfl) rfl)) (am_lf_ok (fun _ => ok_iload_n dJ1_indexOf_4cfef_22 rfl rfl)))) (am_nd_ok (am_lf_ok (fun _ => ok_iload_n dJ1_indexOf_4cfef_23 rfl rfl)) (am_nd_ok (am_lf_ok (fun _ => ok_cmp_lt dJ1_indexOf_4cfef_24 rfl rfl)) (am_lf_ok (fun _ => ok_iconst dJ1_indexOf_4cfef_27 cv_iconst_m1 rfl))))) (am_nd_ok (am_nd_ok (am_lf_ok (fun _ => ok_iret rfl dJ1_indexOf_4cfef_28)) (am_nd_ok (am_lf_ok (fun _ => ok_aload_n dJ1_indexOf_4cfef_29 rfl rfl)) (am_lf_ok (fun _ => ok_iload_n dJ1_indexOf_4cfef_30 rfl rfl)))) (am_nd_ok (am_lf_ok (fun _ => ok_iload_n dJ1_indexOf_4cfef_31 rfl rfl)) (am_nd_ok (am_lf_ok (fun _ => ok_iload_n dJ1_indexOf_4cfef_32 rfl rfl)) (am_lf_ok (fun _ => ok_csI rfl mw_J1_indexOfChar_4cfef wd_664 wd_665 dJ1_indexOf_4cfef_33 rfl))))))
def tJ1_indexOf_4cfef_1 : Nat → Option am_Act := am_lf 36 (a_iret)
theorem gJ1_indexOf_4cfef_1 : am_Good tT mJ1_indexOf_4cfef tJ1_indexOf_4cfef_1 := am_lf_ok (fun _ => ok_iret rfl dJ1_indexOf_4cfef_36)
def tJ1_indexOf_4cfef : Nat → Option am_Act := am_nd 36 (tJ1_indexOf_4cfef_0) (tJ1_indexOf_4cfef_1)
theorem gJ1_indexOf_4cfef : am_Good tT mJ1_indexOf_4cfef tJ1_indexOf_4cfef := am_nd_ok (gJ1_indexOf_4cfef_0) (gJ1_indexOf_4cfef_1)
theorem dJ1_indexOfChar_4cfef_0 : decode cJ1_indexOfChar_4cfef 0 = .ok (.iload_n 1, 1) := by decide +kernel
theorem dJ1_indexOfChar_4cfef_1 : decode cJ1_indexOfChar_4cfef 1 = .ok (.i2b, 1) := by decide +kernel
theorem dJ1_indexOfChar_4cfef_2 : decode cJ1_indexOfChar_4cfef 2 = .ok (.istore 4, 2) := by decide +kernel
theorem dJ1_indexOfChar_4cfef_4 : decode cJ1_indexOfChar_4cfef 4 = .ok (.iload_n 2, 1) := by decide +kernel
theorem dJ1_indexOfChar_4cfef_5 : decode cJ1_indexOfChar_4cfef 5 = .ok (.istore 5, 2) := by decide +kernel
theorem dJ1_indexOfChar_4cfef_7 : decode cJ1_indexOfChar_4cfef 7 = .ok (.iload 5, 2) := by decide +kernel
theorem dJ1_indexOfChar_4cfef_9 : decode cJ1_indexOfChar_4cfef 9 = .ok (.iload_n 3, 1) := by decide +kernel
theorem dJ1_indexOfChar_4cfef_10 : decode cJ1_indexOfChar_4cfef 10 = .ok (.if_icmp .ge 21, 3) := by decide +kernel
theorem dJ1_indexOfChar_4cfef_13 : decode cJ1_indexOfChar_4cfef 13 = .ok (.aload_n 0, 1) := by decide +kernel
theorem dJ1_indexOfChar_4cfef_14 : decode cJ1_indexOfChar_4cfef 14 = .ok (.iload 5, 2) := by decide +kernel
theorem dJ1_indexOfChar_4cfef_16 : decode cJ1_indexOfChar_4cfef 16 = .ok (.baload, 1) := by decide +kernel
theorem dJ1_indexOfChar_4cfef_17 : decode cJ1_indexOfChar_4cfef 17 = .ok (.iload 4, 2) := by decide +kernel
theorem dJ1_indexOfChar_4cfef_19 : decode cJ1_indexOfChar_4cfef 19 = .ok (.if_icmp .ne 6, 3) := by decide +kernel
theorem dJ1_indexOfChar_4cfef_22 : decode cJ1_indexOfChar_4cfef 22 = .ok (.iload 5, 2) := by decide +kernel
theorem dJ1_indexOfChar_4cfef_24 : decode cJ1_indexOfChar_4cfef 24 = .ok (.ireturn, 1) := by decide +kernel
theorem dJ1_indexOfChar_4cfef_25 : decode cJ1_indexOfChar_4cfef 25 = .ok (.iinc 5 1, 3) := by decide +kernel
theorem dJ1_indexOfChar_4cfef_28 : decode cJ1_indexOfChar_4cfef 28 = .ok (.goto (-21), 3) := by decide +kernel
theorem dJ1_indexOfChar_4cfef_31 : decode cJ1_indexOfChar_4cfef 31 = .ok (.iconst (-1), 1) := by decide +kernel
theorem dJ1_indexOfChar_4cfef_32 : decode cJ1_indexOfChar_4cfef 32 = .ok (.ireturn, 1) := by decide +kernel
def tJ1_indexOfChar_4cfef_0 : Nat → Option am_Act := am_nd 14 (am_nd 5 (am_nd 2 (am_nd 1 (am_lf 0 (a_iload 1 1)) (am_lf 1 (a_un am_i2b 2))) (am_nd 4 (am_lf 2 (a_istore 4 4)) (am_lf 4 (a_iload 2 5)))) (am_nd 9 (am_nd 7 (am_lf 5 (a_istore 5 7)) (am_lf 7 (a_iload 5 9))) (am_nd 10 (am_lf 9 (a_iload 3 10)) (am_nd 13 (am_lf 10 (a_cmp (fun x y => y ≤ x) 31 13)) (am_lf 13 (a_aload 0 14)))))) (am_nd 24 (am_nd 17 (am_nd 16 (am_lf 14 (a_iload 5 16)) (am_lf 16 (a_bald tT 17))) (am_nd 19 (am_lf 17 (a_iload 4 19)) (am_nd 22 (am_lf 19 (a_cmp (fun x y => x = y) 22 25)) (am_lf 22 (a_iload 5 24))))) (am_nd 28 (am_nd 25 (am_lf 24 (a_iret)) (am_lf 25 (a_iinc 5 (nI 1) 28))) (am_nd 31 (am_lf 28 (a_goto 7)) (am_nd 32 (am_lf 31 (a_const (-1) 32)) (am_lf 32 (a_iret))))))
theorem gJ1_indexOfChar_4cfef_0 : am_Good tT mJ1_indexOfChar_4cfef tJ1_indexOfChar_4cfef_0 := am_nd_ok (am_nd_ok (am_nd_ok (am_nd_ok (am_lf_ok (fun _ => ok_iload_n dJ1_indexOfChar_4cfef_0 rfl rfl)) (am_lf_ok (fun _ => ok_i2b dJ1_indexOfChar_4cfef_1 rfl))) (am_nd_ok (am_lf_ok (fun _ => ok_istore dJ1_indexOfChar_4cfef_2 (Nat.le_of_ble_eq_true rfl) rfl)) (am_lf_ok (fun _ => ok_iload_n dJ1_indexOfChar_4cfef_4 rfl rfl)))) (am_nd_ok (am_nd_ok (am_lf_ok (fun _ => ok_istore dJ1_indexOfChar_4cfef_5 (Nat.le_of_ble_eq_true rfl) rfl)) (am_lf_ok (fun _ => ok_iload dJ1_indexOfChar_4cfef_7 rfl))) (am_nd_ok (am_lf_ok (fun _ => ok_iload_n dJ1_indexOfChar_4cfef_9 rfl rfl)) (am_nd_ok (am_lf_ok (fun _ => ok_cmp_ge dJ1_indexOfChar_4cfef_10 rfl rfl)) (am_lf_ok (fun _ => ok_aload_n dJ1_indexOfChar_4cfef_13 rfl rfl)))))) (am_nd_ok (am_nd_ok (am_nd_ok (am_lf_ok (fun _ => ok_iload dJ1_indexOfChar_4cfef_14 rfl)) (am_lf_ok (fun _ => ok_bald dJ1_indexOfChar_4cfef_16 rfl))) (am_nd_ok (am_lf_ok (fun _ => ok_iload dJ1_indexOfChar_4cfef_17 rfl)) (am_nd_ok (am_lf_ok (fun _ => ok_cmp_ne dJ1_indexOfChar_4cfef_19 rfl rfl)) (am_lf_ok (fun _ => ok_iload dJ1_indexOfChar_4cfef_22 rfl))))) (am_nd_ok (am_nd_ok (am_lf_ok (fun _ => ok_iret rfl dJ1_indexOfChar_4cfef_24)) (am_lf_ok (fun _ => ok_iinc dJ1_indexOfChar_4cfef_25 cv_iconst_1 (Nat.le_of_ble_eq_true rfl) rfl))) (am_nd_ok (am_lf_ok (fun _ => ok_goto dJ1_indexOfChar_4cfef_28 rfl)) (am_nd_ok (am_lf_ok (fun _ => ok_iconst dJ1_indexOfChar_4cfef_31 cv_iconst_m1 rfl)) (am_lf_ok (fun _ => ok_iret rfl dJ1_indexOfChar_4cfef_32))))))
def tJ1_indexOfChar_4cfef : Nat → Option am_Act := tJ1_indexOfChar_4cfef_0
theorem gJ1_indexOfChar_4cfef : am_Good tT mJ1_indexOfChar_4cfef tJ1_indexOfChar_4cfef := gJ1_indexOfChar_4cfef_0
