/-! ===== code of java/lang/String ===== -/
theorem dJ0_length_8abf5_0 : decode cJ0_length_8abf5 0 = .ok (.aload_n 0, 1) := by decide +kernel
theorem dJ0_length_8abf5_1 : decode cJ0_length_8abf5 1 = .ok (.getfield 9, 3) := by decide +kernel
theorem dJ0_length_8abf5_4 : decode cJ0_length_8abf5 4 = .ok (.arraylength, 1) := by decide +kernel
theorem dJ0_length_8abf5_5 : decode cJ0_length_8abf5 5 = .ok (.aload_n 0, 1) := by decide +kernel
theorem dJ0_length_8abf5_6 : decode cJ0_length_8abf5 6 = .ok (.invokevirtual 335, 3) := by decide +kernel
theorem dJ0_length_8abf5_9 : decode cJ0_length_8abf5 9 = .ok (.ishr, 1) := by decide +kernel
theorem dJ0_length_8abf5_10 : decode cJ0_length_8abf5 10 = .ok (.ireturn, 1) := by decide +kernel
def tJ0_length_8abf5_0 : Nat → Option am_Act := am_nd 5 (am_nd 1 (am_lf 0 (a_aload 0 1)) (am_nd 4 (am_lf 1 (a_gsv tT 4)) (am_lf 4 (a_alen tT 5)))) (am_nd 9 (am_nd 6 (am_lf 5 (a_aload 0 6)) (am_lf 6 (a_cvS tT mJ0_coder_7d493 0 9))) (am_nd 10 (am_lf 9 (a_bin (fun x y => x >>> (y &&& 31)) 10)) (am_lf 10 (a_iret))))
theorem gJ0_length_8abf5_0 : am_Good tT mJ0_length_8abf5 tJ0_length_8abf5_0 := am_nd_ok (am_nd_ok (am_lf_ok (fun _ => ok_aload_n dJ0_length_8abf5_0 rfl rfl)) (am_nd_ok (am_lf_ok (fun _ => ok_gsv wd_632 dJ0_length_8abf5_1 rfl)) (am_lf_ok (fun _ => ok_alen dJ0_length_8abf5_4 rfl)))) (am_nd_ok (am_nd_ok (am_lf_ok (fun _ => ok_aload_n dJ0_length_8abf5_5 rfl rfl)) (am_lf_ok (fun _ => ok_cvS rfl mw_J0_coder_7d493 rfl wd_633 wd_634 wd_635 dJ0_length_8abf5_6 rfl))) (am_nd_ok (am_lf_ok (fun _ => ok_ishr dJ0_length_8abf5_9 rfl)) (am_lf_ok (fun _ => ok_iret rfl dJ0_length_8abf5_10))))
def tJ0_length_8abf5 : Nat → Option am_Act := tJ0_length_8abf5_0
theorem gJ0_length_8abf5 : am_Good tT mJ0_length_8abf5 tJ0_length_8abf5 := gJ0_length_8abf5_0
theorem dJ0_charAt_5068e_0 : decode cJ0_charAt_5068e 0 = .ok (.aload_n 0, 1) := by decide +kernel
theorem dJ0_charAt_5068e_1 : decode cJ0_charAt_5068e 1 = .ok (.invokevirtual 492, 3) := by decide +kernel
theorem dJ0_charAt_5068e_4 : decode cJ0_charAt_5068e 4 = .ok (.ifCond .eq 12, 3) := by decide +kernel
theorem dJ0_charAt_5068e_7 : decode cJ0_charAt_5068e 7 = .ok (.aload_n 0, 1) := by decide +kernel
theorem dJ0_charAt_5068e_8 : decode cJ0_charAt_5068e 8 = .ok (.getfield 9, 3) := by decide +kernel
theorem dJ0_charAt_5068e_11 : decode cJ0_charAt_5068e 11 = .ok (.iload_n 1, 1) := by decide +kernel
theorem dJ0_charAt_5068e_12 : decode cJ0_charAt_5068e 12 = .ok (.invokestatic 495, 3) := by decide +kernel
theorem dJ0_charAt_5068e_15 : decode cJ0_charAt_5068e 15 = .ok (.ireturn, 1) := by decide +kernel
theorem dJ0_charAt_5068e_16 : decode cJ0_charAt_5068e 16 = .ok (.aload_n 0, 1) := by decide +kernel
theorem dJ0_charAt_5068e_17 : decode cJ0_charAt_5068e 17 = .ok (.getfield 9, 3) := by decide +kernel
theorem dJ0_charAt_5068e_20 : decode cJ0_charAt_5068e 20 = .ok (.iload_n 1, 1) := by decide +kernel
theorem dJ0_charAt_5068e_21 : decode cJ0_charAt_5068e 21 = .ok (.invokestatic 498, 3) := by decide +kernel
theorem dJ0_charAt_5068e_24 : decode cJ0_charAt_5068e 24 = .ok (.ireturn, 1) := by decide +kernel
def tJ0_charAt_5068e_0 : Nat → Option am_Act := am_nd 12 (am_nd 7 (am_nd 1 (am_lf 0 (a_aload 0 1)) (am_nd 4 (am_lf 1 (a_cvS tT mJ0_isLatin1_aae02 0 4)) (am_lf 4 (a_if (fun x => x = nI 0) 16 7)))) (am_nd 8 (am_lf 7 (a_aload 0 8)) (am_nd 11 (am_lf 8 (a_gsv tT 11)) (am_lf 11 (a_iload 1 12))))) (am_nd 17 (am_nd 15 (am_lf 12 (a_csI mJ1_charAt_3b067 2 15)) (am_nd 16 (am_lf 15 (a_nret .char)) (am_lf 16 (a_aload 0 17)))) (am_nd 21 (am_nd 20 (am_lf 17 (a_gsv tT 20)) (am_lf 20 (a_iload 1 21))) (am_nd 24 (am_lf 21 (a_csI mJ2_charAt_3b067 2 24)) (am_lf 24 (a_nret .char)))))
theorem gJ0_charAt_5068e_0 : am_Good tT mJ0_charAt_5068e tJ0_charAt_5068e_0 := am_nd_ok (am_nd_ok (am_nd_ok (am_lf_ok (fun _ => ok_aload_n dJ0_charAt_5068e_0 rfl rfl)) (am_nd_ok (am_lf_ok (fun _ => ok_cvS rfl mw_J0_isLatin1_aae02 rfl wd_636 wd_637 wd_638 dJ0_charAt_5068e_1 rfl)) (am_lf_ok (fun _ => ok_if_eq dJ0_charAt_5068e_4 rfl rfl)))) (am_nd_ok (am_lf_ok (fun _ => ok_aload_n dJ0_charAt_5068e_7 rfl rfl)) (am_nd_ok (am_lf_ok (fun _ => ok_gsv wd_632 dJ0_charAt_5068e_8 rfl)) (am_lf_ok (fun _ => ok_iload_n dJ0_charAt_5068e_11 rfl rfl))))) (am_nd_ok (am_nd_ok (am_lf_ok (fun _ => ok_csI rfl mw_J1_charAt_3b067 wd_639 wd_640 dJ0_charAt_5068e_12 rfl)) (am_nd_ok (am_lf_ok (fun _ => ok_nret rfl dJ0_charAt_5068e_15)) (am_lf_ok (fun _ => ok_aload_n dJ0_charAt_5068e_16 rfl rfl)))) (am_nd_ok (am_nd_ok (am_lf_ok (fun _ => ok_gsv wd_632 dJ0_charAt_5068e_17 rfl)) (am_lf_ok (fun _ => ok_iload_n dJ0_charAt_5068e_20 rfl rfl))) (am_nd_ok (am_lf_ok (fun _ => ok_csI rfl mw_J2_charAt_3b067 wd_641 wd_642 dJ0_charAt_5068e_21 rfl)) (am_lf_ok (fun _ => ok_nret rfl dJ0_charAt_5068e_24)))))
def tJ0_charAt_5068e : Nat → Option am_Act := tJ0_charAt_5068e_0
theorem gJ0_charAt_5068e : am_Good tT mJ0_charAt_5068e tJ0_charAt_5068e := gJ0_charAt_5068e_0
theorem dJ0_indexOf_0f7a4_0 : decode cJ0_indexOf_0f7a4 0 = .ok (.aload_n 0, 1) := by decide +kernel
theorem dJ0_indexOf_0f7a4_1 : decode cJ0_indexOf_0f7a4 1 = .ok (.iload_n 1, 1) := by decide +kernel
theorem dJ0_indexOf_0f7a4_2 : decode cJ0_indexOf_0f7a4 2 = .ok (.iconst 0, 1) := by decide +kernel
theorem dJ0_indexOf_0f7a4_3 : decode cJ0_indexOf_0f7a4 3 = .ok (.invokevirtual 633, 3) := by decide +kernel
theorem dJ0_indexOf_0f7a4_6 : decode cJ0_indexOf_0f7a4 6 = .ok (.ireturn, 1) := by decide +kernel
def tJ0_indexOf_0f7a4_0 : Nat → Option am_Act := am_nd 2 (am_nd 1 (am_lf 0 (a_aload 0 1)) (am_lf 1 (a_iload 1 2))) (am_nd 3 (am_lf 2 (a_const (nI 0) 3)) (am_nd 6 (am_lf 3 (a_cvS tT mJ0_indexOf_7cf53 2 6)) (am_lf 6 (a_iret))))
theorem gJ0_indexOf_0f7a4_0 : am_Good tT mJ0_indexOf_0f7a4 tJ0_indexOf_0f7a4_0 := am_nd_ok (am_nd_ok (am_lf_ok (fun _ => ok_aload_n dJ0_indexOf_0f7a4_0 rfl rfl)) (am_lf_ok (fun _ => ok_iload_n dJ0_indexOf_0f7a4_1 rfl rfl))) (am_nd_ok (am_lf_ok (fun _ => ok_iconst dJ0_indexOf_0f7a4_2 cv_iconst_0 rfl)) (am_nd_ok (am_lf_ok (fun _ => ok_cvS rfl mw_J0_indexOf_7cf53 rfl wd_643 wd_644 wd_645 dJ0_indexOf_0f7a4_3 rfl)) (am_lf_ok (fun _ => ok_iret rfl dJ0_indexOf_0f7a4_6))))
def tJ0_indexOf_0f7a4 : Nat → Option am_Act := tJ0_indexOf_0f7a4_0
theorem gJ0_indexOf_0f7a4 : am_Good tT mJ0_indexOf_0f7a4 tJ0_indexOf_0f7a4 := gJ0_indexOf_0f7a4_0
theorem dJ0_indexOf_7cf53_0 : decode cJ0_indexOf_7cf53 0 = .ok (.aload_n 0, 1) := by decide +kernel
theorem dJ0_indexOf_7cf53_1 : decode cJ0_indexOf_7cf53 1 = .ok (.invokevirtual 492, 3) := by decide +kernel
theorem dJ0_indexOf_7cf53_4 : decode cJ0_indexOf_7cf53 4 = .ok (.ifCond .eq 19, 3) := by decide +kernel
theorem dJ0_indexOf_7cf53_7 : decode cJ0_indexOf_7cf53 7 = .ok (.aload_n 0, 1) := by decide +kernel
theorem dJ0_indexOf_7cf53_8 : decode cJ0_indexOf_7cf53 8 = .ok (.getfield 9, 3) := by decide +kernel
theorem dJ0_indexOf_7cf53_11 : decode cJ0_indexOf_7cf53 11 = .ok (.iload_n 1, 1) := by decide +kernel
theorem dJ0_indexOf_7cf53_12 : decode cJ0_indexOf_7cf53 12 = .ok (.iload_n 2, 1) := by decide +kernel
theorem dJ0_indexOf_7cf53_13 : decode cJ0_indexOf_7cf53 13 = .ok (.aload_n 0, 1) := by decide +kernel
theorem dJ0_indexOf_7cf53_14 : decode cJ0_indexOf_7cf53 14 = .ok (.invokevirtual 505, 3) := by decide +kernel
theorem dJ0_indexOf_7cf53_17 : decode cJ0_indexOf_7cf53 17 = .ok (.invokestatic 637, 3) := by decide +kernel
theorem dJ0_indexOf_7cf53_20 : decode cJ0_indexOf_7cf53 20 = .ok (.goto 16, 3) := by decide +kernel
theorem dJ0_indexOf_7cf53_23 : decode cJ0_indexOf_7cf53 23 = .ok (.aload_n 0, 1) := by decide +kernel
theorem dJ0_indexOf_7cf53_24 : decode cJ0_indexOf_7cf53 24 = .ok (.getfield 9, 3) := by decide +kernel
theorem dJ0_indexOf_7cf53_27 : decode cJ0_indexOf_7cf53 27 = .ok (.iload_n 1, 1) := by decide +kernel
theorem dJ0_indexOf_7cf53_28 : decode cJ0_indexOf_7cf53 28 = .ok (.iload_n 2, 1) := by decide +kernel
theorem dJ0_indexOf_7cf53_29 : decode cJ0_indexOf_7cf53 29 = .ok (.aload_n 0, 1) := by decide +kernel
theorem dJ0_indexOf_7cf53_30 : decode cJ0_indexOf_7cf53 30 = .ok (.invokevirtual 505, 3) := by decide +kernel
theorem dJ0_indexOf_7cf53_33 : decode cJ0_indexOf_7cf53 33 = .ok (.invokestatic 640, 3) := by decide +kernel
theorem dJ0_indexOf_7cf53_36 : decode cJ0_indexOf_7cf53 36 = .ok (.ireturn, 1) := by decide +kernel
def tJ0_indexOf_7cf53_0 : Nat → Option am_Act := am_nd 17 (am_nd 8 (am_nd 4 (am_nd 1 (am_lf 0 (a_aload 0 1)) (am_lf 1 (a_cvS tT mJ0_isLatin1_aae02 0 4))) (am_nd 7 (am_lf 4 (a_if (fun x => x = nI 0) 23 7)) (am_lf 7 (a_aload 0 8)))) (am_nd 12 (am_nd 11 (am_lf 8 (a_gsv tT 11)) (am_lf 11 (a_iload 1 12))) (am_nd 13 (am_lf 12 (a_iload 2 13)) (am_nd 14 (am_lf 13 (a_aload 0 14)) (am_lf 14 (a_cvS tT mJ0_length_8abf5 0 17)))))) (am_nd 28 (am_nd 23 (am_nd 20 (am_lf 17 (a_csI mJ1_indexOf_4cfef 4 20)) (am_lf 20 (a_goto 36))) (am_nd 24 (am_lf 23 (a_aload 0 24)) (am_nd 27 (am_lf 24 (a_gsv tT 27)) (am_lf 27 (a_iload 1 28))))) (am_nd 30 (am_nd 29 (am_lf 28 (a_iload 2 29)) (am_lf 29 (a_aload 0 30))) (am_nd 33 (am_lf 30 (a_cvS tT mJ0_length_8abf5 0 33)) (am_nd 36 (am_lf 33 (a_csI mJ2_indexOf_4cfef 4 36)) (am_lf 36 (a_iret))))))
theorem gJ0_indexOf_7cf53_0 : am_Good tT mJ0_indexOf_7cf53 tJ0_indexOf_7cf53_0 := am_nd_ok (am_nd_ok (am_nd_ok (am_nd_ok (am_lf_ok (fun _ => ok_aload_n dJ0_indexOf_7cf53_0 rfl rfl)) (am_lf_ok (fun _ => ok_cvS rfl mw_J0_isLatin1_aae02 rfl wd_636 wd_637 wd_638 dJ0_indexOf_7cf53_1 rfl))) (am_nd_ok (am_lf_ok (fun _ => ok_if_eq dJ0_indexOf_7cf53_4 rfl rfl)) (am_lf_ok (fun _ => ok_aload_n dJ0_indexOf_7cf53_7 rfl rfl)))) (am_nd_ok (am_nd_ok (am_lf_ok (fun _ => ok_gsv wd_632 dJ0_indexOf_7cf53_8 rfl)) (am_lf_ok (fun _ => ok_iload_n dJ0_indexOf_7cf53_11 rfl rfl))) (am_nd_ok (am_lf_ok (fun _ => ok_iload_n dJ0_indexOf_7cf53_12 rfl rfl)) (am_nd_ok (am_lf_ok (fun _ => ok_aload_n dJ0_indexOf_7cf53_13 rfl rfl)) (am_lf_ok (fun _ => ok_cvS rfl mw_J0_length_8abf5 rfl wd_646 wd_143 wd_144 dJ0_indexOf_7cf53_14 rfl)))))) (am_nd_ok (am_nd_ok (am_nd_ok (am_lf_ok (fun _ => ok_csI rfl mw_J1_indexOf_4cfef wd_647 wd_648 dJ0_indexOf_7cf53_17 rfl)) (am_lf_ok (fun _ => ok_goto dJ0_indexOf_7cf53_20 rfl))) (am_nd_ok (am_lf_ok (fun _ => ok_aload_n dJ0_indexOf_7cf53_23 rfl rfl)) (am_nd_ok (am_lf_ok (fun _ => ok_gsv wd_632 dJ0_indexOf_7cf53_24 rfl)) (am_lf_ok (fun _ => ok_iload_n dJ0_indexOf_7cf53_27 rfl rfl))))) (am_nd_ok (am_nd_ok (am_lf_ok (fun _ => ok_iload_n dJ0_indexOf_7cf53_28 rfl rfl)) (am_lf_ok (fun _ => ok_aload_n dJ0_indexOf_7cf53_29 rfl rfl))) (am_nd_ok (am_lf_ok (fun _ => ok_cvS rfl mw_J0_length_8abf5 rfl wd_646 wd_143 wd_144 dJ0_indexOf_7cf53_30 rfl)) (am_nd_ok (am_lf_ok (fun _ => ok_csI rfl mw_J2_indexOf_4cfef wd_649 wd_650 dJ0_indexOf_7cf53_33 rfl)) (am_lf_ok (fun _ => ok_iret rfl dJ0_indexOf_7cf53_36))))))
def tJ0_indexOf_7cf53 : Nat → Option am_Act := tJ0_indexOf_7cf53_0
theorem gJ0_indexOf_7cf53 : am_Good tT mJ0_indexOf_7cf53 tJ0_indexOf_7cf53 := gJ0_indexOf_7cf53_0
theorem dJ0_coder_7d493_0 : decode cJ0_coder_7d493 0 = .ok (.getstatic 38, 3) := by decide +kernel
theorem dJ0_coder_7d493_3 : decode cJ0_coder_7d493 3 = .ok (.ifCond .eq 10, 3) := by decide +kernel
theorem dJ0_coder_7d493_6 : decode cJ0_coder_7d493 6 = .ok (.aload_n 0, 1) := by decide +kernel
theorem dJ0_coder_7d493_7 : decode cJ0_coder_7d493 7 = .ok (.getfield 15, 3) := by decide +kernel
theorem dJ0_coder_7d493_10 : decode cJ0_coder_7d493 10 = .ok (.goto 4, 3) := by decide +kernel
theorem dJ0_coder_7d493_13 : decode cJ0_coder_7d493 13 = .ok (.iconst 1, 1) := by decide +kernel
theorem dJ0_coder_7d493_14 : decode cJ0_coder_7d493 14 = .ok (.ireturn, 1) := by decide +kernel
def tJ0_coder_7d493_0 : Nat → Option am_Act := am_nd 7 (am_nd 3 (am_lf 0 (a_gst 3)) (am_nd 6 (am_lf 3 (a_if (fun x => x = nI 0) 13 6)) (am_lf 6 (a_aload 0 7)))) (am_nd 13 (am_nd 10 (am_lf 7 (a_gsc tT 10)) (am_lf 10 (a_goto 14))) (am_nd 14 (am_lf 13 (a_const (nI 1) 14)) (am_lf 14 (a_nret .byte))))
theorem gJ0_coder_7d493_0 : am_Good tT mJ0_coder_7d493 tJ0_coder_7d493_0 := am_nd_ok (am_nd_ok (am_lf_ok (fun _ => ok_gst wd_651 dJ0_coder_7d493_0 rfl)) (am_nd_ok (am_lf_ok (fun _ => ok_if_eq dJ0_coder_7d493_3 rfl rfl)) (am_lf_ok (fun _ => ok_aload_n dJ0_coder_7d493_6 rfl rfl)))) (am_nd_ok (am_nd_ok (am_lf_ok (fun _ => ok_gsc wd_652 dJ0_coder_7d493_7 rfl)) (am_lf_ok (fun _ => ok_goto dJ0_coder_7d493_10 rfl))) (am_nd_ok (am_lf_ok (fun _ => ok_iconst dJ0_coder_7d493_13 cv_iconst_1 rfl)) (am_lf_ok (fun _ => ok_nret rfl dJ0_coder_7d493_14))))
def tJ0_coder_7d493 : Nat → Option am_Act := tJ0_coder_7d493_0
theorem gJ0_coder_7d493 : am_Good tT mJ0_coder_7d493 tJ0_coder_7d493 := gJ0_coder_7d493_0
theorem dJ0_isLatin1_aae02_0 : decode cJ0_isLatin1_aae02 0 = .ok (.getstatic 38, 3) := by decide +kernel
theorem dJ0_isLatin1_aae02_3 : decode cJ0_isLatin1_aae02 3 = .ok (.ifCond .eq 14, 3) := by decide +kernel
theorem dJ0_isLatin1_aae02_6 : decode cJ0_isLatin1_aae02 6 = .ok (.aload_n 0, 1) := by decide +kernel
theorem dJ0_isLatin1_aae02_7 : decode cJ0_isLatin1_aae02 7 = .ok (.getfield 15, 3) := by decide +kernel
theorem dJ0_isLatin1_aae02_10 : decode cJ0_isLatin1_aae02 10 = .ok (.ifCond .ne 7, 3) := by decide +kernel
theorem dJ0_isLatin1_aae02_13 : decode cJ0_isLatin1_aae02 13 = .ok (.iconst 1, 1) := by decide +kernel
theorem dJ0_isLatin1_aae02_14 : decode cJ0_isLatin1_aae02 14 = .ok (.goto 4, 3) := by decide +kernel
theorem dJ0_isLatin1_aae02_17 : decode cJ0_isLatin1_aae02 17 = .ok (.iconst 0, 1) := by decide +kernel
theorem dJ0_isLatin1_aae02_18 : decode cJ0_isLatin1_aae02 18 = .ok (.ireturn, 1) := by decide +kernel
def tJ0_isLatin1_aae02_0 : Nat → Option am_Act := am_nd 10 (am_nd 6 (am_nd 3 (am_lf 0 (a_gst 3)) (am_lf 3 (a_if (fun x => x = nI 0) 17 6))) (am_nd 7 (am_lf 6 (a_aload 0 7)) (am_lf 7 (a_gsc tT 10)))) (am_nd 14 (am_nd 13 (am_lf 10 (a_if (fun x => x = nI 0) 13 17)) (am_lf 13 (a_const (nI 1) 14))) (am_nd 17 (am_lf 14 (a_goto 18)) (am_nd 18 (am_lf 17 (a_const (nI 0) 18)) (am_lf 18 (a_zret)))))
theorem gJ0_isLatin1_aae02_0 : am_Good tT mJ0_isLatin1_aae02 tJ0_isLatin1_aae02_0 := am_nd_ok (am_nd_ok (am_nd_ok (am_lf_ok (fun _ => ok_gst wd_651 dJ0_isLatin1_aae02_0 rfl)) (am_lf_ok (fun _ => ok_if_eq dJ0_isLatin1_aae02_3 rfl rfl))) (am_nd_ok (am_lf_ok (fun _ => ok_aload_n dJ0_isLatin1_aae02_6 rfl rfl)) (am_lf_ok (fun _ => ok_gsc wd_652 dJ0_isLatin1_aae02_7 rfl)))) (am_nd_ok (am_nd_ok (am_lf_ok (fun _ => ok_if_ne dJ0_isLatin1_aae02_10 rfl rfl)) (am_lf_ok (fun _ => ok_iconst dJ0_isLatin1_aae02_13 cv_iconst_1 rfl))) (am_nd_ok (am_lf_ok (fun _ => ok_goto dJ0_isLatin1_aae02_14 rfl)) (am_nd_ok (am_lf_ok (fun _ => ok_iconst dJ0_isLatin1_aae02_17 cv_iconst_0 rfl)) (am_lf_ok (fun _ => ok_zret rfl dJ0_isLatin1_aae02_18)))))
def tJ0_isLatin1_aae02 : Nat → Option am_Act := tJ0_isLatin1_aae02_0
theorem gJ0_isLatin1_aae02 : am_Good tT mJ0_isLatin1_aae02 tJ0_isLatin1_aae02 := gJ0_isLatin1_aae02_0
theorem dJ0_checkIndex_df160_0 : decode cJ0_checkIndex_df160 0 = .ok (.iload_n 0, 1) := by decide +kernel
theorem dJ0_checkIndex_df160_1 : decode cJ0_checkIndex_df160 1 = .ok (.iload_n 1, 1) := by decide +kernel
theorem dJ0_checkIndex_df160_5 : decode cJ0_checkIndex_df160 5 = .ok (.invokestatic 1059, 3) := by decide +kernel
theorem dJ0_checkIndex_df160_8 : decode cJ0_checkIndex_df160 8 = .ok (.pop, 1) := by decide +kernel
theorem dJ0_checkIndex_df160_9 : decode cJ0_checkIndex_df160 9 = .ok (.return_, 1) := by decide +kernel
def tJ0_checkIndex_df160_0 : Nat → Option am_Act := am_nd 5 (am_nd 1 (am_lf 0 (a_iload 0 1)) (am_lf 1 (a_iload 1 2))) (am_nd 8 (am_lf 5 (a_csI mJ3_checkIndex_8e157 3 8)) (am_nd 9 (am_lf 8 (a_pop 9)) (am_lf 9 (a_ret))))
theorem gJ0_checkIndex_df160_0 : am_Good tT mJ0_checkIndex_df160 tJ0_checkIndex_df160_0 := am_nd_ok (am_nd_ok (am_lf_ok (fun _ => ok_iload_n dJ0_checkIndex_df160_0 rfl rfl)) (am_lf_ok (fun _ => ok_iload_n dJ0_checkIndex_df160_1 rfl rfl))) (am_nd_ok (am_lf_ok (fun _ => ok_csI rfl mw_J3_checkIndex_8e157 wd_653 wd_654 dJ0_checkIndex_df160_5 rfl)) (am_nd_ok (am_lf_ok (fun _ => ok_pop dJ0_checkIndex_df160_8 rfl)) (am_lf_ok (fun _ => ok_ret rfl dJ0_checkIndex_df160_9))))
def tJ0_checkIndex_df160 : Nat → Option am_Act := tJ0_checkIndex_df160_0
theorem gJ0_checkIndex_df160 : am_Good tT mJ0_checkIndex_df160 tJ0_checkIndex_df160 := gJ0_checkIndex_df160_0
theorem dJ0_checkBoundsBeginEnd_23922_0 : decode cJ0_checkBoundsBeginEnd_23922 0 = .ok (.iload_n 0, 1) := by decide +kernel
theorem dJ0_checkBoundsBeginEnd_23922_1 : decode cJ0_checkBoundsBeginEnd_23922 1 = .ok (.iload_n 1, 1) := by decide +kernel
theorem dJ0_checkBoundsBeginEnd_23922_2 : decode cJ0_checkBoundsBeginEnd_23922 2 = .ok (.iload_n 2, 1) := by decide +kernel
theorem dJ0_checkBoundsBeginEnd_23922_6 : decode cJ0_checkBoundsBeginEnd_23922 6 = .ok (.invokestatic 1062, 3) := by decide +kernel
theorem dJ0_checkBoundsBeginEnd_23922_9 : decode cJ0_checkBoundsBeginEnd_23922 9 = .ok (.pop, 1) := by decide +kernel
theorem dJ0_checkBoundsBeginEnd_23922_10 : decode cJ0_checkBoundsBeginEnd_23922 10 = .ok (.return_, 1) := by decide +kernel
def tJ0_checkBoundsBeginEnd_23922_0 : Nat → Option am_Act := am_nd 6 (am_nd 1 (am_lf 0 (a_iload 0 1)) (am_nd 2 (am_lf 1 (a_iload 1 2)) (am_lf 2 (a_iload 2 3)))) (am_nd 9 (am_lf 6 (a_csI mJ3_checkFromToIndex_8c36e 4 9)) (am_nd 10 (am_lf 9 (a_pop 10)) (am_lf 10 (a_ret))))
theorem gJ0_checkBoundsBeginEnd_23922_0 : am_Good tT mJ0_checkBoundsBeginEnd_23922 tJ0_checkBoundsBeginEnd_23922_0 := am_nd_ok (am_nd_ok (am_lf_ok (fun _ => ok_iload_n dJ0_checkBoundsBeginEnd_23922_0 rfl rfl)) (am_nd_ok (am_lf_ok (fun _ => ok_iload_n dJ0_checkBoundsBeginEnd_23922_1 rfl rfl)) (am_lf_ok (fun _ => ok_iload_n dJ0_checkBoundsBeginEnd_23922_2 rfl rfl)))) (am_nd_ok (am_lf_ok (fun _ => ok_csI rfl mw_J3_checkFromToIndex_8c36e wd_655 wd_656 dJ0_checkBoundsBeginEnd_23922_6 rfl)) (am_nd_ok (am_lf_ok (fun _ => ok_pop dJ0_checkBoundsBeginEnd_23922_9 rfl)) (am_lf_ok (fun _ => ok_ret rfl dJ0_checkBoundsBeginEnd_23922_10))))
def tJ0_checkBoundsBeginEnd_23922 : Nat → Option am_Act := tJ0_checkBoundsBeginEnd_23922_0
theorem gJ0_checkBoundsBeginEnd_23922 : am_Good tT mJ0_checkBoundsBeginEnd_23922 tJ0_checkBoundsBeginEnd_23922 := gJ0_checkBoundsBeginEnd_23922_0
