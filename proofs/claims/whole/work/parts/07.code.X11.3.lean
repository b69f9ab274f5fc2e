/-! ===== code of TollOfNames ===== -/
theorem dX11_within_0 : decode cX11_within 0 = .ok (.iload_n 0, 1) := by decide +kernel
theorem dX11_within_1 : decode cX11_within 1 = .ok (.iload_n 1, 1) := by decide +kernel
theorem dX11_within_2 : decode cX11_within 2 = .ok (.if_icmp .lt 12, 3) := by decide +kernel
theorem dX11_within_5 : decode cX11_within 5 = .ok (.iload_n 0, 1) := by decide +kernel
theorem dX11_within_6 : decode cX11_within 6 = .ok (.iload_n 2, 1) := by decide +kernel
theorem dX11_within_7 : decode cX11_within 7 = .ok (.if_icmp .gt 7, 3) := by decide +kernel
theorem dX11_within_10 : decode cX11_within 10 = .ok (.iconst 1, 1) := by decide +kernel
theorem dX11_within_11 : decode cX11_within 11 = .ok (.goto 4, 3) := by decide +kernel
theorem dX11_within_14 : decode cX11_within 14 = .ok (.iconst 0, 1) := by decide +kernel
theorem dX11_within_15 : decode cX11_within 15 = .ok (.ireturn, 1) := by decide +kernel
def tX11_within_0 : Nat → Option am_Act := am_nd 7 (am_nd 2 (am_nd 1 (am_lf 0 (a_iload 0 1)) (am_lf 1 (a_iload 1 2))) (am_nd 5 (am_lf 2 (a_cmp (fun x y => x < y) 14 5)) (am_nd 6 (am_lf 5 (a_iload 0 6)) (am_lf 6 (a_iload 2 7))))) (am_nd 11 (am_nd 10 (am_lf 7 (a_cmp (fun x y => y < x) 14 10)) (am_lf 10 (a_const (nI 1) 11))) (am_nd 14 (am_lf 11 (a_goto 15)) (am_nd 15 (am_lf 14 (a_const (nI 0) 15)) (am_lf 15 (a_zret)))))
theorem gX11_within_0 : am_Good tT mX11_within tX11_within_0 := am_nd_ok (am_nd_ok (am_nd_ok (am_lf_ok (fun _ => ok_iload_n dX11_within_0 rfl rfl)) (am_lf_ok (fun _ => ok_iload_n dX11_within_1 rfl rfl))) (am_nd_ok (am_lf_ok (fun _ => ok_cmp_lt dX11_within_2 rfl rfl)) (am_nd_ok (am_lf_ok (fun _ => ok_iload_n dX11_within_5 rfl rfl)) (am_lf_ok (fun _ => ok_iload_n dX11_within_6 rfl rfl))))) (am_nd_ok (am_nd_ok (am_lf_ok (fun _ => ok_cmp_gt dX11_within_7 rfl rfl)) (am_lf_ok (fun _ => ok_iconst dX11_within_10 cv_iconst_1 rfl))) (am_nd_ok (am_lf_ok (fun _ => ok_goto dX11_within_11 rfl)) (am_nd_ok (am_lf_ok (fun _ => ok_iconst dX11_within_14 cv_iconst_0 rfl)) (am_lf_ok (fun _ => ok_zret rfl dX11_within_15)))))
def tX11_within : Nat → Option am_Act := tX11_within_0
theorem gX11_within : am_Good tT mX11_within tX11_within := gX11_within_0
theorem dX11_isPlace_0 : decode cX11_isPlace 0 = .ok (.iload_n 0, 1) := by decide +kernel
theorem dX11_isPlace_1 : decode cX11_isPlace 1 = .ok (.iconst 0, 1) := by decide +kernel
theorem dX11_isPlace_2 : decode cX11_isPlace 2 = .ok (.bipush 7, 2) := by decide +kernel
theorem dX11_isPlace_4 : decode cX11_isPlace 4 = .ok (.invokestatic 82, 3) := by decide +kernel
theorem dX11_isPlace_7 : decode cX11_isPlace 7 = .ok (.ireturn, 1) := by decide +kernel
def tX11_isPlace_0 : Nat → Option am_Act := am_nd 2 (am_nd 1 (am_lf 0 (a_iload 0 1)) (am_lf 1 (a_const (nI 0) 2))) (am_nd 4 (am_lf 2 (a_const (nI 7) 4)) (am_nd 7 (am_lf 4 (a_csI mX11_within 3 7)) (am_lf 7 (a_zret))))
theorem gX11_isPlace_0 : am_Good tT mX11_isPlace tX11_isPlace_0 := am_nd_ok (am_nd_ok (am_lf_ok (fun _ => ok_iload_n dX11_isPlace_0 rfl rfl)) (am_lf_ok (fun _ => ok_iconst dX11_isPlace_1 cv_iconst_0 rfl))) (am_nd_ok (am_lf_ok (fun _ => ok_bipush dX11_isPlace_2 cv_bipush_7 rfl)) (am_nd_ok (am_lf_ok (fun _ => ok_csI rfl mw_X11_within wd_297 wd_120 dX11_isPlace_4 rfl)) (am_lf_ok (fun _ => ok_zret rfl dX11_isPlace_7))))
def tX11_isPlace : Nat → Option am_Act := tX11_isPlace_0
theorem gX11_isPlace : am_Good tT mX11_isPlace tX11_isPlace := gX11_isPlace_0
theorem dX11_isPart_0 : decode cX11_isPart 0 = .ok (.iload_n 0, 1) := by decide +kernel
theorem dX11_isPart_1 : decode cX11_isPart 1 = .ok (.bipush 10, 2) := by decide +kernel
theorem dX11_isPart_3 : decode cX11_isPart 3 = .ok (.bipush 10, 2) := by decide +kernel
theorem dX11_isPart_5 : decode cX11_isPart 5 = .ok (.iload_n 1, 1) := by decide +kernel
theorem dX11_isPart_6 : decode cX11_isPart 6 = .ok (.iadd, 1) := by decide +kernel
theorem dX11_isPart_7 : decode cX11_isPart 7 = .ok (.iconst 1, 1) := by decide +kernel
theorem dX11_isPart_8 : decode cX11_isPart 8 = .ok (.isub, 1) := by decide +kernel
theorem dX11_isPart_9 : decode cX11_isPart 9 = .ok (.invokestatic 82, 3) := by decide +kernel
theorem dX11_isPart_12 : decode cX11_isPart 12 = .ok (.ireturn, 1) := by decide +kernel
def tX11_isPart_0 : Nat → Option am_Act := am_nd 6 (am_nd 3 (am_nd 1 (am_lf 0 (a_iload 0 1)) (am_lf 1 (a_const (nI 10) 3))) (am_nd 5 (am_lf 3 (a_const (nI 10) 5)) (am_lf 5 (a_iload 1 6)))) (am_nd 8 (am_nd 7 (am_lf 6 (a_bin (fun x y => x + y) 7)) (am_lf 7 (a_const (nI 1) 8))) (am_nd 9 (am_lf 8 (a_bin (fun x y => x - y) 9)) (am_nd 12 (am_lf 9 (a_csI mX11_within 3 12)) (am_lf 12 (a_zret)))))
theorem gX11_isPart_0 : am_Good tT mX11_isPart tX11_isPart_0 := am_nd_ok (am_nd_ok (am_nd_ok (am_lf_ok (fun _ => ok_iload_n dX11_isPart_0 rfl rfl)) (am_lf_ok (fun _ => ok_bipush dX11_isPart_1 cv_bipush_10 rfl))) (am_nd_ok (am_lf_ok (fun _ => ok_bipush dX11_isPart_3 cv_bipush_10 rfl)) (am_lf_ok (fun _ => ok_iload_n dX11_isPart_5 rfl rfl)))) (am_nd_ok (am_nd_ok (am_lf_ok (fun _ => ok_iadd dX11_isPart_6 rfl)) (am_lf_ok (fun _ => ok_iconst dX11_isPart_7 cv_iconst_1 rfl))) (am_nd_ok (am_lf_ok (fun _ => ok_isub dX11_isPart_8 rfl)) (am_nd_ok (am_lf_ok (fun _ => ok_csI rfl mw_X11_within wd_297 wd_120 dX11_isPart_9 rfl)) (am_lf_ok (fun _ => ok_zret rfl dX11_isPart_12)))))
def tX11_isPart : Nat → Option am_Act := tX11_isPart_0
theorem gX11_isPart : am_Good tT mX11_isPart tX11_isPart := gX11_isPart_0
theorem dX11_isFact_0 : decode cX11_isFact 0 = .ok (.iload_n 0, 1) := by decide +kernel
theorem dX11_isFact_1 : decode cX11_isFact 1 = .ok (.sipush 10006, 3) := by decide +kernel
theorem dX11_isFact_4 : decode cX11_isFact 4 = .ok (.if_icmp .lt 14, 3) := by decide +kernel
theorem dX11_isFact_7 : decode cX11_isFact 7 = .ok (.iload_n 0, 1) := by decide +kernel
theorem dX11_isFact_8 : decode cX11_isFact 8 = .ok (.sipush 10014, 3) := by decide +kernel
theorem dX11_isFact_11 : decode cX11_isFact 11 = .ok (.if_icmp .ge 7, 3) := by decide +kernel
theorem dX11_isFact_14 : decode cX11_isFact 14 = .ok (.iconst 1, 1) := by decide +kernel
theorem dX11_isFact_15 : decode cX11_isFact 15 = .ok (.goto 4, 3) := by decide +kernel
theorem dX11_isFact_18 : decode cX11_isFact 18 = .ok (.iconst 0, 1) := by decide +kernel
theorem dX11_isFact_19 : decode cX11_isFact 19 = .ok (.ireturn, 1) := by decide +kernel
def tX11_isFact_0 : Nat → Option am_Act := am_nd 11 (am_nd 4 (am_nd 1 (am_lf 0 (a_iload 0 1)) (am_lf 1 (a_const (nI 10006) 4))) (am_nd 7 (am_lf 4 (a_cmp (fun x y => x < y) 18 7)) (am_nd 8 (am_lf 7 (a_iload 0 8)) (am_lf 8 (a_const (nI 10014) 11))))) (am_nd 15 (am_nd 14 (am_lf 11 (a_cmp (fun x y => y ≤ x) 18 14)) (am_lf 14 (a_const (nI 1) 15))) (am_nd 18 (am_lf 15 (a_goto 19)) (am_nd 19 (am_lf 18 (a_const (nI 0) 19)) (am_lf 19 (a_zret)))))
theorem gX11_isFact_0 : am_Good tT mX11_isFact tX11_isFact_0 := am_nd_ok (am_nd_ok (am_nd_ok (am_lf_ok (fun _ => ok_iload_n dX11_isFact_0 rfl rfl)) (am_lf_ok (fun _ => ok_sipush dX11_isFact_1 cv_sipush_10006 rfl))) (am_nd_ok (am_lf_ok (fun _ => ok_cmp_lt dX11_isFact_4 rfl rfl)) (am_nd_ok (am_lf_ok (fun _ => ok_iload_n dX11_isFact_7 rfl rfl)) (am_lf_ok (fun _ => ok_sipush dX11_isFact_8 cv_sipush_10014 rfl))))) (am_nd_ok (am_nd_ok (am_lf_ok (fun _ => ok_cmp_ge dX11_isFact_11 rfl rfl)) (am_lf_ok (fun _ => ok_iconst dX11_isFact_14 cv_iconst_1 rfl))) (am_nd_ok (am_lf_ok (fun _ => ok_goto dX11_isFact_15 rfl)) (am_nd_ok (am_lf_ok (fun _ => ok_iconst dX11_isFact_18 cv_iconst_0 rfl)) (am_lf_ok (fun _ => ok_zret rfl dX11_isFact_19)))))
def tX11_isFact : Nat → Option am_Act := tX11_isFact_0
theorem gX11_isFact : am_Good tT mX11_isFact tX11_isFact := gX11_isFact_0
