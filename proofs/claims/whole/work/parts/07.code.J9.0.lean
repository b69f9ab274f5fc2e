/-! ===== code of java/lang/Math ===== -/
theorem dJ9_max_7cf53_0 : decode cJ9_max_7cf53 0 = .ok (.iload_n 0, 1) := by decide +kernel
theorem dJ9_max_7cf53_1 : decode cJ9_max_7cf53 1 = .ok (.iload_n 1, 1) := by decide +kernel
theorem dJ9_max_7cf53_2 : decode cJ9_max_7cf53 2 = .ok (.if_icmp .lt 7, 3) := by decide +kernel
theorem dJ9_max_7cf53_5 : decode cJ9_max_7cf53 5 = .ok (.iload_n 0, 1) := by decide +kernel
theorem dJ9_max_7cf53_6 : decode cJ9_max_7cf53 6 = .ok (.goto 4, 3) := by decide +kernel
theorem dJ9_max_7cf53_9 : decode cJ9_max_7cf53 9 = .ok (.iload_n 1, 1) := by decide +kernel
theorem dJ9_max_7cf53_10 : decode cJ9_max_7cf53 10 = .ok (.ireturn, 1) := by decide +kernel
def tJ9_max_7cf53_0 : Nat → Option am_Act := am_nd 5 (am_nd 1 (am_lf 0 (a_iload 0 1)) (am_nd 2 (am_lf 1 (a_iload 1 2)) (am_lf 2 (a_cmp (fun x y => x < y) 9 5)))) (am_nd 9 (am_nd 6 (am_lf 5 (a_iload 0 6)) (am_lf 6 (a_goto 10))) (am_nd 10 (am_lf 9 (a_iload 1 10)) (am_lf 10 (a_iret))))
theorem gJ9_max_7cf53_0 : am_Good tT mJ9_max_7cf53 tJ9_max_7cf53_0 := am_nd_ok (am_nd_ok (am_lf_ok (fun _ => ok_iload_n dJ9_max_7cf53_0 rfl rfl)) (am_nd_ok (am_lf_ok (fun _ => ok_iload_n dJ9_max_7cf53_1 rfl rfl)) (am_lf_ok (fun _ => ok_cmp_lt dJ9_max_7cf53_2 rfl rfl)))) (am_nd_ok (am_nd_ok (am_lf_ok (fun _ => ok_iload_n dJ9_max_7cf53_5 rfl rfl)) (am_lf_ok (fun _ => ok_goto dJ9_max_7cf53_6 rfl))) (am_nd_ok (am_lf_ok (fun _ => ok_iload_n dJ9_max_7cf53_9 rfl rfl)) (am_lf_ok (fun _ => ok_iret rfl dJ9_max_7cf53_10))))
def tJ9_max_7cf53 : Nat → Option am_Act := tJ9_max_7cf53_0
theorem gJ9_max_7cf53 : am_Good tT mJ9_max_7cf53 tJ9_max_7cf53 := gJ9_max_7cf53_0
theorem dJ9_min_7cf53_0 : decode cJ9_min_7cf53 0 = .ok (.iload_n 0, 1) := by decide +kernel
theorem dJ9_min_7cf53_1 : decode cJ9_min_7cf53 1 = .ok (.iload_n 1, 1) := by decide +kernel
theorem dJ9_min_7cf53_2 : decode cJ9_min_7cf53 2 = .ok (.if_icmp .gt 7, 3) := by decide +kernel
theorem dJ9_min_7cf53_5 : decode cJ9_min_7cf53 5 = .ok (.iload_n 0, 1) := by decide +kernel
theorem dJ9_min_7cf53_6 : decode cJ9_min_7cf53 6 = .ok (.goto 4, 3) := by decide +kernel
theorem dJ9_min_7cf53_9 : decode cJ9_min_7cf53 9 = .ok (.iload_n 1, 1) := by decide +kernel
theorem dJ9_min_7cf53_10 : decode cJ9_min_7cf53 10 = .ok (.ireturn, 1) := by decide +kernel
def tJ9_min_7cf53_0 : Nat → Option am_Act := am_nd 5 (am_nd 1 (am_lf 0 (a_iload 0 1)) (am_nd 2 (am_lf 1 (a_iload 1 2)) (am_lf 2 (a_cmp (fun x y => y < x) 9 5)))) (am_nd 9 (am_nd 6 (am_lf 5 (a_iload 0 6)) (am_lf 6 (a_goto 10))) (am_nd 10 (am_lf 9 (a_iload 1 10)) (am_lf 10 (a_iret))))
theorem gJ9_min_7cf53_0 : am_Good tT mJ9_min_7cf53 tJ9_min_7cf53_0 := am_nd_ok (am_nd_ok (am_lf_ok (fun _ => ok_iload_n dJ9_min_7cf53_0 rfl rfl)) (am_nd_ok (am_lf_ok (fun _ => ok_iload_n dJ9_min_7cf53_1 rfl rfl)) (am_lf_ok (fun _ => ok_cmp_gt dJ9_min_7cf53_2 rfl rfl)))) (am_nd_ok (am_nd_ok (am_lf_ok (fun _ => ok_iload_n dJ9_min_7cf53_5 rfl rfl)) (am_lf_ok (fun _ => ok_goto dJ9_min_7cf53_6 rfl))) (am_nd_ok (am_lf_ok (fun _ => ok_iload_n dJ9_min_7cf53_9 rfl rfl)) (am_lf_ok (fun _ => ok_iret rfl dJ9_min_7cf53_10))))
def tJ9_min_7cf53 : Nat → Option am_Act := tJ9_min_7cf53_0
theorem gJ9_min_7cf53 : am_Good tT mJ9_min_7cf53 tJ9_min_7cf53 := gJ9_min_7cf53_0
