/-! ===== code of TollOfNames ===== -/
theorem dX11_of_0 : decode cX11_of 0 = .ok (.aload_n 0, 1) := by decide +kernel
theorem dX11_of_1 : decode cX11_of 1 = .ok (.getfield 22, 3) := by decide +kernel
theorem dX11_of_4 : decode cX11_of 4 = .ok (.iload_n 1, 1) := by decide +kernel
theorem dX11_of_5 : decode cX11_of 5 = .ok (.invokevirtual 124, 3) := by decide +kernel
theorem dX11_of_8 : decode cX11_of 8 = .ok (.ifCond .ne 5, 3) := by decide +kernel
theorem dX11_of_11 : decode cX11_of 11 = .ok (.iconst (-1), 1) := by decide +kernel
theorem dX11_of_12 : decode cX11_of 12 = .ok (.ireturn, 1) := by decide +kernel
theorem dX11_of_13 : decode cX11_of 13 = .ok (.aload_n 0, 1) := by decide +kernel
theorem dX11_of_14 : decode cX11_of 14 = .ok (.getfield 22, 3) := by decide +kernel
theorem dX11_of_17 : decode cX11_of 17 = .ok (.getfield 103, 3) := by decide +kernel
theorem dX11_of_20 : decode cX11_of 20 = .ok (.astore_n 3, 1) := by decide +kernel
theorem dX11_of_21 : decode cX11_of 21 = .ok (.iload_n 2, 1) := by decide +kernel
theorem dX11_of_22 : decode cX11_of 22 = .ok (.tableswitch 93 0 6 #[42, 49, 56, 63, 72, 79, 86], 42) := by decide +kernel
theorem dX11_of_64 : decode cX11_of 64 = .ok (.aload_n 3, 1) := by decide +kernel
theorem dX11_of_65 : decode cX11_of 65 = .ok (.getfield 215, 3) := by decide +kernel
theorem dX11_of_68 : decode cX11_of 68 = .ok (.iload_n 1, 1) := by decide +kernel
theorem dX11_of_69 : decode cX11_of 69 = .ok (.iaload, 1) := by decide +kernel
theorem dX11_of_70 : decode cX11_of 70 = .ok (.ireturn, 1) := by decide +kernel
theorem dX11_of_71 : decode cX11_of 71 = .ok (.aload_n 3, 1) := by decide +kernel
theorem dX11_of_72 : decode cX11_of 72 = .ok (.getfield 218, 3) := by decide +kernel
theorem dX11_of_75 : decode cX11_of 75 = .ok (.iload_n 1, 1) := by decide +kernel
theorem dX11_of_76 : decode cX11_of 76 = .ok (.iaload, 1) := by decide +kernel
theorem dX11_of_77 : decode cX11_of 77 = .ok (.ireturn, 1) := by decide +kernel
theorem dX11_of_78 : decode cX11_of 78 = .ok (.aload_n 3, 1) := by decide +kernel
theorem dX11_of_79 : decode cX11_of 79 = .ok (.getfield 221, 3) := by decide +kernel
theorem dX11_of_82 : decode cX11_of 82 = .ok (.iload_n 1, 1) := by decide +kernel
theorem dX11_of_83 : decode cX11_of 83 = .ok (.iaload, 1) := by decide +kernel
theorem dX11_of_84 : decode cX11_of 84 = .ok (.ireturn, 1) := by decide +kernel
theorem dX11_of_85 : decode cX11_of 85 = .ok (.aload_n 0, 1) := by decide +kernel
theorem dX11_of_86 : decode cX11_of 86 = .ok (.getfield 22, 3) := by decide +kernel
theorem dX11_of_89 : decode cX11_of 89 = .ok (.iload_n 1, 1) := by decide +kernel
theorem dX11_of_90 : decode cX11_of 90 = .ok (.invokevirtual 224, 3) := by decide +kernel
theorem dX11_of_93 : decode cX11_of 93 = .ok (.ireturn, 1) := by decide +kernel
theorem dX11_of_94 : decode cX11_of 94 = .ok (.aload_n 3, 1) := by decide +kernel
theorem dX11_of_95 : decode cX11_of 95 = .ok (.getfield 138, 3) := by decide +kernel
theorem dX11_of_98 : decode cX11_of 98 = .ok (.iload_n 1, 1) := by decide +kernel
theorem dX11_of_99 : decode cX11_of 99 = .ok (.iaload, 1) := by decide +kernel
theorem dX11_of_100 : decode cX11_of 100 = .ok (.ireturn, 1) := by decide +kernel
theorem dX11_of_101 : decode cX11_of 101 = .ok (.aload_n 3, 1) := by decide +kernel
theorem dX11_of_102 : decode cX11_of 102 = .ok (.getfield 189, 3) := by decide +kernel
theorem dX11_of_105 : decode cX11_of 105 = .ok (.iload_n 1, 1) := by decide +kernel
theorem dX11_of_106 : decode cX11_of 106 = .ok (.iaload, 1) := by decide +kernel
theorem dX11_of_107 : decode cX11_of 107 = .ok (.ireturn, 1) := by decide +kernel
theorem dX11_of_108 : decode cX11_of 108 = .ok (.aload_n 3, 1) := by decide +kernel
theorem dX11_of_109 : decode cX11_of 109 = .ok (.getfield 228, 3) := by decide +kernel
theorem dX11_of_112 : decode cX11_of 112 = .ok (.iload_n 1, 1) := by decide +kernel
theorem dX11_of_113 : decode cX11_of 113 = .ok (.iaload, 1) := by decide +kernel
theorem dX11_of_114 : decode cX11_of 114 = .ok (.ireturn, 1) := by decide +kernel
theorem dX11_of_115 : decode cX11_of 115 = .ok (.iload_n 2, 1) := by decide +kernel
theorem dX11_of_116 : decode cX11_of 116 = .ok (.aload_n 3, 1) := by decide +kernel
theorem dX11_of_117 : decode cX11_of 117 = .ok (.getfield 221, 3) := by decide +kernel
theorem dX11_of_120 : decode cX11_of 120 = .ok (.iload_n 1, 1) := by decide +kernel
theorem dX11_of_121 : decode cX11_of 121 = .ok (.iaload, 1) := by decide +kernel
theorem dX11_of_122 : decode cX11_of 122 = .ok (.invokestatic 231, 3) := by decide +kernel
theorem dX11_of_125 : decode cX11_of 125 = .ok (.ifCond .eq 15, 3) := by decide +kernel
theorem dX11_of_128 : decode cX11_of 128 = .ok (.aload_n 3, 1) := by decide +kernel
theorem dX11_of_129 : decode cX11_of 129 = .ok (.iload_n 1, 1) := by decide +kernel
theorem dX11_of_130 : decode cX11_of 130 = .ok (.iload_n 2, 1) := by decide +kernel
theorem dX11_of_131 : decode cX11_of 131 = .ok (.bipush 10, 2) := by decide +kernel
theorem dX11_of_133 : decode cX11_of 133 = .ok (.isub, 1) := by decide +kernel
theorem dX11_of_134 : decode cX11_of 134 = .ok (.invokevirtual 234, 3) := by decide +kernel
theorem dX11_of_137 : decode cX11_of 137 = .ok (.goto 4, 3) := by decide +kernel
theorem dX11_of_140 : decode cX11_of 140 = .ok (.iconst (-1), 1) := by decide +kernel
theorem dX11_of_141 : decode cX11_of 141 = .ok (.ireturn, 1) := by decide +kernel
def tX11_of_0 : Nat → Option am_Act := am_nd 22 (am_nd 12 (am_nd 5 (am_nd 1 (am_lf 0 (a_aload 0 1)) (am_nd 4 (am_lf 1 (a_get tT 11 0 4)) (am_lf 4 (a_iload 1 5)))) (am_nd 8 (am_lf 5 (a_cvI tT mX10_isPerson 10 1 8)) (am_nd 11 (am_lf 8 (a_if (fun x => x = nI 0) 11 13)) (am_lf 11 (a_const (-1) 12))))) (am_nd 17 (am_nd 13 (am_lf 12 (a_iret)) (am_nd 14 (am_lf 13 (a_aload 0 14)) (am_lf 14 (a_get tT 11 0 17)))) (am_nd 20 (am_lf 17 (a_get tT 10 11 20)) (am_nd 21 (am_lf 20 (a_astore 3 21)) (am_lf 21 (a_iload 2 22)))))) (am_nd 71 (am_nd 68 (am_nd 64 (am_lf 22 (a_sw [(nI 0, 64), (nI 1, 71), (nI 2, 78), (nI 3, 85), (nI 4, 94), (nI 5, 101), (nI 6, 108)] 115)) (am_nd 65 (am_lf 64 (a_aload 3 65)) (am_lf 65 (a_get tT 5 1 68)))) (am_nd 69 (am_lf 68 (a_iload 1 69)) (am_nd 70 (am_lf 69 (a_iald tT 70)) (am_lf 70 (a_iret))))) (am_nd 76 (am_nd 72 (am_lf 71 (a_aload 3 72)) (am_nd 75 (am_lf 72 (a_get tT 5 2 75)) (am_lf 75 (a_iload 1 76)))) (am_nd 77 (am_lf 76 (a_iald tT 77)) (am_nd 78 (am_lf 77 (a_iret)) (am_lf 78 (a_aload 3 79))))))
theorem gX11_of_0 : am_Good tT mX11_of tX11_of_0 := am_nd_ok (am_nd_ok (am_nd_ok (am_nd_ok (am_lf_ok (fun _ => ok_aload_n dX11_of_0 rfl rfl)) (am_nd_ok (am_lf_ok (fun _ => ok_get (C := RX11) (TT := TX11) (N := 10) rfl inw_X11 (Nat.le_of_ble_eq_true rfl) wd_295 dX11_of_1 rfl)) (am_lf_ok (fun _ => ok_iload_n dX11_of_4 rfl rfl)))) (am_nd_ok (am_lf_ok (fun _ => ok_cvI rfl mw_X10_isPerson (ci := 10) rfl rfl wd_317 wd_318 wd_319 dX11_of_5 rfl)) (am_nd_ok (am_lf_ok (fun _ => ok_if_ne dX11_of_8 rfl rfl)) (am_lf_ok (fun _ => ok_iconst dX11_of_11 cv_iconst_m1 rfl))))) (am_nd_ok (am_nd_ok (am_lf_ok (fun _ => ok_iret rfl dX11_of_12)) (am_nd_ok (am_lf_ok (fun _ => ok_aload_n dX11_of_13 rfl rfl)) (am_lf_ok (fun _ => ok_get (C := RX11) (TT := TX11) (N := 10) rfl inw_X11 (Nat.le_of_ble_eq_true rfl) wd_295 dX11_of_14 rfl)))) (am_nd_ok (am_lf_ok (fun _ => ok_get (C := RX10) (TT := TX10) (N := 14) rfl inw_X10 (Nat.le_of_ble_eq_true rfl) wd_307 dX11_of_17 rfl)) (am_nd_ok (am_lf_ok (fun _ => ok_astore_n dX11_of_20 rfl (Nat.le_of_ble_eq_true rfl) rfl)) (am_lf_ok (fun _ => ok_iload_n dX11_of_21 rfl rfl)))))) (am_nd_ok (am_nd_ok (am_nd_ok (am_lf_ok (fun _ => ok_tsw dX11_of_22 rfl (by decide +kernel) (by decide +kernel))) (am_nd_ok (am_lf_ok (fun _ => ok_aload_n dX11_of_64 rfl rfl)) (am_lf_ok (fun _ => ok_get (C := RX5) (TT := TX5) (N := 8) rfl inw_X5 (Nat.le_of_ble_eq_true rfl) wd_368 dX11_of_65 rfl)))) (am_nd_ok (am_lf_ok (fun _ => ok_iload_n dX11_of_68 rfl rfl)) (am_nd_ok (am_lf_ok (fun _ => ok_iald dX11_of_69 rfl)) (am_lf_ok (fun _ => ok_iret rfl dX11_of_70))))) (am_nd_ok (am_nd_ok (am_lf_ok (fun _ => ok_aload_n dX11_of_71 rfl rfl)) (am_nd_ok (am_lf_ok (fun _ => ok_get (C := RX5) (TT := TX5) (N := 8) rfl inw_X5 (Nat.le_of_ble_eq_true rfl) wd_369 dX11_of_72 rfl)) (am_lf_ok (fun _ => ok_iload_n dX11_of_75 rfl rfl)))) (am_nd_ok (am_lf_ok (fun _ => ok_iald dX11_of_76 rfl)) (am_nd_ok (am_lf_ok (fun _ => ok_iret rfl dX11_of_77)) (am_lf_ok (fun _ => ok_aload_n dX11_of_78 rfl rfl))))))
def tX11_of_1 : Nat → Option am_Act := am_nd 99 (am_nd 89 (am_nd 84 (am_nd 82 (am_lf 79 (a_get tT 5 6 82)) (am_nd 83 (am_lf 82 (a_iload 1 83)) (am_lf 83 (a_iald tT 84)))) (am_nd 85 (am_lf 84 (a_iret)) (am_nd 86 (am_lf 85 (a_aload 0 86)) (am_lf 86 (a_get tT 11 0 89))))) (am_nd 94 (am_nd 90 (am_lf 89 (a_iload 1 90)) (am_nd 93 (am_lf 90 (a_cvI tT mX10_lettersOf 10 1 93)) (am_lf 93 (a_iret)))) (am_nd 95 (am_lf 94 (a_aload 3 95)) (am_nd 98 (am_lf 95 (a_get tT 5 3 98)) (am_lf 98 (a_iload 1 99)))))) (am_nd 107 (am_nd 102 (am_nd 100 (am_lf 99 (a_iald tT 100)) (am_nd 101 (am_lf 100 (a_iret)) (am_lf 101 (a_aload 3 102)))) (am_nd 105 (am_lf 102 (a_get tT 5 4 105)) (am_nd 106 (am_lf 105 (a_iload 1 106)) (am_lf 106 (a_iald tT 107))))) (am_nd 112 (am_nd 108 (am_lf 107 (a_iret)) (am_nd 109 (am_lf 108 (a_aload 3 109)) (am_lf 109 (a_get tT 5 5 112)))) (am_nd 113 (am_lf 112 (a_iload 1 113)) (am_nd 114 (am_lf 113 (a_iald tT 114)) (am_lf 114 (a_iret))))))
theorem gX11_of_1 : am_Good tT mX11_of tX11_of_1 := am_nd_ok (am_nd_ok (am_nd_ok (am_nd_ok (am_lf_ok (fun _ => ok_get (C := RX5) (TT := TX5) (N := 8) rfl inw_X5 (Nat.le_of_ble_eq_true rfl) wd_370 dX11_of_79 rfl)) (am_nd_ok (am_lf_ok (fun _ => ok_iload_n dX11_of_82 rfl rfl)) (am_lf_ok (fun _ => ok_iald dX11_of_83 rfl)))) (am_nd_ok (am_lf_ok (fun _ => ok_iret rfl dX11_of_84)) (am_nd_ok (am_lf_ok (fun _ => ok_aload_n dX11_of_85 rfl rfl)) (am_lf_ok (fun _ => ok_get (C := RX11) (TT := TX11) (N := 10) rfl inw_X11 (Nat.le_of_ble_eq_true rfl) wd_295 dX11_of_86 rfl))))) (am_nd_ok (am_nd_ok (am_lf_ok (fun _ => ok_iload_n dX11_of_89 rfl rfl)) (am_nd_ok (am_lf_ok (fun _ => ok_cvI rfl mw_X10_lettersOf (ci := 10) rfl rfl wd_371 wd_196 wd_197 dX11_of_90 rfl)) (am_lf_ok (fun _ => ok_iret rfl dX11_of_93)))) (am_nd_ok (am_lf_ok (fun _ => ok_aload_n dX11_of_94 rfl rfl)) (am_nd_ok (am_lf_ok (fun _ => ok_get (C := RX5) (TT := TX5) (N := 8) rfl inw_X5 (Nat.le_of_ble_eq_true rfl) wd_327 dX11_of_95 rfl)) (am_lf_ok (fun _ => ok_iload_n dX11_of_98 rfl rfl)))))) (am_nd_ok (am_nd_ok (am_nd_ok (am_lf_ok (fun _ => ok_iald dX11_of_99 rfl)) (am_nd_ok (am_lf_ok (fun _ => ok_iret rfl dX11_of_100)) (am_lf_ok (fun _ => ok_aload_n dX11_of_101 rfl rfl)))) (am_nd_ok (am_lf_ok (fun _ => ok_get (C := RX5) (TT := TX5) (N := 8) rfl inw_X5 (Nat.le_of_ble_eq_true rfl) wd_354 dX11_of_102 rfl)) (am_nd_ok (am_lf_ok (fun _ => ok_iload_n dX11_of_105 rfl rfl)) (am_lf_ok (fun _ => ok_iald dX11_of_106 rfl))))) (am_nd_ok (am_nd_ok (am_lf_ok (fun _ => ok_iret rfl dX11_of_107)) (am_nd_ok (am_lf_ok (fun _ => ok_aload_n dX11_of_108 rfl rfl)) (am_lf_ok (fun _ => ok_get (C := RX5) (TT := TX5) (N := 8) rfl inw_X5 (Nat.le_of_ble_eq_true rfl) wd_372 dX11_of_109 rfl)))) (am_nd_ok (am_lf_ok (fun _ => ok_iload_n dX11_of_112 rfl rfl)) (am_nd_ok (am_lf_ok (fun _ => ok_iald dX11_of_113 rfl)) (am_lf_ok (fun _ => ok_iret rfl dX11_of_114))))))
def tX11_of_2 : Nat → Option am_Act := am_nd 129 (am_nd 121 (am_nd 117 (am_nd 116 (am_lf 115 (a_iload 2 116)) (am_lf 116 (a_aload 3 117))) (am_nd 120 (am_lf 117 (a_get tT 5 6 120)) (am_lf 120 (a_iload 1 121)))) (am_nd 125 (am_nd 122 (am_lf 121 (a_iald tT 122)) (am_lf 122 (a_csI mX11_isPart 2 125))) (am_nd 128 (am_lf 125 (a_if (fun x => x = nI 0) 140 128)) (am_lf 128 (a_aload 3 129))))) (am_nd 134 (am_nd 131 (am_nd 130 (am_lf 129 (a_iload 1 130)) (am_lf 130 (a_iload 2 131))) (am_nd 133 (am_lf 131 (a_const (nI 10) 133)) (am_lf 133 (a_bin (fun x y => x - y) 134)))) (am_nd 140 (am_nd 137 (am_lf 134 (a_cvI tT mX5_nameAt 5 2 137)) (am_lf 137 (a_goto 141))) (am_nd 141 (am_lf 140 (a_const (-1) 141)) (am_lf 141 (a_iret)))))
theorem gX11_of_2 : am_Good tT mX11_of tX11_of_2 := am_nd_ok (am_nd_ok (am_nd_ok (am_nd_ok (am_lf_ok (fun _ => ok_iload_n dX11_of_115 rfl rfl)) (am_lf_ok (fun _ => ok_aload_n dX11_of_116 rfl rfl))) (am_nd_ok (am_lf_ok (fun _ => ok_get (C := RX5) (TT := TX5) (N := 8) rfl inw_X5 (Nat.le_of_ble_eq_true rfl) wd_370 dX11_of_117 rfl)) (am_lf_ok (fun _ => ok_iload_n dX11_of_120 rfl rfl)))) (am_nd_ok (am_nd_ok (am_lf_ok (fun _ => ok_iald dX11_of_121 rfl)) (am_lf_ok (fun _ => ok_csI rfl mw_X11_isPart wd_373 wd_374 dX11_of_122 rfl))) (am_nd_ok (am_lf_ok (fun _ => ok_if_eq dX11_of_125 rfl rfl)) (am_lf_ok (fun _ => ok_aload_n dX11_of_128 rfl rfl))))) (am_nd_ok (am_nd_ok (am_nd_ok (am_lf_ok (fun _ => ok_iload_n dX11_of_129 rfl rfl)) (am_lf_ok (fun _ => ok_iload_n dX11_of_130 rfl rfl))) (am_nd_ok (am_lf_ok (fun _ => ok_bipush dX11_of_131 cv_bipush_10 rfl)) (am_lf_ok (fun _ => ok_isub dX11_of_133 rfl)))) (am_nd_ok (am_nd_ok (am_lf_ok (fun _ => ok_cvI rfl mw_X5_nameAt (ci := 5) rfl rfl wd_375 wd_205 wd_206 dX11_of_134 rfl)) (am_lf_ok (fun _ => ok_goto dX11_of_137 rfl))) (am_nd_ok (am_lf_ok (fun _ => ok_iconst dX11_of_140 cv_iconst_m1 rfl)) (am_lf_ok (fun _ => ok_iret rfl dX11_of_141)))))
def tX11_of : Nat → Option am_Act := am_nd 79 (tX11_of_0) (am_nd 115 (tX11_of_1) (tX11_of_2))
theorem gX11_of : am_Good tT mX11_of tX11_of := am_nd_ok (gX11_of_0) (am_nd_ok (gX11_of_1) (gX11_of_2))
theorem dX11_kept_0 : decode cX11_kept 0 = .ok (.aload_n 0, 1) := by decide +kernel
theorem dX11_kept_1 : decode cX11_kept 1 = .ok (.getfield 22, 3) := by decide +kernel
theorem dX11_kept_4 : decode cX11_kept 4 = .ok (.iload_n 1, 1) := by decide +kernel
theorem dX11_kept_5 : decode cX11_kept 5 = .ok (.invokevirtual 237, 3) := by decide +kernel
theorem dX11_kept_8 : decode cX11_kept 8 = .ok (.ifCond .eq 29, 3) := by decide +kernel
theorem dX11_kept_11 : decode cX11_kept 11 = .ok (.aload_n 0, 1) := by decide +kernel
theorem dX11_kept_12 : decode cX11_kept 12 = .ok (.getfield 22, 3) := by decide +kernel
theorem dX11_kept_15 : decode cX11_kept 15 = .ok (.iload_n 2, 1) := by decide +kernel
theorem dX11_kept_16 : decode cX11_kept 16 = .ok (.invokevirtual 127, 3) := by decide +kernel
theorem dX11_kept_19 : decode cX11_kept 19 = .ok (.ifCond .eq 18, 3) := by decide +kernel
theorem dX11_kept_22 : decode cX11_kept 22 = .ok (.aload_n 0, 1) := by decide +kernel
theorem dX11_kept_23 : decode cX11_kept 23 = .ok (.getfield 22, 3) := by decide +kernel
theorem dX11_kept_26 : decode cX11_kept 26 = .ok (.getfield 116, 3) := by decide +kernel
theorem dX11_kept_29 : decode cX11_kept 29 = .ok (.iload_n 1, 1) := by decide +kernel
theorem dX11_kept_30 : decode cX11_kept 30 = .ok (.iload_n 2, 1) := by decide +kernel
theorem dX11_kept_31 : decode cX11_kept 31 = .ok (.invokevirtual 202, 3) := by decide +kernel
theorem dX11_kept_34 : decode cX11_kept 34 = .ok (.goto 4, 3) := by decide +kernel
theorem dX11_kept_37 : decode cX11_kept 37 = .ok (.iconst (-1), 1) := by decide +kernel
theorem dX11_kept_38 : decode cX11_kept 38 = .ok (.ireturn, 1) := by decide +kernel
def tX11_kept_0 : Nat → Option am_Act := am_nd 19 (am_nd 8 (am_nd 4 (am_nd 1 (am_lf 0 (a_aload 0 1)) (am_lf 1 (a_get tT 11 0 4))) (am_nd 5 (am_lf 4 (a_iload 1 5)) (am_lf 5 (a_cvI tT mX10_isBridge 10 1 8)))) (am_nd 12 (am_nd 11 (am_lf 8 (a_if (fun x => x = nI 0) 37 11)) (am_lf 11 (a_aload 0 12))) (am_nd 15 (am_lf 12 (a_get tT 11 0 15)) (am_nd 16 (am_lf 15 (a_iload 2 16)) (am_lf 16 (a_cvI tT mX10_isName 10 1 19)))))) (am_nd 30 (am_nd 23 (am_nd 22 (am_lf 19 (a_if (fun x => x = nI 0) 37 22)) (am_lf 22 (a_aload 0 23))) (am_nd 26 (am_lf 23 (a_get tT 11 0 26)) (am_nd 29 (am_lf 26 (a_get tT 10 12 29)) (am_lf 29 (a_iload 1 30))))) (am_nd 34 (am_nd 31 (am_lf 30 (a_iload 2 31)) (am_lf 31 (a_cvI tT mX2_keptOf 2 2 34))) (am_nd 37 (am_lf 34 (a_goto 38)) (am_nd 38 (am_lf 37 (a_const (-1) 38)) (am_lf 38 (a_iret))))))
theorem gX11_kept_0 : am_Good tT mX11_kept tX11_kept_0 := am_nd_ok (am_nd_ok (am_nd_ok (am_nd_ok (am_lf_ok (fun _ => ok_aload_n dX11_kept_0 rfl rfl)) (am_lf_ok (fun _ => ok_get (C := RX11) (TT := TX11) (N := 10) rfl inw_X11 (Nat.le_of_ble_eq_true rfl) wd_295 dX11_kept_1 rfl))) (am_nd_ok (am_lf_ok (fun _ => ok_iload_n dX11_kept_4 rfl rfl)) (am_lf_ok (fun _ => ok_cvI rfl mw_X10_isBridge (ci := 10) rfl rfl wd_376 wd_240 wd_241 dX11_kept_5 rfl)))) (am_nd_ok (am_nd_ok (am_lf_ok (fun _ => ok_if_eq dX11_kept_8 rfl rfl)) (am_lf_ok (fun _ => ok_aload_n dX11_kept_11 rfl rfl))) (am_nd_ok (am_lf_ok (fun _ => ok_get (C := RX11) (TT := TX11) (N := 10) rfl inw_X11 (Nat.le_of_ble_eq_true rfl) wd_295 dX11_kept_12 rfl)) (am_nd_ok (am_lf_ok (fun _ => ok_iload_n dX11_kept_15 rfl rfl)) (am_lf_ok (fun _ => ok_cvI rfl mw_X10_isName (ci := 10) rfl rfl wd_320 wd_321 wd_322 dX11_kept_16 rfl)))))) (am_nd_ok (am_nd_ok (am_nd_ok (am_lf_ok (fun _ => ok_if_eq dX11_kept_19 rfl rfl)) (am_lf_ok (fun _ => ok_aload_n dX11_kept_22 rfl rfl))) (am_nd_ok (am_lf_ok (fun _ => ok_get (C := RX11) (TT := TX11) (N := 10) rfl inw_X11 (Nat.le_of_ble_eq_true rfl) wd_295 dX11_kept_23 rfl)) (am_nd_ok (am_lf_ok (fun _ => ok_get (C := RX10) (TT := TX10) (N := 14) rfl inw_X10 (Nat.le_of_ble_eq_true rfl) wd_312 dX11_kept_26 rfl)) (am_lf_ok (fun _ => ok_iload_n dX11_kept_29 rfl rfl))))) (am_nd_ok (am_nd_ok (am_lf_ok (fun _ => ok_iload_n dX11_kept_30 rfl rfl)) (am_lf_ok (fun _ => ok_cvI rfl mw_X2_keptOf (ci := 2) rfl rfl wd_362 wd_68 wd_69 dX11_kept_31 rfl))) (am_nd_ok (am_lf_ok (fun _ => ok_goto dX11_kept_34 rfl)) (am_nd_ok (am_lf_ok (fun _ => ok_iconst dX11_kept_37 cv_iconst_m1 rfl)) (am_lf_ok (fun _ => ok_iret rfl dX11_kept_38))))))
def tX11_kept : Nat → Option am_Act := tX11_kept_0
theorem gX11_kept : am_Good tT mX11_kept tX11_kept := gX11_kept_0
theorem dX11_book_0 : decode cX11_book 0 = .ok (.iload_n 1, 1) := by decide +kernel
theorem dX11_book_1 : decode cX11_book 1 = .ok (.iconst 0, 1) := by decide +kernel
theorem dX11_book_2 : decode cX11_book 2 = .ok (.aload_n 0, 1) := by decide +kernel
theorem dX11_book_3 : decode cX11_book 3 = .ok (.getfield 22, 3) := by decide +kernel
theorem dX11_book_6 : decode cX11_book 6 = .ok (.getfield 240, 3) := by decide +kernel
theorem dX11_book_9 : decode cX11_book 9 = .ok (.iconst 1, 1) := by decide +kernel
theorem dX11_book_10 : decode cX11_book 10 = .ok (.isub, 1) := by decide +kernel
theorem dX11_book_11 : decode cX11_book 11 = .ok (.invokestatic 82, 3) := by decide +kernel
theorem dX11_book_14 : decode cX11_book 14 = .ok (.ifCond .eq 12, 3) := by decide +kernel
theorem dX11_book_17 : decode cX11_book 17 = .ok (.iload_n 2, 1) := by decide +kernel
theorem dX11_book_18 : decode cX11_book 18 = .ok (.iconst 0, 1) := by decide +kernel
theorem dX11_book_19 : decode cX11_book 19 = .ok (.iconst 3, 1) := by decide +kernel
theorem dX11_book_20 : decode cX11_book 20 = .ok (.invokestatic 82, 3) := by decide +kernel
theorem dX11_book_23 : decode cX11_book 23 = .ok (.ifCond .ne 5, 3) := by decide +kernel
theorem dX11_book_26 : decode cX11_book 26 = .ok (.iconst (-1), 1) := by decide +kernel
theorem dX11_book_27 : decode cX11_book 27 = .ok (.ireturn, 1) := by decide +kernel
theorem dX11_book_28 : decode cX11_book 28 = .ok (.aload_n 0, 1) := by decide +kernel
theorem dX11_book_29 : decode cX11_book 29 = .ok (.getfield 22, 3) := by decide +kernel
theorem dX11_book_32 : decode cX11_book 32 = .ok (.getfield 243, 3) := by decide +kernel
theorem dX11_book_35 : decode cX11_book 35 = .ok (.iload_n 1, 1) := by decide +kernel
theorem dX11_book_36 : decode cX11_book 36 = .ok (.iconst 4, 1) := by decide +kernel
theorem dX11_book_37 : decode cX11_book 37 = .ok (.imul, 1) := by decide +kernel
theorem dX11_book_38 : decode cX11_book 38 = .ok (.iload_n 2, 1) := by decide +kernel
theorem dX11_book_39 : decode cX11_book 39 = .ok (.iadd, 1) := by decide +kernel
theorem dX11_book_40 : decode cX11_book 40 = .ok (.iaload, 1) := by decide +kernel
theorem dX11_book_41 : decode cX11_book 41 = .ok (.ireturn, 1) := by decide +kernel
def tX11_book_0 : Nat → Option am_Act := am_nd 20 (am_nd 10 (am_nd 3 (am_nd 1 (am_lf 0 (a_iload 1 1)) (am_nd 2 (am_lf 1 (a_const (nI 0) 2)) (am_lf 2 (a_aload 0 3)))) (am_nd 6 (am_lf 3 (a_get tT 11 0 6)) (am_nd 9 (am_lf 6 (a_get tT 10 7 9)) (am_lf 9 (a_const (nI 1) 10))))) (am_nd 17 (am_nd 11 (am_lf 10 (a_bin (fun x y => x - y) 11)) (am_nd 14 (am_lf 11 (a_csI mX11_within 3 14)) (am_lf 14 (a_if (fun x => x = nI 0) 26 17)))) (am_nd 18 (am_lf 17 (a_iload 2 18)) (am_nd 19 (am_lf 18 (a_const (nI 0) 19)) (am_lf 19 (a_const (nI 3) 20)))))) (am_nd 32 (am_nd 27 (am_nd 23 (am_lf 20 (a_csI mX11_within 3 23)) (am_nd 26 (am_lf 23 (a_if (fun x => x = nI 0) 26 28)) (am_lf 26 (a_const (-1) 27)))) (am_nd 28 (am_lf 27 (a_iret)) (am_nd 29 (am_lf 28 (a_aload 0 29)) (am_lf 29 (a_get tT 11 0 32))))) (am_nd 37 (am_nd 35 (am_lf 32 (a_get tT 10 8 35)) (am_nd 36 (am_lf 35 (a_iload 1 36)) (am_lf 36 (a_const (nI 4) 37)))) (am_nd 38 (am_lf 37 (a_bin (fun x y => x * y) 38)) (am_nd 39 (am_lf 38 (a_iload 2 39)) (am_lf 39 (a_bin (fun x y => x + y) 40))))))
theorem gX11_book_0 : am_Good tT mX11_book tX11_book_0 := am_nd_ok (am_nd_ok (am_nd_ok (am_nd_ok (am_lf_ok (fun _ => ok_iload_n dX11_book_0 rfl rfl)) (am_nd_ok (am_lf_ok (fun _ => ok_iconst dX11_book_1 cv_iconst_0 rfl)) (am_lf_ok (fun _ => ok_aload_n dX11_book_2 rfl rfl)))) (am_nd_ok (am_lf_ok (fun _ => ok_get (C := RX11) (TT := TX11) (N := 10) rfl inw_X11 (Nat.le_of_ble_eq_true rfl) wd_295 dX11_book_3 rfl)) (am_nd_ok (am_lf_ok (fun _ => ok_get (C := RX10) (TT := TX10) (N := 14) rfl inw_X10 (Nat.le_of_ble_eq_true rfl) wd_377 dX11_book_6 rfl)) (am_lf_ok (fun _ => ok_iconst dX11_book_9 cv_iconst_1 rfl))))) (am_nd_ok (am_nd_ok (am_lf_ok (fun _ => ok_isub dX11_book_10 rfl)) (am_nd_ok (am_lf_ok (fun _ => ok_csI rfl mw_X11_within wd_297 wd_120 dX11_book_11 rfl)) (am_lf_ok (fun _ => ok_if_eq dX11_book_14 rfl rfl)))) (am_nd_ok (am_lf_ok (fun _ => ok_iload_n dX11_book_17 rfl rfl)) (am_nd_ok (am_lf_ok (fun _ => ok_iconst dX11_book_18 cv_iconst_0 rfl)) (am_lf_ok (fun _ => ok_iconst dX11_book_19 cv_iconst_3 rfl)))))) (am_nd_ok (am_nd_ok (am_nd_ok (am_lf_ok (fun _ => ok_csI rfl mw_X11_within wd_297 wd_120 dX11_book_20 rfl)) (am_nd_ok (am_lf_ok (fun _ => ok_if_ne dX11_book_23 rfl rfl)) (am_lf_ok (fun _ => ok_iconst dX11_book_26 cv_iconst_m1 rfl)))) (am_nd_ok (am_lf_ok (fun _ => ok_iret rfl dX11_book_27)) (am_nd_ok (am_lf_ok (fun _ => ok_aload_n dX11_book_28 rfl rfl)) (am_lf_ok (fun _ => ok_get (C := RX11) (TT := TX11) (N := 10) rfl inw_X11 (Nat.le_of_ble_eq_true rfl) wd_295 dX11_book_29 rfl))))) (am_nd_ok (am_nd_ok (am_lf_ok (fun _ => ok_get (C := RX10) (TT := TX10) (N := 14) rfl inw_X10 (Nat.le_of_ble_eq_true rfl) wd_378 dX11_book_32 rfl)) (am_nd_ok (am_lf_ok (fun _ => ok_iload_n dX11_book_35 rfl rfl)) (am_lf_ok (fun _ => ok_iconst dX11_book_36 cv_iconst_4 rfl)))) (am_nd_ok (am_lf_ok (fun _ => ok_imul dX11_book_37 rfl)) (am_nd_ok (am_lf_ok (fun _ => ok_iload_n dX11_book_38 rfl rfl)) (am_lf_ok (fun _ => ok_iadd dX11_book_39 rfl))))))
def tX11_book_1 : Nat → Option am_Act := am_nd 41 (am_lf 40 (a_iald tT 41)) (am_lf 41 (a_iret))
theorem gX11_book_1 : am_Good tT mX11_book tX11_book_1 := am_nd_ok (am_lf_ok (fun _ => ok_iald dX11_book_40 rfl)) (am_lf_ok (fun _ => ok_iret rfl dX11_book_41))
def tX11_book : Nat → Option am_Act := am_nd 40 (tX11_book_0) (tX11_book_1)
theorem gX11_book : am_Good tT mX11_book tX11_book := am_nd_ok (gX11_book_0) (gX11_book_1)
theorem dX11_called_0 : decode cX11_called 0 = .ok (.iload_n 1, 1) := by decide +kernel
theorem dX11_called_1 : decode cX11_called 1 = .ok (.invokestatic 99, 3) := by decide +kernel
theorem dX11_called_4 : decode cX11_called 4 = .ok (.ifCond .eq 14, 3) := by decide +kernel
theorem dX11_called_7 : decode cX11_called 7 = .ok (.aload_n 0, 1) := by decide +kernel
theorem dX11_called_8 : decode cX11_called 8 = .ok (.getfield 22, 3) := by decide +kernel
theorem dX11_called_11 : decode cX11_called 11 = .ok (.iload_n 2, 1) := by decide +kernel
theorem dX11_called_12 : decode cX11_called 12 = .ok (.invokevirtual 127, 3) := by decide +kernel
theorem dX11_called_15 : decode cX11_called 15 = .ok (.ifCond .ne 5, 3) := by decide +kernel
theorem dX11_called_18 : decode cX11_called 18 = .ok (.iconst (-1), 1) := by decide +kernel
theorem dX11_called_19 : decode cX11_called 19 = .ok (.ireturn, 1) := by decide +kernel
theorem dX11_called_20 : decode cX11_called 20 = .ok (.iconst 0, 1) := by decide +kernel
theorem dX11_called_21 : decode cX11_called 21 = .ok (.istore_n 3, 1) := by decide +kernel
theorem dX11_called_22 : decode cX11_called 22 = .ok (.iconst 0, 1) := by decide +kernel
theorem dX11_called_23 : decode cX11_called 23 = .ok (.istore 4, 2) := by decide +kernel
theorem dX11_called_25 : decode cX11_called 25 = .ok (.iload 4, 2) := by decide +kernel
theorem dX11_called_27 : decode cX11_called 27 = .ok (.aload_n 0, 1) := by decide +kernel
theorem dX11_called_28 : decode cX11_called 28 = .ok (.getfield 22, 3) := by decide +kernel
theorem dX11_called_31 : decode cX11_called 31 = .ok (.getfield 103, 3) := by decide +kernel
theorem dX11_called_34 : decode cX11_called 34 = .ok (.getfield 107, 3) := by decide +kernel
theorem dX11_called_37 : decode cX11_called 37 = .ok (.if_icmp .ge 49, 3) := by decide +kernel
theorem dX11_called_40 : decode cX11_called 40 = .ok (.aload_n 0, 1) := by decide +kernel
theorem dX11_called_41 : decode cX11_called 41 = .ok (.getfield 22, 3) := by decide +kernel
theorem dX11_called_44 : decode cX11_called 44 = .ok (.getfield 103, 3) := by decide +kernel
theorem dX11_called_47 : decode cX11_called 47 = .ok (.getfield 215, 3) := by decide +kernel
theorem dX11_called_50 : decode cX11_called 50 = .ok (.iload 4, 2) := by decide +kernel
theorem dX11_called_52 : decode cX11_called 52 = .ok (.iaload, 1) := by decide +kernel
theorem dX11_called_53 : decode cX11_called 53 = .ok (.iload_n 1, 1) := by decide +kernel
theorem dX11_called_54 : decode cX11_called 54 = .ok (.if_icmp .ne 26, 3) := by decide +kernel
theorem dX11_called_57 : decode cX11_called 57 = .ok (.aload_n 0, 1) := by decide +kernel
theorem dX11_called_58 : decode cX11_called 58 = .ok (.getfield 22, 3) := by decide +kernel
theorem dX11_called_61 : decode cX11_called 61 = .ok (.getfield 103, 3) := by decide +kernel
theorem dX11_called_64 : decode cX11_called 64 = .ok (.iload 4, 2) := by decide +kernel
theorem dX11_called_66 : decode cX11_called 66 = .ok (.iload_n 2, 1) := by decide +kernel
theorem dX11_called_67 : decode cX11_called 67 = .ok (.invokevirtual 246, 3) := by decide +kernel
theorem dX11_called_70 : decode cX11_called 70 = .ok (.ifCond .eq 10, 3) := by decide +kernel
theorem dX11_called_73 : decode cX11_called 73 = .ok (.iload_n 3, 1) := by decide +kernel
theorem dX11_called_74 : decode cX11_called 74 = .ok (.iconst 1, 1) := by decide +kernel
theorem dX11_called_75 : decode cX11_called 75 = .ok (.iload 4, 2) := by decide +kernel
theorem dX11_called_77 : decode cX11_called 77 = .ok (.ishl, 1) := by decide +kernel
theorem dX11_called_78 : decode cX11_called 78 = .ok (.ior, 1) := by decide +kernel
theorem dX11_called_79 : decode cX11_called 79 = .ok (.istore_n 3, 1) := by decide +kernel
theorem dX11_called_80 : decode cX11_called 80 = .ok (.iinc 4 1, 3) := by decide +kernel
theorem dX11_called_83 : decode cX11_called 83 = .ok (.goto (-58), 3) := by decide +kernel
theorem dX11_called_86 : decode cX11_called 86 = .ok (.iload_n 3, 1) := by decide +kernel
theorem dX11_called_87 : decode cX11_called 87 = .ok (.ireturn, 1) := by decide +kernel
def tX11_called_0 : Nat → Option am_Act := am_nd 22 (am_nd 12 (am_nd 7 (am_nd 1 (am_lf 0 (a_iload 1 1)) (am_nd 4 (am_lf 1 (a_csI mX11_isPlace 1 4)) (am_lf 4 (a_if (fun x => x = nI 0) 18 7)))) (am_nd 8 (am_lf 7 (a_aload 0 8)) (am_nd 11 (am_lf 8 (a_get tT 11 0 11)) (am_lf 11 (a_iload 2 12))))) (am_nd 19 (am_nd 15 (am_lf 12 (a_cvI tT mX10_isName 10 1 15)) (am_nd 18 (am_lf 15 (a_if (fun x => x = nI 0) 18 20)) (am_lf 18 (a_const (-1) 19)))) (am_nd 20 (am_lf 19 (a_iret)) (am_nd 21 (am_lf 20 (a_const (nI 0) 21)) (am_lf 21 (a_istore 3 22)))))) (am_nd 34 (am_nd 27 (am_nd 23 (am_lf 22 (a_const (nI 0) 23)) (am_nd 25 (am_lf 23 (a_istore 4 25)) (am_lf 25 (a_iload 4 27)))) (am_nd 28 (am_lf 27 (a_aload 0 28)) (am_nd 31 (am_lf 28 (a_get tT 11 0 31)) (am_lf 31 (a_get tT 10 11 34))))) (am_nd 41 (am_nd 37 (am_lf 34 (a_get tT 5 0 37)) (am_nd 40 (am_lf 37 (a_cmp (fun x y => y ≤ x) 86 40)) (am_lf 40 (a_aload 0 41)))) (am_nd 44 (am_lf 41 (a_get tT 11 0 44)) (am_nd 47 (am_lf 44 (a_get tT 10 11 47)) (am_lf 47 (a_get tT 5 1 50))))))
theorem gX11_called_0 : am_Good tT mX11_called tX11_called_0 := am_nd_ok (am_nd_ok (am_nd_ok (am_nd_ok (am_lf_ok (fun _ => ok_iload_n dX11_called_0 rfl rfl)) (am_nd_ok (am_lf_ok (fun _ => ok_csI rfl mw_X11_isPlace wd_305 wd_306 dX11_called_1 rfl)) (am_lf_ok (fun _ => ok_if_eq dX11_called_4 rfl rfl)))) (am_nd_ok (am_lf_ok (fun _ => ok_aload_n dX11_called_7 rfl rfl)) (am_nd_ok (am_lf_ok (fun _ => ok_get (C := RX11) (TT := TX11) (N := 10) rfl inw_X11 (Nat.le_of_ble_eq_true rfl) wd_295 dX11_called_8 rfl)) (am_lf_ok (fun _ => ok_iload_n dX11_called_11 rfl rfl))))) (am_nd_ok (am_nd_ok (am_lf_ok (fun _ => ok_cvI rfl mw_X10_isName (ci := 10) rfl rfl wd_320 wd_321 wd_322 dX11_called_12 rfl)) (am_nd_ok (am_lf_ok (fun _ => ok_if_ne dX11_called_15 rfl rfl)) (am_lf_ok (fun _ => ok_iconst dX11_called_18 cv_iconst_m1 rfl)))) (am_nd_ok (am_lf_ok (fun _ => ok_iret rfl dX11_called_19)) (am_nd_ok (am_lf_ok (fun _ => ok_iconst dX11_called_20 cv_iconst_0 rfl)) (am_lf_ok (fun _ => ok_istore_n dX11_called_21 rfl (Nat.le_of_ble_eq_true rfl) rfl)))))) (am_nd_ok (am_nd_ok (am_nd_ok (am_lf_ok (fun _ => ok_iconst dX11_called_22 cv_iconst_0 rfl)) (am_nd_ok (am_lf_ok (fun _ => ok_istore dX11_called_23 (Nat.le_of_ble_eq_true rfl) rfl)) (am_lf_ok (fun _ => ok_iload dX11_called_25 rfl)))) (am_nd_ok (am_lf_ok (fun _ => ok_aload_n dX11_called_27 rfl rfl)) (am_nd_ok (am_lf_ok (fun _ => ok_get (C := RX11) (TT := TX11) (N := 10) rfl inw_X11 (Nat.le_of_ble_eq_true rfl) wd_295 dX11_called_28 rfl)) (am_lf_ok (fun _ => ok_get (C := RX10) (TT := TX10) (N := 14) rfl inw_X10 (Nat.le_of_ble_eq_true rfl) wd_307 dX11_called_31 rfl))))) (am_nd_ok (am_nd_ok (am_lf_ok (fun _ => ok_get (C := RX5) (TT := TX5) (N := 8) rfl inw_X5 (Nat.le_of_ble_eq_true rfl) wd_308 dX11_called_34 rfl)) (am_nd_ok (am_lf_ok (fun _ => ok_cmp_ge dX11_called_37 rfl rfl)) (am_lf_ok (fun _ => ok_aload_n dX11_called_40 rfl rfl)))) (am_nd_ok (am_lf_ok (fun _ => ok_get (C := RX11) (TT := TX11) (N := 10) rfl inw_X11 (Nat.le_of_ble_eq_true rfl) wd_295 dX11_called_41 rfl)) (am_nd_ok (am_lf_ok (fun _ => ok_get (C := RX10) (TT := TX10) (N := 14) rfl inw_X10 (Nat.le_of_ble_eq_true rfl) wd_307 dX11_called_44 rfl)) (am_lf_ok (fun _ => ok_get (C := RX5) (TT := TX5) (N := 8) rfl inw_X5 (Nat.le_of_ble_eq_true rfl) wd_368 dX11_called_47 rfl))))))
def tX11_called_1 : Nat → Option am_Act := am_nd 70 (am_nd 58 (am_nd 53 (am_nd 52 (am_lf 50 (a_iload 4 52)) (am_lf 52 (a_iald tT 53))) (am_nd 54 (am_lf 53 (a_iload 1 54)) (am_nd 57 (am_lf 54 (a_cmp (fun x y => x = y) 57 80)) (am_lf 57 (a_aload 0 58))))) (am_nd 64 (am_nd 61 (am_lf 58 (a_get tT 11 0 61)) (am_lf 61 (a_get tT 10 11 64))) (am_nd 66 (am_lf 64 (a_iload 4 66)) (am_nd 67 (am_lf 66 (a_iload 2 67)) (am_lf 67 (a_cvI tT mX5_hasName 5 2 70)))))) (am_nd 78 (am_nd 74 (am_nd 73 (am_lf 70 (a_if (fun x => x = nI 0) 80 73)) (am_lf 73 (a_iload 3 74))) (am_nd 75 (am_lf 74 (a_const (nI 1) 75)) (am_nd 77 (am_lf 75 (a_iload 4 77)) (am_lf 77 (a_bin (fun x y => x <<< (y &&& 31)) 78))))) (am_nd 83 (am_nd 79 (am_lf 78 (a_bin (fun x y => x ||| y) 79)) (am_nd 80 (am_lf 79 (a_istore 3 80)) (am_lf 80 (a_iinc 4 (nI 1) 83)))) (am_nd 86 (am_lf 83 (a_goto 25)) (am_nd 87 (am_lf 86 (a_iload 3 87)) (am_lf 87 (a_iret))))))
theorem gX11_called_1 : am_Good tT mX11_called tX11_called_1 := am_nd_ok (am_nd_ok (am_nd_ok (am_nd_ok (am_lf_ok (fun _ => ok_iload dX11_called_50 rfl)) (am_lf_ok (fun _ => ok_iald dX11_called_52 rfl))) (am_nd_ok (am_lf_ok (fun _ => ok_iload_n dX11_called_53 rfl rfl)) (am_nd_ok (am_lf_ok (fun _ => ok_cmp_ne dX11_called_54 rfl rfl)) (am_lf_ok (fun _ => ok_aload_n dX11_called_57 rfl rfl))))) (am_nd_ok (am_nd_ok (am_lf_ok (fun _ => ok_get (C := RX11) (TT := TX11) (N := 10) rfl inw_X11 (Nat.le_of_ble_eq_true rfl) wd_295 dX11_called_58 rfl)) (am_lf_ok (fun _ => ok_get (C := RX10) (TT := TX10) (N := 14) rfl inw_X10 (Nat.le_of_ble_eq_true rfl) wd_307 dX11_called_61 rfl))) (am_nd_ok (am_lf_ok (fun _ => ok_iload dX11_called_64 rfl)) (am_nd_ok (am_lf_ok (fun _ => ok_iload_n dX11_called_66 rfl rfl)) (am_lf_ok (fun _ => ok_cvI rfl mw_X5_hasName (ci := 5) rfl rfl wd_379 wd_160 wd_161 dX11_called_67 rfl)))))) (am_nd_ok (am_nd_ok (am_nd_ok (am_lf_ok (fun _ => ok_if_eq dX11_called_70 rfl rfl)) (am_lf_ok (fun _ => ok_iload_n dX11_called_73 rfl rfl))) (am_nd_ok (am_lf_ok (fun _ => ok_iconst dX11_called_74 cv_iconst_1 rfl)) (am_nd_ok (am_lf_ok (fun _ => ok_iload dX11_called_75 rfl)) (am_lf_ok (fun _ => ok_ishl dX11_called_77 rfl))))) (am_nd_ok (am_nd_ok (am_lf_ok (fun _ => ok_ior dX11_called_78 rfl)) (am_nd_ok (am_lf_ok (fun _ => ok_istore_n dX11_called_79 rfl (Nat.le_of_ble_eq_true rfl) rfl)) (am_lf_ok (fun _ => ok_iinc dX11_called_80 cv_iconst_1 (Nat.le_of_ble_eq_true rfl) rfl)))) (am_nd_ok (am_lf_ok (fun _ => ok_goto dX11_called_83 rfl)) (am_nd_ok (am_lf_ok (fun _ => ok_iload_n dX11_called_86 rfl rfl)) (am_lf_ok (fun _ => ok_iret rfl dX11_called_87))))))
def tX11_called : Nat → Option am_Act := am_nd 50 (tX11_called_0) (tX11_called_1)
theorem gX11_called : am_Good tT mX11_called tX11_called := am_nd_ok (gX11_called_0) (gX11_called_1)
theorem dX11_alone_0 : decode cX11_alone 0 = .ok (.iload_n 1, 1) := by decide +kernel
theorem dX11_alone_1 : decode cX11_alone 1 = .ok (.invokestatic 99, 3) := by decide +kernel
theorem dX11_alone_4 : decode cX11_alone 4 = .ok (.ifCond .eq 27, 3) := by decide +kernel
theorem dX11_alone_7 : decode cX11_alone 7 = .ok (.aload_n 0, 1) := by decide +kernel
theorem dX11_alone_8 : decode cX11_alone 8 = .ok (.getfield 22, 3) := by decide +kernel
theorem dX11_alone_11 : decode cX11_alone 11 = .ok (.getfield 103, 3) := by decide +kernel
theorem dX11_alone_14 : decode cX11_alone 14 = .ok (.aload_n 0, 1) := by decide +kernel
theorem dX11_alone_15 : decode cX11_alone 15 = .ok (.getfield 22, 3) := by decide +kernel
theorem dX11_alone_18 : decode cX11_alone 18 = .ok (.getfield 103, 3) := by decide +kernel
theorem dX11_alone_21 : decode cX11_alone 21 = .ok (.iload_n 1, 1) := by decide +kernel
theorem dX11_alone_22 : decode cX11_alone 22 = .ok (.invokevirtual 249, 3) := by decide +kernel
theorem dX11_alone_25 : decode cX11_alone 25 = .ok (.invokevirtual 252, 3) := by decide +kernel
theorem dX11_alone_28 : decode cX11_alone 28 = .ok (.goto 4, 3) := by decide +kernel
theorem dX11_alone_31 : decode cX11_alone 31 = .ok (.iconst (-1), 1) := by decide +kernel
theorem dX11_alone_32 : decode cX11_alone 32 = .ok (.ireturn, 1) := by decide +kernel
def tX11_alone_0 : Nat → Option am_Act := am_nd 15 (am_nd 7 (am_nd 1 (am_lf 0 (a_iload 1 1)) (am_nd 4 (am_lf 1 (a_csI mX11_isPlace 1 4)) (am_lf 4 (a_if (fun x => x = nI 0) 31 7)))) (am_nd 11 (am_nd 8 (am_lf 7 (a_aload 0 8)) (am_lf 8 (a_get tT 11 0 11))) (am_nd 14 (am_lf 11 (a_get tT 10 11 14)) (am_lf 14 (a_aload 0 15))))) (am_nd 25 (am_nd 21 (am_nd 18 (am_lf 15 (a_get tT 11 0 18)) (am_lf 18 (a_get tT 10 11 21))) (am_nd 22 (am_lf 21 (a_iload 1 22)) (am_lf 22 (a_cvI tT mX5_at 5 1 25)))) (am_nd 31 (am_nd 28 (am_lf 25 (a_cvI tT mX5_aloneAmong 5 1 28)) (am_lf 28 (a_goto 32))) (am_nd 32 (am_lf 31 (a_const (-1) 32)) (am_lf 32 (a_iret)))))
theorem gX11_alone_0 : am_Good tT mX11_alone tX11_alone_0 := am_nd_ok (am_nd_ok (am_nd_ok (am_lf_ok (fun _ => ok_iload_n dX11_alone_0 rfl rfl)) (am_nd_ok (am_lf_ok (fun _ => ok_csI rfl mw_X11_isPlace wd_305 wd_306 dX11_alone_1 rfl)) (am_lf_ok (fun _ => ok_if_eq dX11_alone_4 rfl rfl)))) (am_nd_ok (am_nd_ok (am_lf_ok (fun _ => ok_aload_n dX11_alone_7 rfl rfl)) (am_lf_ok (fun _ => ok_get (C := RX11) (TT := TX11) (N := 10) rfl inw_X11 (Nat.le_of_ble_eq_true rfl) wd_295 dX11_alone_8 rfl))) (am_nd_ok (am_lf_ok (fun _ => ok_get (C := RX10) (TT := TX10) (N := 14) rfl inw_X10 (Nat.le_of_ble_eq_true rfl) wd_307 dX11_alone_11 rfl)) (am_lf_ok (fun _ => ok_aload_n dX11_alone_14 rfl rfl))))) (am_nd_ok (am_nd_ok (am_nd_ok (am_lf_ok (fun _ => ok_get (C := RX11) (TT := TX11) (N := 10) rfl inw_X11 (Nat.le_of_ble_eq_true rfl) wd_295 dX11_alone_15 rfl)) (am_lf_ok (fun _ => ok_get (C := RX10) (TT := TX10) (N := 14) rfl inw_X10 (Nat.le_of_ble_eq_true rfl) wd_307 dX11_alone_18 rfl))) (am_nd_ok (am_lf_ok (fun _ => ok_iload_n dX11_alone_21 rfl rfl)) (am_lf_ok (fun _ => ok_cvI rfl mw_X5_at (ci := 5) rfl rfl wd_380 wd_381 wd_382 dX11_alone_22 rfl)))) (am_nd_ok (am_nd_ok (am_lf_ok (fun _ => ok_cvI rfl mw_X5_aloneAmong (ci := 5) rfl rfl wd_383 wd_27 wd_28 dX11_alone_25 rfl)) (am_lf_ok (fun _ => ok_goto dX11_alone_28 rfl))) (am_nd_ok (am_lf_ok (fun _ => ok_iconst dX11_alone_31 cv_iconst_m1 rfl)) (am_lf_ok (fun _ => ok_iret rfl dX11_alone_32)))))
def tX11_alone : Nat → Option am_Act := tX11_alone_0
theorem gX11_alone : am_Good tT mX11_alone tX11_alone := gX11_alone_0
theorem dX11_cousins_0 : decode cX11_cousins 0 = .ok (.aload_n 0, 1) := by decide +kernel
theorem dX11_cousins_1 : decode cX11_cousins 1 = .ok (.getfield 22, 3) := by decide +kernel
theorem dX11_cousins_4 : decode cX11_cousins 4 = .ok (.iload_n 1, 1) := by decide +kernel
theorem dX11_cousins_5 : decode cX11_cousins 5 = .ok (.invokevirtual 124, 3) := by decide +kernel
theorem dX11_cousins_8 : decode cX11_cousins 8 = .ok (.ifCond .eq 17, 3) := by decide +kernel
theorem dX11_cousins_11 : decode cX11_cousins 11 = .ok (.aload_n 0, 1) := by decide +kernel
theorem dX11_cousins_12 : decode cX11_cousins 12 = .ok (.getfield 22, 3) := by decide +kernel
theorem dX11_cousins_15 : decode cX11_cousins 15 = .ok (.getfield 103, 3) := by decide +kernel
theorem dX11_cousins_18 : decode cX11_cousins 18 = .ok (.iload_n 1, 1) := by decide +kernel
theorem dX11_cousins_19 : decode cX11_cousins 19 = .ok (.invokevirtual 255, 3) := by decide +kernel
theorem dX11_cousins_22 : decode cX11_cousins 22 = .ok (.goto 4, 3) := by decide +kernel
theorem dX11_cousins_25 : decode cX11_cousins 25 = .ok (.iconst (-1), 1) := by decide +kernel
theorem dX11_cousins_26 : decode cX11_cousins 26 = .ok (.ireturn, 1) := by decide +kernel
def tX11_cousins_0 : Nat → Option am_Act := am_nd 12 (am_nd 5 (am_nd 1 (am_lf 0 (a_aload 0 1)) (am_nd 4 (am_lf 1 (a_get tT 11 0 4)) (am_lf 4 (a_iload 1 5)))) (am_nd 8 (am_lf 5 (a_cvI tT mX10_isPerson 10 1 8)) (am_nd 11 (am_lf 8 (a_if (fun x => x = nI 0) 25 11)) (am_lf 11 (a_aload 0 12))))) (am_nd 19 (am_nd 15 (am_lf 12 (a_get tT 11 0 15)) (am_nd 18 (am_lf 15 (a_get tT 10 11 18)) (am_lf 18 (a_iload 1 19)))) (am_nd 25 (am_nd 22 (am_lf 19 (a_cvI tT mX5_cousinsOf 5 1 22)) (am_lf 22 (a_goto 26))) (am_nd 26 (am_lf 25 (a_const (-1) 26)) (am_lf 26 (a_iret)))))
theorem gX11_cousins_0 : am_Good tT mX11_cousins tX11_cousins_0 := am_nd_ok (am_nd_ok (am_nd_ok (am_lf_ok (fun _ => ok_aload_n dX11_cousins_0 rfl rfl)) (am_nd_ok (am_lf_ok (fun _ => ok_get (C := RX11) (TT := TX11) (N := 10) rfl inw_X11 (Nat.le_of_ble_eq_true rfl) wd_295 dX11_cousins_1 rfl)) (am_lf_ok (fun _ => ok_iload_n dX11_cousins_4 rfl rfl)))) (am_nd_ok (am_lf_ok (fun _ => ok_cvI rfl mw_X10_isPerson (ci := 10) rfl rfl wd_317 wd_318 wd_319 dX11_cousins_5 rfl)) (am_nd_ok (am_lf_ok (fun _ => ok_if_eq dX11_cousins_8 rfl rfl)) (am_lf_ok (fun _ => ok_aload_n dX11_cousins_11 rfl rfl))))) (am_nd_ok (am_nd_ok (am_lf_ok (fun _ => ok_get (C := RX11) (TT := TX11) (N := 10) rfl inw_X11 (Nat.le_of_ble_eq_true rfl) wd_295 dX11_cousins_12 rfl)) (am_nd_ok (am_lf_ok (fun _ => ok_get (C := RX10) (TT := TX10) (N := 14) rfl inw_X10 (Nat.le_of_ble_eq_true rfl) wd_307 dX11_cousins_15 rfl)) (am_lf_ok (fun _ => ok_iload_n dX11_cousins_18 rfl rfl)))) (am_nd_ok (am_nd_ok (am_lf_ok (fun _ => ok_cvI rfl mw_X5_cousinsOf (ci := 5) rfl rfl wd_384 wd_385 wd_386 dX11_cousins_19 rfl)) (am_lf_ok (fun _ => ok_goto dX11_cousins_22 rfl))) (am_nd_ok (am_lf_ok (fun _ => ok_iconst dX11_cousins_25 cv_iconst_m1 rfl)) (am_lf_ok (fun _ => ok_iret rfl dX11_cousins_26)))))
def tX11_cousins : Nat → Option am_Act := tX11_cousins_0
theorem gX11_cousins : am_Good tT mX11_cousins tX11_cousins := gX11_cousins_0
theorem dX11_estate_0 : decode cX11_estate 0 = .ok (.aload_n 0, 1) := by decide +kernel
theorem dX11_estate_1 : decode cX11_estate 1 = .ok (.getfield 22, 3) := by decide +kernel
theorem dX11_estate_4 : decode cX11_estate 4 = .ok (.iload_n 1, 1) := by decide +kernel
theorem dX11_estate_5 : decode cX11_estate 5 = .ok (.invokevirtual 124, 3) := by decide +kernel
theorem dX11_estate_8 : decode cX11_estate 8 = .ok (.ifCond .ne 5, 3) := by decide +kernel
theorem dX11_estate_11 : decode cX11_estate 11 = .ok (.iconst (-1), 1) := by decide +kernel
theorem dX11_estate_12 : decode cX11_estate 12 = .ok (.ireturn, 1) := by decide +kernel
theorem dX11_estate_13 : decode cX11_estate 13 = .ok (.aload_n 0, 1) := by decide +kernel
theorem dX11_estate_14 : decode cX11_estate 14 = .ok (.getfield 22, 3) := by decide +kernel
theorem dX11_estate_17 : decode cX11_estate 17 = .ok (.getfield 103, 3) := by decide +kernel
theorem dX11_estate_20 : decode cX11_estate 20 = .ok (.iload_n 1, 1) := by decide +kernel
theorem dX11_estate_21 : decode cX11_estate 21 = .ok (.invokevirtual 255, 3) := by decide +kernel
theorem dX11_estate_24 : decode cX11_estate 24 = .ok (.invokestatic 258, 3) := by decide +kernel
theorem dX11_estate_27 : decode cX11_estate 27 = .ok (.istore_n 2, 1) := by decide +kernel
theorem dX11_estate_28 : decode cX11_estate 28 = .ok (.iload_n 2, 1) := by decide +kernel
theorem dX11_estate_29 : decode cX11_estate 29 = .ok (.ifCond .ne 7, 3) := by decide +kernel
theorem dX11_estate_32 : decode cX11_estate 32 = .ok (.iconst (-1), 1) := by decide +kernel
theorem dX11_estate_33 : decode cX11_estate 33 = .ok (.goto 17, 3) := by decide +kernel
theorem dX11_estate_36 : decode cX11_estate 36 = .ok (.aload_n 0, 1) := by decide +kernel
theorem dX11_estate_37 : decode cX11_estate 37 = .ok (.getfield 22, 3) := by decide +kernel
theorem dX11_estate_40 : decode cX11_estate 40 = .ok (.getfield 103, 3) := by decide +kernel
theorem dX11_estate_43 : decode cX11_estate 43 = .ok (.getfield 218, 3) := by decide +kernel
theorem dX11_estate_46 : decode cX11_estate 46 = .ok (.iload_n 1, 1) := by decide +kernel
theorem dX11_estate_47 : decode cX11_estate 47 = .ok (.iaload, 1) := by decide +kernel
theorem dX11_estate_48 : decode cX11_estate 48 = .ok (.iload_n 2, 1) := by decide +kernel
theorem dX11_estate_49 : decode cX11_estate 49 = .ok (.idiv, 1) := by decide +kernel
theorem dX11_estate_50 : decode cX11_estate 50 = .ok (.ireturn, 1) := by decide +kernel
def tX11_estate_0 : Nat → Option am_Act := am_nd 24 (am_nd 12 (am_nd 5 (am_nd 1 (am_lf 0 (a_aload 0 1)) (am_nd 4 (am_lf 1 (a_get tT 11 0 4)) (am_lf 4 (a_iload 1 5)))) (am_nd 8 (am_lf 5 (a_cvI tT mX10_isPerson 10 1 8)) (am_nd 11 (am_lf 8 (a_if (fun x => x = nI 0) 11 13)) (am_lf 11 (a_const (-1) 12))))) (am_nd 17 (am_nd 13 (am_lf 12 (a_iret)) (am_nd 14 (am_lf 13 (a_aload 0 14)) (am_lf 14 (a_get tT 11 0 17)))) (am_nd 20 (am_lf 17 (a_get tT 10 11 20)) (am_nd 21 (am_lf 20 (a_iload 1 21)) (am_lf 21 (a_cvI tT mX5_cousinsOf 5 1 24)))))) (am_nd 36 (am_nd 29 (am_nd 27 (am_lf 24 (a_csI mJ6_bitCount_0f7a4 1 27)) (am_nd 28 (am_lf 27 (a_istore 2 28)) (am_lf 28 (a_iload 2 29)))) (am_nd 32 (am_lf 29 (a_if (fun x => x = nI 0) 32 36)) (am_nd 33 (am_lf 32 (a_const (-1) 33)) (am_lf 33 (a_goto 50))))) (am_nd 43 (am_nd 37 (am_lf 36 (a_aload 0 37)) (am_nd 40 (am_lf 37 (a_get tT 11 0 40)) (am_lf 40 (a_get tT 10 11 43)))) (am_nd 46 (am_lf 43 (a_get tT 5 2 46)) (am_nd 47 (am_lf 46 (a_iload 1 47)) (am_lf 47 (a_iald tT 48))))))
theorem gX11_estate_0 : am_Good tT mX11_estate tX11_estate_0 := am_nd_ok (am_nd_ok (am_nd_ok (am_nd_ok (am_lf_ok (fun _ => ok_aload_n dX11_estate_0 rfl rfl)) (am_nd_ok (am_lf_ok (fun _ => ok_get (C := RX11) (TT := TX11) (N := 10) rfl inw_X11 (Nat.le_of_ble_eq_true rfl) wd_295 dX11_estate_1 rfl)) (am_lf_ok (fun _ => ok_iload_n dX11_estate_4 rfl rfl)))) (am_nd_ok (am_lf_ok (fun _ => ok_cvI rfl mw_X10_isPerson (ci := 10) rfl rfl wd_317 wd_318 wd_319 dX11_estate_5 rfl)) (am_nd_ok (am_lf_ok (fun _ => ok_if_ne dX11_estate_8 rfl rfl)) (am_lf_ok (fun _ => ok_iconst dX11_estate_11 cv_iconst_m1 rfl))))) (am_nd_ok (am_nd_ok (am_lf_ok (fun _ => ok_iret rfl dX11_estate_12)) (am_nd_ok (am_lf_ok (fun _ => ok_aload_n dX11_estate_13 rfl rfl)) (am_lf_ok (fun _ => ok_get (C := RX11) (TT := TX11) (N := 10) rfl inw_X11 (Nat.le_of_ble_eq_true rfl) wd_295 dX11_estate_14 rfl)))) (am_nd_ok (am_lf_ok (fun _ => ok_get (C := RX10) (TT := TX10) (N := 14) rfl inw_X10 (Nat.le_of_ble_eq_true rfl) wd_307 dX11_estate_17 rfl)) (am_nd_ok (am_lf_ok (fun _ => ok_iload_n dX11_estate_20 rfl rfl)) (am_lf_ok (fun _ => ok_cvI rfl mw_X5_cousinsOf (ci := 5) rfl rfl wd_384 wd_385 wd_386 dX11_estate_21 rfl)))))) (am_nd_ok (am_nd_ok (am_nd_ok (am_lf_ok (fun _ => ok_csI rfl mw_J6_bitCount_0f7a4 wd_387 wd_2 dX11_estate_24 rfl)) (am_nd_ok (am_lf_ok (fun _ => ok_istore_n dX11_estate_27 rfl (Nat.le_of_ble_eq_true rfl) rfl)) (am_lf_ok (fun _ => ok_iload_n dX11_estate_28 rfl rfl)))) (am_nd_ok (am_lf_ok (fun _ => ok_if_ne dX11_estate_29 rfl rfl)) (am_nd_ok (am_lf_ok (fun _ => ok_iconst dX11_estate_32 cv_iconst_m1 rfl)) (am_lf_ok (fun _ => ok_goto dX11_estate_33 rfl))))) (am_nd_ok (am_nd_ok (am_lf_ok (fun _ => ok_aload_n dX11_estate_36 rfl rfl)) (am_nd_ok (am_lf_ok (fun _ => ok_get (C := RX11) (TT := TX11) (N := 10) rfl inw_X11 (Nat.le_of_ble_eq_true rfl) wd_295 dX11_estate_37 rfl)) (am_lf_ok (fun _ => ok_get (C := RX10) (TT := TX10) (N := 14) rfl inw_X10 (Nat.le_of_ble_eq_true rfl) wd_307 dX11_estate_40 rfl)))) (am_nd_ok (am_lf_ok (fun _ => ok_get (C := RX5) (TT := TX5) (N := 8) rfl inw_X5 (Nat.le_of_ble_eq_true rfl) wd_369 dX11_estate_43 rfl)) (am_nd_ok (am_lf_ok (fun _ => ok_iload_n dX11_estate_46 rfl rfl)) (am_lf_ok (fun _ => ok_iald dX11_estate_47 rfl))))))
def tX11_estate_1 : Nat → Option am_Act := am_nd 49 (am_lf 48 (a_iload 2 49)) (am_nd 50 (am_lf 49 (a_divr (fun x y => x / y) 50)) (am_lf 50 (a_iret)))
theorem gX11_estate_1 : am_Good tT mX11_estate tX11_estate_1 := am_nd_ok (am_lf_ok (fun _ => ok_iload_n dX11_estate_48 rfl rfl)) (am_nd_ok (am_lf_ok (fun _ => ok_idiv dX11_estate_49 rfl)) (am_lf_ok (fun _ => ok_iret rfl dX11_estate_50)))
def tX11_estate : Nat → Option am_Act := am_nd 48 (tX11_estate_0) (tX11_estate_1)
theorem gX11_estate : am_Good tT mX11_estate tX11_estate := am_nd_ok (gX11_estate_0) (gX11_estate_1)
theorem dX11_behind_0 : decode cX11_behind 0 = .ok (.aload_n 0, 1) := by decide +kernel
theorem dX11_behind_1 : decode cX11_behind 1 = .ok (.getfield 22, 3) := by decide +kernel
theorem dX11_behind_4 : decode cX11_behind 4 = .ok (.iload_n 1, 1) := by decide +kernel
theorem dX11_behind_5 : decode cX11_behind 5 = .ok (.invokevirtual 124, 3) := by decide +kernel
theorem dX11_behind_8 : decode cX11_behind 8 = .ok (.ifCond .ne 5, 3) := by decide +kernel
theorem dX11_behind_11 : decode cX11_behind 11 = .ok (.iconst (-1), 1) := by decide +kernel
theorem dX11_behind_12 : decode cX11_behind 12 = .ok (.ireturn, 1) := by decide +kernel
theorem dX11_behind_13 : decode cX11_behind 13 = .ok (.aload_n 0, 1) := by decide +kernel
theorem dX11_behind_14 : decode cX11_behind 14 = .ok (.getfield 51, 3) := by decide +kernel
theorem dX11_behind_17 : decode cX11_behind 17 = .ok (.iload_n 2, 1) := by decide +kernel
theorem dX11_behind_18 : decode cX11_behind 18 = .ok (.iload_n 3, 1) := by decide +kernel
theorem dX11_behind_19 : decode cX11_behind 19 = .ok (.iload 4, 2) := by decide +kernel
theorem dX11_behind_21 : decode cX11_behind 21 = .ok (.iload 5, 2) := by decide +kernel
theorem dX11_behind_23 : decode cX11_behind 23 = .ok (.iload 6, 2) := by decide +kernel
theorem dX11_behind_25 : decode cX11_behind 25 = .ok (.invokevirtual 263, 3) := by decide +kernel
theorem dX11_behind_28 : decode cX11_behind 28 = .ok (.aload_n 0, 1) := by decide +kernel
theorem dX11_behind_29 : decode cX11_behind 29 = .ok (.getfield 51, 3) := by decide +kernel
theorem dX11_behind_32 : decode cX11_behind 32 = .ok (.aload_n 0, 1) := by decide +kernel
theorem dX11_behind_33 : decode cX11_behind 33 = .ok (.getfield 22, 3) := by decide +kernel
theorem dX11_behind_36 : decode cX11_behind 36 = .ok (.getfield 103, 3) := by decide +kernel
theorem dX11_behind_39 : decode cX11_behind 39 = .ok (.getfield 215, 3) := by decide +kernel
theorem dX11_behind_42 : decode cX11_behind 42 = .ok (.iload_n 1, 1) := by decide +kernel
theorem dX11_behind_43 : decode cX11_behind 43 = .ok (.iaload, 1) := by decide +kernel
theorem dX11_behind_44 : decode cX11_behind 44 = .ok (.invokevirtual 267, 3) := by decide +kernel
theorem dX11_behind_47 : decode cX11_behind 47 = .ok (.ifCond .ne 5, 3) := by decide +kernel
theorem dX11_behind_50 : decode cX11_behind 50 = .ok (.iconst (-1), 1) := by decide +kernel
theorem dX11_behind_51 : decode cX11_behind 51 = .ok (.ireturn, 1) := by decide +kernel
theorem dX11_behind_52 : decode cX11_behind 52 = .ok (.aload_n 0, 1) := by decide +kernel
theorem dX11_behind_53 : decode cX11_behind 53 = .ok (.getfield 51, 3) := by decide +kernel
theorem dX11_behind_56 : decode cX11_behind 56 = .ok (.iload_n 1, 1) := by decide +kernel
theorem dX11_behind_57 : decode cX11_behind 57 = .ok (.invokevirtual 270, 3) := by decide +kernel
theorem dX11_behind_60 : decode cX11_behind 60 = .ok (.istore 7, 2) := by decide +kernel
theorem dX11_behind_62 : decode cX11_behind 62 = .ok (.aload_n 0, 1) := by decide +kernel
theorem dX11_behind_63 : decode cX11_behind 63 = .ok (.getfield 22, 3) := by decide +kernel
theorem dX11_behind_66 : decode cX11_behind 66 = .ok (.getfield 103, 3) := by decide +kernel
theorem dX11_behind_69 : decode cX11_behind 69 = .ok (.getfield 228, 3) := by decide +kernel
theorem dX11_behind_72 : decode cX11_behind 72 = .ok (.iload_n 1, 1) := by decide +kernel
theorem dX11_behind_73 : decode cX11_behind 73 = .ok (.iaload, 1) := by decide +kernel
theorem dX11_behind_74 : decode cX11_behind 74 = .ok (.istore 8, 2) := by decide +kernel
theorem dX11_behind_76 : decode cX11_behind 76 = .ok (.aload_n 0, 1) := by decide +kernel
theorem dX11_behind_77 : decode cX11_behind 77 = .ok (.getfield 51, 3) := by decide +kernel
theorem dX11_behind_80 : decode cX11_behind 80 = .ok (.iload_n 1, 1) := by decide +kernel
theorem dX11_behind_81 : decode cX11_behind 81 = .ok (.invokevirtual 273, 3) := by decide +kernel
theorem dX11_behind_84 : decode cX11_behind 84 = .ok (.iload 7, 2) := by decide +kernel
theorem dX11_behind_86 : decode cX11_behind 86 = .ok (.ifCond .eq 8, 3) := by decide +kernel
theorem dX11_behind_89 : decode cX11_behind 89 = .ok (.iload 8, 2) := by decide +kernel
theorem dX11_behind_91 : decode cX11_behind 91 = .ok (.goto 5, 3) := by decide +kernel
theorem dX11_behind_94 : decode cX11_behind 94 = .ok (.bipush (-2), 2) := by decide +kernel
theorem dX11_behind_96 : decode cX11_behind 96 = .ok (.ireturn, 1) := by decide +kernel
def tX11_behind_0 : Nat → Option am_Act := am_nd 21 (am_nd 12 (am_nd 5 (am_nd 1 (am_lf 0 (a_aload 0 1)) (am_nd 4 (am_lf 1 (a_get tT 11 0 4)) (am_lf 4 (a_iload 1 5)))) (am_nd 8 (am_lf 5 (a_cvI tT mX10_isPerson 10 1 8)) (am_nd 11 (am_lf 8 (a_if (fun x => x = nI 0) 11 13)) (am_lf 11 (a_const (-1) 12))))) (am_nd 17 (am_nd 13 (am_lf 12 (a_iret)) (am_nd 14 (am_lf 13 (a_aload 0 14)) (am_lf 14 (a_get tT 11 6 17)))) (am_nd 18 (am_lf 17 (a_iload 2 18)) (am_nd 19 (am_lf 18 (a_iload 3 19)) (am_lf 19 (a_iload 4 21)))))) (am_nd 33 (am_nd 28 (am_nd 23 (am_lf 21 (a_iload 5 23)) (am_nd 25 (am_lf 23 (a_iload 6 25)) (am_lf 25 (a_cvV tT mX9_startWay 9 5 28)))) (am_nd 29 (am_lf 28 (a_aload 0 29)) (am_nd 32 (am_lf 29 (a_get tT 11 6 32)) (am_lf 32 (a_aload 0 33))))) (am_nd 42 (am_nd 36 (am_lf 33 (a_get tT 11 0 36)) (am_nd 39 (am_lf 36 (a_get tT 10 11 39)) (am_lf 39 (a_get tT 5 1 42)))) (am_nd 43 (am_lf 42 (a_iload 1 43)) (am_nd 44 (am_lf 43 (a_iald tT 44)) (am_lf 44 (a_cvI tT mX9_canBe 9 1 47))))))
theorem gX11_behind_0 : am_Good tT mX11_behind tX11_behind_0 := am_nd_ok (am_nd_ok (am_nd_ok (am_nd_ok (am_lf_ok (fun _ => ok_aload_n dX11_behind_0 rfl rfl)) (am_nd_ok (am_lf_ok (fun _ => ok_get (C := RX11) (TT := TX11) (N := 10) rfl inw_X11 (Nat.le_of_ble_eq_true rfl) wd_295 dX11_behind_1 rfl)) (am_lf_ok (fun _ => ok_iload_n dX11_behind_4 rfl rfl)))) (am_nd_ok (am_lf_ok (fun _ => ok_cvI rfl mw_X10_isPerson (ci := 10) rfl rfl wd_317 wd_318 wd_319 dX11_behind_5 rfl)) (am_nd_ok (am_lf_ok (fun _ => ok_if_ne dX11_behind_8 rfl rfl)) (am_lf_ok (fun _ => ok_iconst dX11_behind_11 cv_iconst_m1 rfl))))) (am_nd_ok (am_nd_ok (am_lf_ok (fun _ => ok_iret rfl dX11_behind_12)) (am_nd_ok (am_lf_ok (fun _ => ok_aload_n dX11_behind_13 rfl rfl)) (am_lf_ok (fun _ => ok_get (C := RX11) (TT := TX11) (N := 10) rfl inw_X11 (Nat.le_of_ble_eq_true rfl) wd_388 dX11_behind_14 rfl)))) (am_nd_ok (am_lf_ok (fun _ => ok_iload_n dX11_behind_17 rfl rfl)) (am_nd_ok (am_lf_ok (fun _ => ok_iload_n dX11_behind_18 rfl rfl)) (am_lf_ok (fun _ => ok_iload dX11_behind_19 rfl)))))) (am_nd_ok (am_nd_ok (am_nd_ok (am_lf_ok (fun _ => ok_iload dX11_behind_21 rfl)) (am_nd_ok (am_lf_ok (fun _ => ok_iload dX11_behind_23 rfl)) (am_lf_ok (fun _ => ok_cvV rfl mw_X9_startWay (ci := 9) rfl rfl wd_389 wd_390 wd_391 dX11_behind_25 rfl)))) (am_nd_ok (am_lf_ok (fun _ => ok_aload_n dX11_behind_28 rfl rfl)) (am_nd_ok (am_lf_ok (fun _ => ok_get (C := RX11) (TT := TX11) (N := 10) rfl inw_X11 (Nat.le_of_ble_eq_true rfl) wd_388 dX11_behind_29 rfl)) (am_lf_ok (fun _ => ok_aload_n dX11_behind_32 rfl rfl))))) (am_nd_ok (am_nd_ok (am_lf_ok (fun _ => ok_get (C := RX11) (TT := TX11) (N := 10) rfl inw_X11 (Nat.le_of_ble_eq_true rfl) wd_295 dX11_behind_33 rfl)) (am_nd_ok (am_lf_ok (fun _ => ok_get (C := RX10) (TT := TX10) (N := 14) rfl inw_X10 (Nat.le_of_ble_eq_true rfl) wd_307 dX11_behind_36 rfl)) (am_lf_ok (fun _ => ok_get (C := RX5) (TT := TX5) (N := 8) rfl inw_X5 (Nat.le_of_ble_eq_true rfl) wd_368 dX11_behind_39 rfl)))) (am_nd_ok (am_lf_ok (fun _ => ok_iload_n dX11_behind_42 rfl rfl)) (am_nd_ok (am_lf_ok (fun _ => ok_iald dX11_behind_43 rfl)) (am_lf_ok (fun _ => ok_cvI rfl mw_X9_canBe (ci := 9) rfl rfl wd_392 wd_393 wd_394 dX11_behind_44 rfl))))))
def tX11_behind_1 : Nat → Option am_Act := am_nd 72 (am_nd 57 (am_nd 52 (am_nd 50 (am_lf 47 (a_if (fun x => x = nI 0) 50 52)) (am_nd 51 (am_lf 50 (a_const (-1) 51)) (am_lf 51 (a_iret)))) (am_nd 53 (am_lf 52 (a_aload 0 53)) (am_nd 56 (am_lf 53 (a_get tT 11 6 56)) (am_lf 56 (a_iload 1 57))))) (am_nd 63 (am_nd 60 (am_lf 57 (a_cvI tT mX9_go 9 1 60)) (am_nd 62 (am_lf 60 (a_istore 7 62)) (am_lf 62 (a_aload 0 63)))) (am_nd 66 (am_lf 63 (a_get tT 11 0 66)) (am_nd 69 (am_lf 66 (a_get tT 10 11 69)) (am_lf 69 (a_get tT 5 5 72)))))) (am_nd 81 (am_nd 76 (am_nd 73 (am_lf 72 (a_iload 1 73)) (am_nd 74 (am_lf 73 (a_iald tT 74)) (am_lf 74 (a_istore 8 76)))) (am_nd 77 (am_lf 76 (a_aload 0 77)) (am_nd 80 (am_lf 77 (a_get tT 11 6 80)) (am_lf 80 (a_iload 1 81))))) (am_nd 89 (am_nd 84 (am_lf 81 (a_cvV tT mX9_back 9 1 84)) (am_nd 86 (am_lf 84 (a_iload 7 86)) (am_lf 86 (a_if (fun x => x = nI 0) 94 89)))) (am_nd 91 (am_lf 89 (a_iload 8 91)) (am_nd 94 (am_lf 91 (a_goto 96)) (am_lf 94 (a_const (-2) 96))))))
theorem gX11_behind_1 : am_Good tT mX11_behind tX11_behind_1 := am_nd_ok (am_nd_ok (am_nd_ok (am_nd_ok (am_lf_ok (fun _ => ok_if_ne dX11_behind_47 rfl rfl)) (am_nd_ok (am_lf_ok (fun _ => ok_iconst dX11_behind_50 cv_iconst_m1 rfl)) (am_lf_ok (fun _ => ok_iret rfl dX11_behind_51)))) (am_nd_ok (am_lf_ok (fun _ => ok_aload_n dX11_behind_52 rfl rfl)) (am_nd_ok (am_lf_ok (fun _ => ok_get (C := RX11) (TT := TX11) (N := 10) rfl inw_X11 (Nat.le_of_ble_eq_true rfl) wd_388 dX11_behind_53 rfl)) (am_lf_ok (fun _ => ok_iload_n dX11_behind_56 rfl rfl))))) (am_nd_ok (am_nd_ok (am_lf_ok (fun _ => ok_cvI rfl mw_X9_go (ci := 9) rfl rfl wd_395 wd_176 wd_177 dX11_behind_57 rfl)) (am_nd_ok (am_lf_ok (fun _ => ok_istore dX11_behind_60 (Nat.le_of_ble_eq_true rfl) rfl)) (am_lf_ok (fun _ => ok_aload_n dX11_behind_62 rfl rfl)))) (am_nd_ok (am_lf_ok (fun _ => ok_get (C := RX11) (TT := TX11) (N := 10) rfl inw_X11 (Nat.le_of_ble_eq_true rfl) wd_295 dX11_behind_63 rfl)) (am_nd_ok (am_lf_ok (fun _ => ok_get (C := RX10) (TT := TX10) (N := 14) rfl inw_X10 (Nat.le_of_ble_eq_true rfl) wd_307 dX11_behind_66 rfl)) (am_lf_ok (fun _ => ok_get (C := RX5) (TT := TX5) (N := 8) rfl inw_X5 (Nat.le_of_ble_eq_true rfl) wd_372 dX11_behind_69 rfl)))))) (am_nd_ok (am_nd_ok (am_nd_ok (am_lf_ok (fun _ => ok_iload_n dX11_behind_72 rfl rfl)) (am_nd_ok (am_lf_ok (fun _ => ok_iald dX11_behind_73 rfl)) (am_lf_ok (fun _ => ok_istore dX11_behind_74 (Nat.le_of_ble_eq_true rfl) rfl)))) (am_nd_ok (am_lf_ok (fun _ => ok_aload_n dX11_behind_76 rfl rfl)) (am_nd_ok (am_lf_ok (fun _ => ok_get (C := RX11) (TT := TX11) (N := 10) rfl inw_X11 (Nat.le_of_ble_eq_true rfl) wd_388 dX11_behind_77 rfl)) (am_lf_ok (fun _ => ok_iload_n dX11_behind_80 rfl rfl))))) (am_nd_ok (am_nd_ok (am_lf_ok (fun _ => ok_cvV rfl mw_X9_back (ci := 9) rfl rfl wd_396 wd_179 wd_180 dX11_behind_81 rfl)) (am_nd_ok (am_lf_ok (fun _ => ok_iload dX11_behind_84 rfl)) (am_lf_ok (fun _ => ok_if_eq dX11_behind_86 rfl rfl)))) (am_nd_ok (am_lf_ok (fun _ => ok_iload dX11_behind_89 rfl)) (am_nd_ok (am_lf_ok (fun _ => ok_goto dX11_behind_91 rfl)) (am_lf_ok (fun _ => ok_bipush dX11_behind_94 cv_bipush_m2 rfl))))))
def tX11_behind_2 : Nat → Option am_Act := am_lf 96 (a_iret)
theorem gX11_behind_2 : am_Good tT mX11_behind tX11_behind_2 := am_lf_ok (fun _ => ok_iret rfl dX11_behind_96)
def tX11_behind : Nat → Option am_Act := am_nd 47 (tX11_behind_0) (am_nd 96 (tX11_behind_1) (tX11_behind_2))
theorem gX11_behind : am_Good tT mX11_behind tX11_behind := am_nd_ok (gX11_behind_0) (am_nd_ok (gX11_behind_1) (gX11_behind_2))
theorem dX11_best_0 : decode cX11_best 0 = .ok (.aload_n 0, 1) := by decide +kernel
theorem dX11_best_1 : decode cX11_best 1 = .ok (.getfield 22, 3) := by decide +kernel
theorem dX11_best_4 : decode cX11_best 4 = .ok (.iload_n 1, 1) := by decide +kernel
theorem dX11_best_5 : decode cX11_best 5 = .ok (.invokevirtual 124, 3) := by decide +kernel
theorem dX11_best_8 : decode cX11_best 8 = .ok (.ifCond .eq 26, 3) := by decide +kernel
theorem dX11_best_11 : decode cX11_best 11 = .ok (.iload_n 2, 1) := by decide +kernel
theorem dX11_best_12 : decode cX11_best 12 = .ok (.invokestatic 99, 3) := by decide +kernel
theorem dX11_best_15 : decode cX11_best 15 = .ok (.ifCond .eq 19, 3) := by decide +kernel
theorem dX11_best_18 : decode cX11_best 18 = .ok (.aload_n 0, 1) := by decide +kernel
theorem dX11_best_19 : decode cX11_best 19 = .ok (.getfield 22, 3) := by decide +kernel
theorem dX11_best_22 : decode cX11_best 22 = .ok (.getfield 103, 3) := by decide +kernel
theorem dX11_best_25 : decode cX11_best 25 = .ok (.getfield 215, 3) := by decide +kernel
theorem dX11_best_28 : decode cX11_best 28 = .ok (.iload_n 1, 1) := by decide +kernel
theorem dX11_best_29 : decode cX11_best 29 = .ok (.iaload, 1) := by decide +kernel
theorem dX11_best_30 : decode cX11_best 30 = .ok (.iload_n 2, 1) := by decide +kernel
theorem dX11_best_31 : decode cX11_best 31 = .ok (.if_icmp .ne 5, 3) := by decide +kernel
theorem dX11_best_34 : decode cX11_best 34 = .ok (.iconst (-1), 1) := by decide +kernel
theorem dX11_best_35 : decode cX11_best 35 = .ok (.ireturn, 1) := by decide +kernel
theorem dX11_best_36 : decode cX11_best 36 = .ok (.aload_n 0, 1) := by decide +kernel
theorem dX11_best_37 : decode cX11_best 37 = .ok (.getfield 58, 3) := by decide +kernel
theorem dX11_best_40 : decode cX11_best 40 = .ok (.iload_n 1, 1) := by decide +kernel
theorem dX11_best_41 : decode cX11_best 41 = .ok (.iload_n 2, 1) := by decide +kernel
theorem dX11_best_42 : decode cX11_best 42 = .ok (.invokevirtual 276, 3) := by decide +kernel
theorem dX11_best_45 : decode cX11_best 45 = .ok (.ifCond .ne 5, 3) := by decide +kernel
theorem dX11_best_48 : decode cX11_best 48 = .ok (.iconst (-1), 1) := by decide +kernel
theorem dX11_best_49 : decode cX11_best 49 = .ok (.ireturn, 1) := by decide +kernel
theorem dX11_best_50 : decode cX11_best 50 = .ok (.iload_n 3, 1) := by decide +kernel
theorem dX11_best_51 : decode cX11_best 51 = .ok (.ifCond .ne 11, 3) := by decide +kernel
theorem dX11_best_54 : decode cX11_best 54 = .ok (.aload_n 0, 1) := by decide +kernel
theorem dX11_best_55 : decode cX11_best 55 = .ok (.getfield 58, 3) := by decide +kernel
theorem dX11_best_58 : decode cX11_best 58 = .ok (.getfield 279, 3) := by decide +kernel
theorem dX11_best_61 : decode cX11_best 61 = .ok (.ireturn, 1) := by decide +kernel
theorem dX11_best_62 : decode cX11_best 62 = .ok (.iload_n 3, 1) := by decide +kernel
theorem dX11_best_63 : decode cX11_best 63 = .ok (.iconst 1, 1) := by decide +kernel
theorem dX11_best_64 : decode cX11_best 64 = .ok (.if_icmp .ne 11, 3) := by decide +kernel
theorem dX11_best_67 : decode cX11_best 67 = .ok (.aload_n 0, 1) := by decide +kernel
theorem dX11_best_68 : decode cX11_best 68 = .ok (.getfield 58, 3) := by decide +kernel
theorem dX11_best_71 : decode cX11_best 71 = .ok (.getfield 282, 3) := by decide +kernel
theorem dX11_best_74 : decode cX11_best 74 = .ok (.ireturn, 1) := by decide +kernel
theorem dX11_best_75 : decode cX11_best 75 = .ok (.iload_n 3, 1) := by decide +kernel
theorem dX11_best_76 : decode cX11_best 76 = .ok (.aload_n 0, 1) := by decide +kernel
theorem dX11_best_77 : decode cX11_best 77 = .ok (.getfield 58, 3) := by decide +kernel
theorem dX11_best_80 : decode cX11_best 80 = .ok (.getfield 282, 3) := by decide +kernel
theorem dX11_best_83 : decode cX11_best 83 = .ok (.invokestatic 231, 3) := by decide +kernel
theorem dX11_best_86 : decode cX11_best 86 = .ok (.ifCond .eq 18, 3) := by decide +kernel
theorem dX11_best_89 : decode cX11_best 89 = .ok (.aload_n 0, 1) := by decide +kernel
theorem dX11_best_90 : decode cX11_best 90 = .ok (.getfield 58, 3) := by decide +kernel
theorem dX11_best_93 : decode cX11_best 93 = .ok (.getfield 283, 3) := by decide +kernel
theorem dX11_best_96 : decode cX11_best 96 = .ok (.iload_n 3, 1) := by decide +kernel
theorem dX11_best_97 : decode cX11_best 97 = .ok (.bipush 10, 2) := by decide +kernel
theorem dX11_best_99 : decode cX11_best 99 = .ok (.isub, 1) := by decide +kernel
theorem dX11_best_100 : decode cX11_best 100 = .ok (.iaload, 1) := by decide +kernel
theorem dX11_best_101 : decode cX11_best 101 = .ok (.goto 4, 3) := by decide +kernel
theorem dX11_best_104 : decode cX11_best 104 = .ok (.iconst (-1), 1) := by decide +kernel
theorem dX11_best_105 : decode cX11_best 105 = .ok (.ireturn, 1) := by decide +kernel
def tX11_best_0 : Nat → Option am_Act := am_nd 28 (am_nd 12 (am_nd 5 (am_nd 1 (am_lf 0 (a_aload 0 1)) (am_nd 4 (am_lf 1 (a_get tT 11 0 4)) (am_lf 4 (a_iload 1 5)))) (am_nd 8 (am_lf 5 (a_cvI tT mX10_isPerson 10 1 8)) (am_nd 11 (am_lf 8 (a_if (fun x => x = nI 0) 34 11)) (am_lf 11 (a_iload 2 12))))) (am_nd 19 (am_nd 15 (am_lf 12 (a_csI mX11_isPlace 1 15)) (am_nd 18 (am_lf 15 (a_if (fun x => x = nI 0) 34 18)) (am_lf 18 (a_aload 0 19)))) (am_nd 22 (am_lf 19 (a_get tT 11 0 22)) (am_nd 25 (am_lf 22 (a_get tT 10 11 25)) (am_lf 25 (a_get tT 5 1 28)))))) (am_nd 36 (am_nd 31 (am_nd 29 (am_lf 28 (a_iload 1 29)) (am_nd 30 (am_lf 29 (a_iald tT 30)) (am_lf 30 (a_iload 2 31)))) (am_nd 34 (am_lf 31 (a_cmp (fun x y => x = y) 34 36)) (am_nd 35 (am_lf 34 (a_const (-1) 35)) (am_lf 35 (a_iret))))) (am_nd 41 (am_nd 37 (am_lf 36 (a_aload 0 37)) (am_nd 40 (am_lf 37 (a_get tT 11 7 40)) (am_lf 40 (a_iload 1 41)))) (am_nd 42 (am_lf 41 (a_iload 2 42)) (am_nd 45 (am_lf 42 (a_cvI tT mX1_find 1 2 45)) (am_lf 45 (a_if (fun x => x = nI 0) 48 50))))))
theorem gX11_best_0 : am_Good tT mX11_best tX11_best_0 := am_nd_ok (am_nd_ok (am_nd_ok (am_nd_ok (am_lf_ok (fun _ => ok_aload_n dX11_best_0 rfl rfl)) (am_nd_ok (am_lf_ok (fun _ => ok_get (C := RX11) (TT := TX11) (N := 10) rfl inw_X11 (Nat.le_of_ble_eq_true rfl) wd_295 dX11_best_1 rfl)) (am_lf_ok (fun _ => ok_iload_n dX11_best_4 rfl rfl)))) (am_nd_ok (am_lf_ok (fun _ => ok_cvI rfl mw_X10_isPerson (ci := 10) rfl rfl wd_317 wd_318 wd_319 dX11_best_5 rfl)) (am_nd_ok (am_lf_ok (fun _ => ok_if_eq dX11_best_8 rfl rfl)) (am_lf_ok (fun _ => ok_iload_n dX11_best_11 rfl rfl))))) (am_nd_ok (am_nd_ok (am_lf_ok (fun _ => ok_csI rfl mw_X11_isPlace wd_305 wd_306 dX11_best_12 rfl)) (am_nd_ok (am_lf_ok (fun _ => ok_if_eq dX11_best_15 rfl rfl)) (am_lf_ok (fun _ => ok_aload_n dX11_best_18 rfl rfl)))) (am_nd_ok (am_lf_ok (fun _ => ok_get (C := RX11) (TT := TX11) (N := 10) rfl inw_X11 (Nat.le_of_ble_eq_true rfl) wd_295 dX11_best_19 rfl)) (am_nd_ok (am_lf_ok (fun _ => ok_get (C := RX10) (TT := TX10) (N := 14) rfl inw_X10 (Nat.le_of_ble_eq_true rfl) wd_307 dX11_best_22 rfl)) (am_lf_ok (fun _ => ok_get (C := RX5) (TT := TX5) (N := 8) rfl inw_X5 (Nat.le_of_ble_eq_true rfl) wd_368 dX11_best_25 rfl)))))) (am_nd_ok (am_nd_ok (am_nd_ok (am_lf_ok (fun _ => ok_iload_n dX11_best_28 rfl rfl)) (am_nd_ok (am_lf_ok (fun _ => ok_iald dX11_best_29 rfl)) (am_lf_ok (fun _ => ok_iload_n dX11_best_30 rfl rfl)))) (am_nd_ok (am_lf_ok (fun _ => ok_cmp_ne dX11_best_31 rfl rfl)) (am_nd_ok (am_lf_ok (fun _ => ok_iconst dX11_best_34 cv_iconst_m1 rfl)) (am_lf_ok (fun _ => ok_iret rfl dX11_best_35))))) (am_nd_ok (am_nd_ok (am_lf_ok (fun _ => ok_aload_n dX11_best_36 rfl rfl)) (am_nd_ok (am_lf_ok (fun _ => ok_get (C := RX11) (TT := TX11) (N := 10) rfl inw_X11 (Nat.le_of_ble_eq_true rfl) wd_397 dX11_best_37 rfl)) (am_lf_ok (fun _ => ok_iload_n dX11_best_40 rfl rfl)))) (am_nd_ok (am_lf_ok (fun _ => ok_iload_n dX11_best_41 rfl rfl)) (am_nd_ok (am_lf_ok (fun _ => ok_cvI rfl mw_X1_find (ci := 1) rfl rfl wd_398 wd_399 wd_400 dX11_best_42 rfl)) (am_lf_ok (fun _ => ok_if_ne dX11_best_45 rfl rfl))))))
def tX11_best_1 : Nat → Option am_Act := am_nd 68 (am_nd 58 (am_nd 51 (am_nd 49 (am_lf 48 (a_const (-1) 49)) (am_nd 50 (am_lf 49 (a_iret)) (am_lf 50 (a_iload 3 51)))) (am_nd 54 (am_lf 51 (a_if (fun x => x = nI 0) 54 62)) (am_nd 55 (am_lf 54 (a_aload 0 55)) (am_lf 55 (a_get tT 11 7 58))))) (am_nd 63 (am_nd 61 (am_lf 58 (a_get tT 1 4 61)) (am_nd 62 (am_lf 61 (a_iret)) (am_lf 62 (a_iload 3 63)))) (am_nd 64 (am_lf 63 (a_const (nI 1) 64)) (am_nd 67 (am_lf 64 (a_cmp (fun x y => x = y) 67 75)) (am_lf 67 (a_aload 0 68)))))) (am_nd 80 (am_nd 75 (am_nd 71 (am_lf 68 (a_get tT 11 7 71)) (am_nd 74 (am_lf 71 (a_get tT 1 5 74)) (am_lf 74 (a_iret)))) (am_nd 76 (am_lf 75 (a_iload 3 76)) (am_nd 77 (am_lf 76 (a_aload 0 77)) (am_lf 77 (a_get tT 11 7 80))))) (am_nd 89 (am_nd 83 (am_lf 80 (a_get tT 1 5 83)) (am_nd 86 (am_lf 83 (a_csI mX11_isPart 2 86)) (am_lf 86 (a_if (fun x => x = nI 0) 104 89)))) (am_nd 90 (am_lf 89 (a_aload 0 90)) (am_nd 93 (am_lf 90 (a_get tT 11 7 93)) (am_lf 93 (a_get tT 1 6 96))))))
theorem gX11_best_1 : am_Good tT mX11_best tX11_best_1 := am_nd_ok (am_nd_ok (am_nd_ok (am_nd_ok (am_lf_ok (fun _ => ok_iconst dX11_best_48 cv_iconst_m1 rfl)) (am_nd_ok (am_lf_ok (fun _ => ok_iret rfl dX11_best_49)) (am_lf_ok (fun _ => ok_iload_n dX11_best_50 rfl rfl)))) (am_nd_ok (am_lf_ok (fun _ => ok_if_ne dX11_best_51 rfl rfl)) (am_nd_ok (am_lf_ok (fun _ => ok_aload_n dX11_best_54 rfl rfl)) (am_lf_ok (fun _ => ok_get (C := RX11) (TT := TX11) (N := 10) rfl inw_X11 (Nat.le_of_ble_eq_true rfl) wd_397 dX11_best_55 rfl))))) (am_nd_ok (am_nd_ok (am_lf_ok (fun _ => ok_get (C := RX1) (TT := TX1) (N := 8) rfl inw_X1 (Nat.le_of_ble_eq_true rfl) wd_401 dX11_best_58 rfl)) (am_nd_ok (am_lf_ok (fun _ => ok_iret rfl dX11_best_61)) (am_lf_ok (fun _ => ok_iload_n dX11_best_62 rfl rfl)))) (am_nd_ok (am_lf_ok (fun _ => ok_iconst dX11_best_63 cv_iconst_1 rfl)) (am_nd_ok (am_lf_ok (fun _ => ok_cmp_ne dX11_best_64 rfl rfl)) (am_lf_ok (fun _ => ok_aload_n dX11_best_67 rfl rfl)))))) (am_nd_ok (am_nd_ok (am_nd_ok (am_lf_ok (fun _ => ok_get (C := RX11) (TT := TX11) (N := 10) rfl inw_X11 (Nat.le_of_ble_eq_true rfl) wd_397 dX11_best_68 rfl)) (am_nd_ok (am_lf_ok (fun _ => ok_get (C := RX1) (TT := TX1) (N := 8) rfl inw_X1 (Nat.le_of_ble_eq_true rfl) wd_402 dX11_best_71 rfl)) (am_lf_ok (fun _ => ok_iret rfl dX11_best_74)))) (am_nd_ok (am_lf_ok (fun _ => ok_iload_n dX11_best_75 rfl rfl)) (am_nd_ok (am_lf_ok (fun _ => ok_aload_n dX11_best_76 rfl rfl)) (am_lf_ok (fun _ => ok_get (C := RX11) (TT := TX11) (N := 10) rfl inw_X11 (Nat.le_of_ble_eq_true rfl) wd_397 dX11_best_77 rfl))))) (am_nd_ok (am_nd_ok (am_lf_ok (fun _ => ok_get (C := RX1) (TT := TX1) (N := 8) rfl inw_X1 (Nat.le_of_ble_eq_true rfl) wd_402 dX11_best_80 rfl)) (am_nd_ok (am_lf_ok (fun _ => ok_csI rfl mw_X11_isPart wd_373 wd_374 dX11_best_83 rfl)) (am_lf_ok (fun _ => ok_if_eq dX11_best_86 rfl rfl)))) (am_nd_ok (am_lf_ok (fun _ => ok_aload_n dX11_best_89 rfl rfl)) (am_nd_ok (am_lf_ok (fun _ => ok_get (C := RX11) (TT := TX11) (N := 10) rfl inw_X11 (Nat.le_of_ble_eq_true rfl) wd_397 dX11_best_90 rfl)) (am_lf_ok (fun _ => ok_get (C := RX1) (TT := TX1) (N := 8) rfl inw_X1 (Nat.le_of_ble_eq_true rfl) wd_403 dX11_best_93 rfl))))))
def tX11_best_2 : Nat → Option am_Act := am_nd 100 (am_nd 97 (am_lf 96 (a_iload 3 97)) (am_nd 99 (am_lf 97 (a_const (nI 10) 99)) (am_lf 99 (a_bin (fun x y => x - y) 100)))) (am_nd 104 (am_nd 101 (am_lf 100 (a_iald tT 101)) (am_lf 101 (a_goto 105))) (am_nd 105 (am_lf 104 (a_const (-1) 105)) (am_lf 105 (a_iret))))
theorem gX11_best_2 : am_Good tT mX11_best tX11_best_2 := am_nd_ok (am_nd_ok (am_lf_ok (fun _ => ok_iload_n dX11_best_96 rfl rfl)) (am_nd_ok (am_lf_ok (fun _ => ok_bipush dX11_best_97 cv_bipush_10 rfl)) (am_lf_ok (fun _ => ok_isub dX11_best_99 rfl)))) (am_nd_ok (am_nd_ok (am_lf_ok (fun _ => ok_iald dX11_best_100 rfl)) (am_lf_ok (fun _ => ok_goto dX11_best_101 rfl))) (am_nd_ok (am_lf_ok (fun _ => ok_iconst dX11_best_104 cv_iconst_m1 rfl)) (am_lf_ok (fun _ => ok_iret rfl dX11_best_105))))
def tX11_best : Nat → Option am_Act := am_nd 48 (tX11_best_0) (am_nd 96 (tX11_best_1) (tX11_best_2))
theorem gX11_best : am_Good tT mX11_best tX11_best := am_nd_ok (gX11_best_0) (am_nd_ok (gX11_best_1) (gX11_best_2))
theorem dX11_round_0 : decode cX11_round 0 = .ok (.iload_n 1, 1) := by decide +kernel
theorem dX11_round_1 : decode cX11_round 1 = .ok (.iconst (-1), 1) := by decide +kernel
theorem dX11_round_2 : decode cX11_round 2 = .ok (.if_icmp .ne 13, 3) := by decide +kernel
theorem dX11_round_5 : decode cX11_round 5 = .ok (.aload_n 0, 1) := by decide +kernel
theorem dX11_round_6 : decode cX11_round 6 = .ok (.getfield 22, 3) := by decide +kernel
theorem dX11_round_9 : decode cX11_round 9 = .ok (.iconst 0, 1) := by decide +kernel
theorem dX11_round_10 : decode cX11_round 10 = .ok (.putfield 286, 3) := by decide +kernel
theorem dX11_round_13 : decode cX11_round 13 = .ok (.iconst 0, 1) := by decide +kernel
theorem dX11_round_14 : decode cX11_round 14 = .ok (.ireturn, 1) := by decide +kernel
theorem dX11_round_15 : decode cX11_round 15 = .ok (.aload_n 0, 1) := by decide +kernel
theorem dX11_round_16 : decode cX11_round 16 = .ok (.getfield 22, 3) := by decide +kernel
theorem dX11_round_19 : decode cX11_round 19 = .ok (.iload_n 1, 1) := by decide +kernel
theorem dX11_round_20 : decode cX11_round 20 = .ok (.invokevirtual 237, 3) := by decide +kernel
theorem dX11_round_23 : decode cX11_round 23 = .ok (.ifCond .eq 15, 3) := by decide +kernel
theorem dX11_round_26 : decode cX11_round 26 = .ok (.aload_n 0, 1) := by decide +kernel
theorem dX11_round_27 : decode cX11_round 27 = .ok (.getfield 22, 3) := by decide +kernel
theorem dX11_round_30 : decode cX11_round 30 = .ok (.getfield 286, 3) := by decide +kernel
theorem dX11_round_33 : decode cX11_round 33 = .ok (.bipush 12, 2) := by decide +kernel
theorem dX11_round_35 : decode cX11_round 35 = .ok (.if_icmp .lt 5, 3) := by decide +kernel
theorem dX11_round_38 : decode cX11_round 38 = .ok (.iconst (-1), 1) := by decide +kernel
theorem dX11_round_39 : decode cX11_round 39 = .ok (.ireturn, 1) := by decide +kernel
theorem dX11_round_40 : decode cX11_round 40 = .ok (.aload_n 0, 1) := by decide +kernel
theorem dX11_round_41 : decode cX11_round 41 = .ok (.getfield 22, 3) := by decide +kernel
theorem dX11_round_44 : decode cX11_round 44 = .ok (.getfield 289, 3) := by decide +kernel
theorem dX11_round_47 : decode cX11_round 47 = .ok (.aload_n 0, 1) := by decide +kernel
theorem dX11_round_48 : decode cX11_round 48 = .ok (.getfield 22, 3) := by decide +kernel
theorem dX11_round_51 : decode cX11_round 51 = .ok (.getfield 286, 3) := by decide +kernel
theorem dX11_round_54 : decode cX11_round 54 = .ok (.iload_n 1, 1) := by decide +kernel
theorem dX11_round_55 : decode cX11_round 55 = .ok (.iastore, 1) := by decide +kernel
theorem dX11_round_56 : decode cX11_round 56 = .ok (.aload_n 0, 1) := by decide +kernel
theorem dX11_round_57 : decode cX11_round 57 = .ok (.getfield 22, 3) := by decide +kernel
theorem dX11_round_60 : decode cX11_round 60 = .ok (.dup, 1) := by decide +kernel
theorem dX11_round_61 : decode cX11_round 61 = .ok (.getfield 286, 3) := by decide +kernel
theorem dX11_round_64 : decode cX11_round 64 = .ok (.iconst 1, 1) := by decide +kernel
theorem dX11_round_65 : decode cX11_round 65 = .ok (.iadd, 1) := by decide +kernel
theorem dX11_round_66 : decode cX11_round 66 = .ok (.putfield 286, 3) := by decide +kernel
theorem dX11_round_69 : decode cX11_round 69 = .ok (.aload_n 0, 1) := by decide +kernel
theorem dX11_round_70 : decode cX11_round 70 = .ok (.getfield 22, 3) := by decide +kernel
theorem dX11_round_73 : decode cX11_round 73 = .ok (.getfield 286, 3) := by decide +kernel
theorem dX11_round_76 : decode cX11_round 76 = .ok (.ireturn, 1) := by decide +kernel
def tX11_round_0 : Nat → Option am_Act := am_nd 20 (am_nd 10 (am_nd 5 (am_nd 1 (am_lf 0 (a_iload 1 1)) (am_nd 2 (am_lf 1 (a_const (-1) 2)) (am_lf 2 (a_cmp (fun x y => x = y) 5 15)))) (am_nd 6 (am_lf 5 (a_aload 0 6)) (am_nd 9 (am_lf 6 (a_get tT 11 0 9)) (am_lf 9 (a_const (nI 0) 10))))) (am_nd 15 (am_nd 13 (am_lf 10 (a_put tT 10 9 13)) (am_nd 14 (am_lf 13 (a_const (nI 0) 14)) (am_lf 14 (a_iret)))) (am_nd 16 (am_lf 15 (a_aload 0 16)) (am_nd 19 (am_lf 16 (a_get tT 11 0 19)) (am_lf 19 (a_iload 1 20)))))) (am_nd 35 (am_nd 27 (am_nd 23 (am_lf 20 (a_cvI tT mX10_isBridge 10 1 23)) (am_nd 26 (am_lf 23 (a_if (fun x => x = nI 0) 38 26)) (am_lf 26 (a_aload 0 27)))) (am_nd 30 (am_lf 27 (a_get tT 11 0 30)) (am_nd 33 (am_lf 30 (a_get tT 10 9 33)) (am_lf 33 (a_const (nI 12) 35))))) (am_nd 40 (am_nd 38 (am_lf 35 (a_cmp (fun x y => x < y) 40 38)) (am_nd 39 (am_lf 38 (a_const (-1) 39)) (am_lf 39 (a_iret)))) (am_nd 41 (am_lf 40 (a_aload 0 41)) (am_nd 44 (am_lf 41 (a_get tT 11 0 44)) (am_lf 44 (a_get tT 10 10 47))))))
theorem gX11_round_0 : am_Good tT mX11_round tX11_round_0 := am_nd_ok (am_nd_ok (am_nd_ok (am_nd_ok (am_lf_ok (fun _ => ok_iload_n dX11_round_0 rfl rfl)) (am_nd_ok (am_lf_ok (fun _ => ok_iconst dX11_round_1 cv_iconst_m1 rfl)) (am_lf_ok (fun _ => ok_cmp_ne dX11_round_2 rfl rfl)))) (am_nd_ok (am_lf_ok (fun _ => ok_aload_n dX11_round_5 rfl rfl)) (am_nd_ok (am_lf_ok (fun _ => ok_get (C := RX11) (TT := TX11) (N := 10) rfl inw_X11 (Nat.le_of_ble_eq_true rfl) wd_295 dX11_round_6 rfl)) (am_lf_ok (fun _ => ok_iconst dX11_round_9 cv_iconst_0 rfl))))) (am_nd_ok (am_nd_ok (am_lf_ok (fun _ => ok_put (C := RX10) (TT := TX10) (N := 14) (ty0 := tyX10) rfl inw_X10 tyX10_ok nmX10 (Nat.le_of_ble_eq_true rfl) rfl rfl wd_404 dX11_round_10 rfl)) (am_nd_ok (am_lf_ok (fun _ => ok_iconst dX11_round_13 cv_iconst_0 rfl)) (am_lf_ok (fun _ => ok_iret rfl dX11_round_14)))) (am_nd_ok (am_lf_ok (fun _ => ok_aload_n dX11_round_15 rfl rfl)) (am_nd_ok (am_lf_ok (fun _ => ok_get (C := RX11) (TT := TX11) (N := 10) rfl inw_X11 (Nat.le_of_ble_eq_true rfl) wd_295 dX11_round_16 rfl)) (am_lf_ok (fun _ => ok_iload_n dX11_round_19 rfl rfl)))))) (am_nd_ok (am_nd_ok (am_nd_ok (am_lf_ok (fun _ => ok_cvI rfl mw_X10_isBridge (ci := 10) rfl rfl wd_376 wd_240 wd_241 dX11_round_20 rfl)) (am_nd_ok (am_lf_ok (fun _ => ok_if_eq dX11_round_23 rfl rfl)) (am_lf_ok (fun _ => ok_aload_n dX11_round_26 rfl rfl)))) (am_nd_ok (am_lf_ok (fun _ => ok_get (C := RX11) (TT := TX11) (N := 10) rfl inw_X11 (Nat.le_of_ble_eq_true rfl) wd_295 dX11_round_27 rfl)) (am_nd_ok (am_lf_ok (fun _ => ok_get (C := RX10) (TT := TX10) (N := 14) rfl inw_X10 (Nat.le_of_ble_eq_true rfl) wd_404 dX11_round_30 rfl)) (am_lf_ok (fun _ => ok_bipush dX11_round_33 cv_bipush_12 rfl))))) (am_nd_ok (am_nd_ok (am_lf_ok (fun _ => ok_cmp_lt dX11_round_35 rfl rfl)) (am_nd_ok (am_lf_ok (fun _ => ok_iconst dX11_round_38 cv_iconst_m1 rfl)) (am_lf_ok (fun _ => ok_iret rfl dX11_round_39)))) (am_nd_ok (am_lf_ok (fun _ => ok_aload_n dX11_round_40 rfl rfl)) (am_nd_ok (am_lf_ok (fun _ => ok_get (C := RX11) (TT := TX11) (N := 10) rfl inw_X11 (Nat.le_of_ble_eq_true rfl) wd_295 dX11_round_41 rfl)) (am_lf_ok (fun _ => ok_get (C := RX10) (TT := TX10) (N := 14) rfl inw_X10 (Nat.le_of_ble_eq_true rfl) wd_405 dX11_round_44 rfl))))))
def tX11_round_1 : Nat → Option am_Act := am_nd 61 (am_nd 55 (am_nd 51 (am_nd 48 (am_lf 47 (a_aload 0 48)) (am_lf 48 (a_get tT 11 0 51))) (am_nd 54 (am_lf 51 (a_get tT 10 9 54)) (am_lf 54 (a_iload 1 55)))) (am_nd 57 (am_nd 56 (am_lf 55 (a_iast tT 56)) (am_lf 56 (a_aload 0 57))) (am_nd 60 (am_lf 57 (a_get tT 11 0 60)) (am_lf 60 (a_dup 61))))) (am_nd 69 (am_nd 65 (am_nd 64 (am_lf 61 (a_get tT 10 9 64)) (am_lf 64 (a_const (nI 1) 65))) (am_nd 66 (am_lf 65 (a_bin (fun x y => x + y) 66)) (am_lf 66 (a_put tT 10 9 69)))) (am_nd 73 (am_nd 70 (am_lf 69 (a_aload 0 70)) (am_lf 70 (a_get tT 11 0 73))) (am_nd 76 (am_lf 73 (a_get tT 10 9 76)) (am_lf 76 (a_iret)))))
theorem gX11_round_1 : am_Good tT mX11_round tX11_round_1 := am_nd_ok (am_nd_ok (am_nd_ok (am_nd_ok (am_lf_ok (fun _ => ok_aload_n dX11_round_47 rfl rfl)) (am_lf_ok (fun _ => ok_get (C := RX11) (TT := TX11) (N := 10) rfl inw_X11 (Nat.le_of_ble_eq_true rfl) wd_295 dX11_round_48 rfl))) (am_nd_ok (am_lf_ok (fun _ => ok_get (C := RX10) (TT := TX10) (N := 14) rfl inw_X10 (Nat.le_of_ble_eq_true rfl) wd_404 dX11_round_51 rfl)) (am_lf_ok (fun _ => ok_iload_n dX11_round_54 rfl rfl)))) (am_nd_ok (am_nd_ok (am_lf_ok (fun _ => ok_iast dX11_round_55 rfl)) (am_lf_ok (fun _ => ok_aload_n dX11_round_56 rfl rfl))) (am_nd_ok (am_lf_ok (fun _ => ok_get (C := RX11) (TT := TX11) (N := 10) rfl inw_X11 (Nat.le_of_ble_eq_true rfl) wd_295 dX11_round_57 rfl)) (am_lf_ok (fun _ => ok_dup dX11_round_60 rfl))))) (am_nd_ok (am_nd_ok (am_nd_ok (am_lf_ok (fun _ => ok_get (C := RX10) (TT := TX10) (N := 14) rfl inw_X10 (Nat.le_of_ble_eq_true rfl) wd_404 dX11_round_61 rfl)) (am_lf_ok (fun _ => ok_iconst dX11_round_64 cv_iconst_1 rfl))) (am_nd_ok (am_lf_ok (fun _ => ok_iadd dX11_round_65 rfl)) (am_lf_ok (fun _ => ok_put (C := RX10) (TT := TX10) (N := 14) (ty0 := tyX10) rfl inw_X10 tyX10_ok nmX10 (Nat.le_of_ble_eq_true rfl) rfl rfl wd_404 dX11_round_66 rfl)))) (am_nd_ok (am_nd_ok (am_lf_ok (fun _ => ok_aload_n dX11_round_69 rfl rfl)) (am_lf_ok (fun _ => ok_get (C := RX11) (TT := TX11) (N := 10) rfl inw_X11 (Nat.le_of_ble_eq_true rfl) wd_295 dX11_round_70 rfl))) (am_nd_ok (am_lf_ok (fun _ => ok_get (C := RX10) (TT := TX10) (N := 14) rfl inw_X10 (Nat.le_of_ble_eq_true rfl) wd_404 dX11_round_73 rfl)) (am_lf_ok (fun _ => ok_iret rfl dX11_round_76)))))
def tX11_round : Nat → Option am_Act := am_nd 47 (tX11_round_0) (tX11_round_1)
theorem gX11_round : am_Good tT mX11_round tX11_round := am_nd_ok (gX11_round_0) (gX11_round_1)
theorem dX11_plan_0 : decode cX11_plan 0 = .ok (.aload_n 0, 1) := by decide +kernel
theorem dX11_plan_1 : decode cX11_plan 1 = .ok (.getfield 22, 3) := by decide +kernel
theorem dX11_plan_4 : decode cX11_plan 4 = .ok (.iload_n 1, 1) := by decide +kernel
theorem dX11_plan_5 : decode cX11_plan 5 = .ok (.invokevirtual 124, 3) := by decide +kernel
theorem dX11_plan_8 : decode cX11_plan 8 = .ok (.ifCond .eq 15, 3) := by decide +kernel
theorem dX11_plan_11 : decode cX11_plan 11 = .ok (.iload_n 2, 1) := by decide +kernel
theorem dX11_plan_12 : decode cX11_plan 12 = .ok (.ifCond .eq 13, 3) := by decide +kernel
theorem dX11_plan_15 : decode cX11_plan 15 = .ok (.iload_n 2, 1) := by decide +kernel
theorem dX11_plan_16 : decode cX11_plan 16 = .ok (.iconst 3, 1) := by decide +kernel
theorem dX11_plan_17 : decode cX11_plan 17 = .ok (.invokestatic 231, 3) := by decide +kernel
theorem dX11_plan_20 : decode cX11_plan 20 = .ok (.ifCond .ne 5, 3) := by decide +kernel
theorem dX11_plan_23 : decode cX11_plan 23 = .ok (.iconst (-1), 1) := by decide +kernel
theorem dX11_plan_24 : decode cX11_plan 24 = .ok (.ireturn, 1) := by decide +kernel
theorem dX11_plan_25 : decode cX11_plan 25 = .ok (.aload_n 0, 1) := by decide +kernel
theorem dX11_plan_26 : decode cX11_plan 26 = .ok (.getfield 51, 3) := by decide +kernel
theorem dX11_plan_29 : decode cX11_plan 29 = .ok (.invokevirtual 292, 3) := by decide +kernel
theorem dX11_plan_32 : decode cX11_plan 32 = .ok (.aload_n 0, 1) := by decide +kernel
theorem dX11_plan_33 : decode cX11_plan 33 = .ok (.getfield 51, 3) := by decide +kernel
theorem dX11_plan_36 : decode cX11_plan 36 = .ok (.aload_n 0, 1) := by decide +kernel
theorem dX11_plan_37 : decode cX11_plan 37 = .ok (.getfield 22, 3) := by decide +kernel
theorem dX11_plan_40 : decode cX11_plan 40 = .ok (.getfield 103, 3) := by decide +kernel
theorem dX11_plan_43 : decode cX11_plan 43 = .ok (.getfield 215, 3) := by decide +kernel
theorem dX11_plan_46 : decode cX11_plan 46 = .ok (.iload_n 1, 1) := by decide +kernel
theorem dX11_plan_47 : decode cX11_plan 47 = .ok (.iaload, 1) := by decide +kernel
theorem dX11_plan_48 : decode cX11_plan 48 = .ok (.invokevirtual 267, 3) := by decide +kernel
theorem dX11_plan_51 : decode cX11_plan 51 = .ok (.ifCond .ne 5, 3) := by decide +kernel
theorem dX11_plan_54 : decode cX11_plan 54 = .ok (.iconst (-1), 1) := by decide +kernel
theorem dX11_plan_55 : decode cX11_plan 55 = .ok (.ireturn, 1) := by decide +kernel
theorem dX11_plan_56 : decode cX11_plan 56 = .ok (.aload_n 0, 1) := by decide +kernel
theorem dX11_plan_57 : decode cX11_plan 57 = .ok (.getfield 47, 3) := by decide +kernel
theorem dX11_plan_60 : decode cX11_plan 60 = .ok (.invokevirtual 295, 3) := by decide +kernel
theorem dX11_plan_63 : decode cX11_plan 63 = .ok (.aload_n 0, 1) := by decide +kernel
theorem dX11_plan_64 : decode cX11_plan 64 = .ok (.getfield 67, 3) := by decide +kernel
theorem dX11_plan_67 : decode cX11_plan 67 = .ok (.iload_n 1, 1) := by decide +kernel
theorem dX11_plan_68 : decode cX11_plan 68 = .ok (.invokevirtual 298, 3) := by decide +kernel
theorem dX11_plan_71 : decode cX11_plan 71 = .ok (.istore_n 3, 1) := by decide +kernel
theorem dX11_plan_72 : decode cX11_plan 72 = .ok (.aload_n 0, 1) := by decide +kernel
theorem dX11_plan_73 : decode cX11_plan 73 = .ok (.getfield 47, 3) := by decide +kernel
theorem dX11_plan_76 : decode cX11_plan 76 = .ok (.invokevirtual 300, 3) := by decide +kernel
theorem dX11_plan_79 : decode cX11_plan 79 = .ok (.iload_n 2, 1) := by decide +kernel
theorem dX11_plan_80 : decode cX11_plan 80 = .ok (.ifCond .ne 5, 3) := by decide +kernel
theorem dX11_plan_83 : decode cX11_plan 83 = .ok (.iload_n 3, 1) := by decide +kernel
theorem dX11_plan_84 : decode cX11_plan 84 = .ok (.ireturn, 1) := by decide +kernel
theorem dX11_plan_85 : decode cX11_plan 85 = .ok (.iload_n 2, 1) := by decide +kernel
theorem dX11_plan_86 : decode cX11_plan 86 = .ok (.iload_n 3, 1) := by decide +kernel
theorem dX11_plan_87 : decode cX11_plan 87 = .ok (.invokestatic 231, 3) := by decide +kernel
theorem dX11_plan_90 : decode cX11_plan 90 = .ok (.ifCond .eq 18, 3) := by decide +kernel
theorem dX11_plan_93 : decode cX11_plan 93 = .ok (.aload_n 0, 1) := by decide +kernel
theorem dX11_plan_94 : decode cX11_plan 94 = .ok (.getfield 67, 3) := by decide +kernel
theorem dX11_plan_97 : decode cX11_plan 97 = .ok (.getfield 301, 3) := by decide +kernel
theorem dX11_plan_100 : decode cX11_plan 100 = .ok (.iload_n 2, 1) := by decide +kernel
theorem dX11_plan_101 : decode cX11_plan 101 = .ok (.bipush 10, 2) := by decide +kernel
theorem dX11_plan_103 : decode cX11_plan 103 = .ok (.isub, 1) := by decide +kernel
theorem dX11_plan_104 : decode cX11_plan 104 = .ok (.iaload, 1) := by decide +kernel
theorem dX11_plan_105 : decode cX11_plan 105 = .ok (.goto 4, 3) := by decide +kernel
theorem dX11_plan_108 : decode cX11_plan 108 = .ok (.iconst (-1), 1) := by decide +kernel
theorem dX11_plan_109 : decode cX11_plan 109 = .ok (.ireturn, 1) := by decide +kernel
def tX11_plan_0 : Nat → Option am_Act := am_nd 24 (am_nd 12 (am_nd 5 (am_nd 1 (am_lf 0 (a_aload 0 1)) (am_nd 4 (am_lf 1 (a_get tT 11 0 4)) (am_lf 4 (a_iload 1 5)))) (am_nd 8 (am_lf 5 (a_cvI tT mX10_isPerson 10 1 8)) (am_nd 11 (am_lf 8 (a_if (fun x => x = nI 0) 23 11)) (am_lf 11 (a_iload 2 12))))) (am_nd 17 (am_nd 15 (am_lf 12 (a_if (fun x => x = nI 0) 25 15)) (am_nd 16 (am_lf 15 (a_iload 2 16)) (am_lf 16 (a_const (nI 3) 17)))) (am_nd 20 (am_lf 17 (a_csI mX11_isPart 2 20)) (am_nd 23 (am_lf 20 (a_if (fun x => x = nI 0) 23 25)) (am_lf 23 (a_const (-1) 24)))))) (am_nd 36 (am_nd 29 (am_nd 25 (am_lf 24 (a_iret)) (am_nd 26 (am_lf 25 (a_aload 0 26)) (am_lf 26 (a_get tT 11 6 29)))) (am_nd 32 (am_lf 29 (a_cvV tT mX9_startRound 9 0 32)) (am_nd 33 (am_lf 32 (a_aload 0 33)) (am_lf 33 (a_get tT 11 6 36))))) (am_nd 43 (am_nd 37 (am_lf 36 (a_aload 0 37)) (am_nd 40 (am_lf 37 (a_get tT 11 0 40)) (am_lf 40 (a_get tT 10 11 43)))) (am_nd 46 (am_lf 43 (a_get tT 5 1 46)) (am_nd 47 (am_lf 46 (a_iload 1 47)) (am_lf 47 (a_iald tT 48))))))
theorem gX11_plan_0 : am_Good tT mX11_plan tX11_plan_0 := am_nd_ok (am_nd_ok (am_nd_ok (am_nd_ok (am_lf_ok (fun _ => ok_aload_n dX11_plan_0 rfl rfl)) (am_nd_ok (am_lf_ok (fun _ => ok_get (C := RX11) (TT := TX11) (N := 10) rfl inw_X11 (Nat.le_of_ble_eq_true rfl) wd_295 dX11_plan_1 rfl)) (am_lf_ok (fun _ => ok_iload_n dX11_plan_4 rfl rfl)))) (am_nd_ok (am_lf_ok (fun _ => ok_cvI rfl mw_X10_isPerson (ci := 10) rfl rfl wd_317 wd_318 wd_319 dX11_plan_5 rfl)) (am_nd_ok (am_lf_ok (fun _ => ok_if_eq dX11_plan_8 rfl rfl)) (am_lf_ok (fun _ => ok_iload_n dX11_plan_11 rfl rfl))))) (am_nd_ok (am_nd_ok (am_lf_ok (fun _ => ok_if_eq dX11_plan_12 rfl rfl)) (am_nd_ok (am_lf_ok (fun _ => ok_iload_n dX11_plan_15 rfl rfl)) (am_lf_ok (fun _ => ok_iconst dX11_plan_16 cv_iconst_3 rfl)))) (am_nd_ok (am_lf_ok (fun _ => ok_csI rfl mw_X11_isPart wd_373 wd_374 dX11_plan_17 rfl)) (am_nd_ok (am_lf_ok (fun _ => ok_if_ne dX11_plan_20 rfl rfl)) (am_lf_ok (fun _ => ok_iconst dX11_plan_23 cv_iconst_m1 rfl)))))) (am_nd_ok (am_nd_ok (am_nd_ok (am_lf_ok (fun _ => ok_iret rfl dX11_plan_24)) (am_nd_ok (am_lf_ok (fun _ => ok_aload_n dX11_plan_25 rfl rfl)) (am_lf_ok (fun _ => ok_get (C := RX11) (TT := TX11) (N := 10) rfl inw_X11 (Nat.le_of_ble_eq_true rfl) wd_388 dX11_plan_26 rfl)))) (am_nd_ok (am_lf_ok (fun _ => ok_cvV rfl mw_X9_startRound (ci := 9) rfl rfl wd_406 wd_407 wd_408 dX11_plan_29 rfl)) (am_nd_ok (am_lf_ok (fun _ => ok_aload_n dX11_plan_32 rfl rfl)) (am_lf_ok (fun _ => ok_get (C := RX11) (TT := TX11) (N := 10) rfl inw_X11 (Nat.le_of_ble_eq_true rfl) wd_388 dX11_plan_33 rfl))))) (am_nd_ok (am_nd_ok (am_lf_ok (fun _ => ok_aload_n dX11_plan_36 rfl rfl)) (am_nd_ok (am_lf_ok (fun _ => ok_get (C := RX11) (TT := TX11) (N := 10) rfl inw_X11 (Nat.le_of_ble_eq_true rfl) wd_295 dX11_plan_37 rfl)) (am_lf_ok (fun _ => ok_get (C := RX10) (TT := TX10) (N := 14) rfl inw_X10 (Nat.le_of_ble_eq_true rfl) wd_307 dX11_plan_40 rfl)))) (am_nd_ok (am_lf_ok (fun _ => ok_get (C := RX5) (TT := TX5) (N := 8) rfl inw_X5 (Nat.le_of_ble_eq_true rfl) wd_368 dX11_plan_43 rfl)) (am_nd_ok (am_lf_ok (fun _ => ok_iload_n dX11_plan_46 rfl rfl)) (am_lf_ok (fun _ => ok_iald dX11_plan_47 rfl))))))
def tX11_plan_1 : Nat → Option am_Act := am_nd 72 (am_nd 60 (am_nd 55 (am_nd 51 (am_lf 48 (a_cvI tT mX9_canBe 9 1 51)) (am_nd 54 (am_lf 51 (a_if (fun x => x = nI 0) 54 56)) (am_lf 54 (a_const (-1) 55)))) (am_nd 56 (am_lf 55 (a_iret)) (am_nd 57 (am_lf 56 (a_aload 0 57)) (am_lf 57 (a_get tT 11 5 60))))) (am_nd 67 (am_nd 63 (am_lf 60 (a_cvV tT mX7_remember 7 0 63)) (am_nd 64 (am_lf 63 (a_aload 0 64)) (am_lf 64 (a_get tT 11 8 67)))) (am_nd 68 (am_lf 67 (a_iload 1 68)) (am_nd 71 (am_lf 68 (a_cvI tT mX6_find 6 1 71)) (am_lf 71 (a_istore 3 72)))))) (am_nd 84 (am_nd 79 (am_nd 73 (am_lf 72 (a_aload 0 73)) (am_nd 76 (am_lf 73 (a_get tT 11 5 76)) (am_lf 76 (a_cvV tT mX7_forget 7 0 79)))) (am_nd 80 (am_lf 79 (a_iload 2 80)) (am_nd 83 (am_lf 80 (a_if (fun x => x = nI 0) 83 85)) (am_lf 83 (a_iload 3 84))))) (am_nd 87 (am_nd 85 (am_lf 84 (a_iret)) (am_nd 86 (am_lf 85 (a_iload 2 86)) (am_lf 86 (a_iload 3 87)))) (am_nd 90 (am_lf 87 (a_csI mX11_isPart 2 90)) (am_nd 93 (am_lf 90 (a_if (fun x => x = nI 0) 108 93)) (am_lf 93 (a_aload 0 94))))))
theorem gX11_plan_1 : am_Good tT mX11_plan tX11_plan_1 := am_nd_ok (am_nd_ok (am_nd_ok (am_nd_ok (am_lf_ok (fun _ => ok_cvI rfl mw_X9_canBe (ci := 9) rfl rfl wd_392 wd_393 wd_394 dX11_plan_48 rfl)) (am_nd_ok (am_lf_ok (fun _ => ok_if_ne dX11_plan_51 rfl rfl)) (am_lf_ok (fun _ => ok_iconst dX11_plan_54 cv_iconst_m1 rfl)))) (am_nd_ok (am_lf_ok (fun _ => ok_iret rfl dX11_plan_55)) (am_nd_ok (am_lf_ok (fun _ => ok_aload_n dX11_plan_56 rfl rfl)) (am_lf_ok (fun _ => ok_get (C := RX11) (TT := TX11) (N := 10) rfl inw_X11 (Nat.le_of_ble_eq_true rfl) wd_352 dX11_plan_57 rfl))))) (am_nd_ok (am_nd_ok (am_lf_ok (fun _ => ok_cvV rfl mw_X7_remember (ci := 7) rfl rfl wd_409 wd_410 wd_411 dX11_plan_60 rfl)) (am_nd_ok (am_lf_ok (fun _ => ok_aload_n dX11_plan_63 rfl rfl)) (am_lf_ok (fun _ => ok_get (C := RX11) (TT := TX11) (N := 10) rfl inw_X11 (Nat.le_of_ble_eq_true rfl) wd_412 dX11_plan_64 rfl)))) (am_nd_ok (am_lf_ok (fun _ => ok_iload_n dX11_plan_67 rfl rfl)) (am_nd_ok (am_lf_ok (fun _ => ok_cvI rfl mw_X6_find (ci := 6) rfl rfl wd_413 wd_414 wd_415 dX11_plan_68 rfl)) (am_lf_ok (fun _ => ok_istore_n dX11_plan_71 rfl (Nat.le_of_ble_eq_true rfl) rfl)))))) (am_nd_ok (am_nd_ok (am_nd_ok (am_lf_ok (fun _ => ok_aload_n dX11_plan_72 rfl rfl)) (am_nd_ok (am_lf_ok (fun _ => ok_get (C := RX11) (TT := TX11) (N := 10) rfl inw_X11 (Nat.le_of_ble_eq_true rfl) wd_352 dX11_plan_73 rfl)) (am_lf_ok (fun _ => ok_cvV rfl mw_X7_forget (ci := 7) rfl rfl wd_416 wd_417 wd_418 dX11_plan_76 rfl)))) (am_nd_ok (am_lf_ok (fun _ => ok_iload_n dX11_plan_79 rfl rfl)) (am_nd_ok (am_lf_ok (fun _ => ok_if_ne dX11_plan_80 rfl rfl)) (am_lf_ok (fun _ => ok_iload_n dX11_plan_83 rfl rfl))))) (am_nd_ok (am_nd_ok (am_lf_ok (fun _ => ok_iret rfl dX11_plan_84)) (am_nd_ok (am_lf_ok (fun _ => ok_iload_n dX11_plan_85 rfl rfl)) (am_lf_ok (fun _ => ok_iload_n dX11_plan_86 rfl rfl)))) (am_nd_ok (am_lf_ok (fun _ => ok_csI rfl mw_X11_isPart wd_373 wd_374 dX11_plan_87 rfl)) (am_nd_ok (am_lf_ok (fun _ => ok_if_eq dX11_plan_90 rfl rfl)) (am_lf_ok (fun _ => ok_aload_n dX11_plan_93 rfl rfl))))))
def tX11_plan_2 : Nat → Option am_Act := am_nd 103 (am_nd 100 (am_nd 97 (am_lf 94 (a_get tT 11 8 97)) (am_lf 97 (a_get tT 6 2 100))) (am_nd 101 (am_lf 100 (a_iload 2 101)) (am_lf 101 (a_const (nI 10) 103)))) (am_nd 105 (am_nd 104 (am_lf 103 (a_bin (fun x y => x - y) 104)) (am_lf 104 (a_iald tT 105))) (am_nd 108 (am_lf 105 (a_goto 109)) (am_nd 109 (am_lf 108 (a_const (-1) 109)) (am_lf 109 (a_iret)))))
theorem gX11_plan_2 : am_Good tT mX11_plan tX11_plan_2 := am_nd_ok (am_nd_ok (am_nd_ok (am_lf_ok (fun _ => ok_get (C := RX11) (TT := TX11) (N := 10) rfl inw_X11 (Nat.le_of_ble_eq_true rfl) wd_412 dX11_plan_94 rfl)) (am_lf_ok (fun _ => ok_get (C := RX6) (TT := TX6) (N := 3) rfl inw_X6 (Nat.le_of_ble_eq_true rfl) wd_419 dX11_plan_97 rfl))) (am_nd_ok (am_lf_ok (fun _ => ok_iload_n dX11_plan_100 rfl rfl)) (am_lf_ok (fun _ => ok_bipush dX11_plan_101 cv_bipush_10 rfl)))) (am_nd_ok (am_nd_ok (am_lf_ok (fun _ => ok_isub dX11_plan_103 rfl)) (am_lf_ok (fun _ => ok_iald dX11_plan_104 rfl))) (am_nd_ok (am_lf_ok (fun _ => ok_goto dX11_plan_105 rfl)) (am_nd_ok (am_lf_ok (fun _ => ok_iconst dX11_plan_108 cv_iconst_m1 rfl)) (am_lf_ok (fun _ => ok_iret rfl dX11_plan_109)))))
def tX11_plan : Nat → Option am_Act := am_nd 48 (tX11_plan_0) (am_nd 94 (tX11_plan_1) (tX11_plan_2))
theorem gX11_plan : am_Good tT mX11_plan tX11_plan := am_nd_ok (gX11_plan_0) (am_nd_ok (gX11_plan_1) (gX11_plan_2))
