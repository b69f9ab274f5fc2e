/-! ===== part 08: facts of the tables, equations of the actions, for simp (written by gen2.py) ===== -/
theorem fx_class : am_ci tT 0 = some 11 ∧
  am_fd tT 0 11 0 = some (some 1) ∧
  am_fd tT 0 11 1 = some (some 27) ∧
  am_fd tT 0 11 2 = some none ∧
  am_fd tT 0 11 3 = some (some 46) ∧
  am_fd tT 0 11 4 = some (some 53) ∧
  am_fd tT 0 11 5 = some (some 20) ∧
  am_fd tT 0 11 6 = some (some 23) ∧
  am_fd tT 0 11 7 = some (some 55) ∧
  am_fd tT 0 11 8 = some (some 58) ∧
  am_fd tT 0 11 9 = some (some 60) ∧
  am_ci tT 1 = some 10 ∧
  am_fd tT 1 10 0 = some none ∧
  am_fd tT 1 10 1 = some none ∧
  am_fd tT 1 10 2 = some none ∧
  am_fd tT 1 10 3 = some none ∧
  am_fd tT 1 10 4 = some none ∧
  am_fd tT 1 10 5 = some (some 2) ∧
  am_fd tT 1 10 6 = some (some 3) ∧
  am_fd tT 1 10 7 = some none ∧
  am_fd tT 1 10 8 = some (some 4) ∧
  am_fd tT 1 10 9 = some none ∧
  am_fd tT 1 10 10 = some (some 5) ∧
  am_fd tT 1 10 11 = some (some 6) ∧
  am_fd tT 1 10 12 = some (some 14) ∧
  am_fd tT 1 10 13 = some (some 17) ∧
  am_len tT 2 = some 20 ∧
  am_len tT 3 = some 20 ∧
  am_len tT 4 = some 400 ∧
  am_len tT 5 = some 12 ∧
  am_ci tT 6 = some 5 ∧
  am_fd tT 6 5 0 = some none ∧
  am_fd tT 6 5 1 = some (some 7) ∧
  am_fd tT 6 5 2 = some (some 8) ∧
  am_fd tT 6 5 3 = some (some 9) ∧
  am_fd tT 6 5 4 = some (some 10) ∧
  am_fd tT 6 5 5 = some (some 11) ∧
  am_fd tT 6 5 6 = some (some 12) ∧
  am_fd tT 6 5 7 = some (some 13) ∧
  am_len tT 7 = some 8 ∧
  am_len tT 8 = some 8 ∧
  am_len tT 9 = some 8 ∧
  am_len tT 10 = some 8 ∧
  am_len tT 11 = some 8 ∧
  am_len tT 12 = some 8 ∧
  am_len tT 13 = some 72 ∧
  am_ci tT 14 = some 2 ∧
  am_fd tT 14 2 0 = some none ∧
  am_fd tT 14 2 1 = some (some 15) ∧
  am_fd tT 14 2 2 = some (some 16) ∧
  am_len tT 15 = some 24 ∧
  am_len tT 16 = some 240 ∧
  am_ci tT 17 = some 3 ∧
  am_fd tT 17 3 0 = some none ∧
  am_fd tT 17 3 1 = some none ∧
  am_fd tT 17 3 2 = some (some 18) ∧
  am_fd tT 17 3 3 = some (some 19) ∧
  am_len tT 18 = some 400 ∧
  am_len tT 19 = some 22 ∧
  am_ci tT 20 = some 7 ∧
  am_fd tT 20 7 0 = some (some 1) ∧
  am_fd tT 20 7 1 = some (some 21) ∧
  am_fd tT 20 7 2 = some (some 22) ∧
  am_fd tT 20 7 3 = some none ∧
  am_len tT 21 = some 8 ∧
  am_len tT 22 = some 2160 ∧
  am_ci tT 23 = some 9 ∧
  am_fd tT 23 9 0 = some (some 1) ∧
  am_fd tT 23 9 1 = some (some 20) ∧
  am_fd tT 23 9 2 = some (some 24) ∧
  am_fd tT 23 9 3 = some none ∧
  am_fd tT 23 9 4 = some (some 25) ∧
  am_fd tT 23 9 5 = some (some 26) ∧
  am_fd tT 23 9 6 = some none ∧
  am_len tT 24 = some 12 ∧
  am_len tT 25 = some 12 ∧
  am_len tT 26 = some 12 ∧
  am_ci tT 27 = some 10 ∧
  am_fd tT 27 10 0 = some none ∧
  am_fd tT 27 10 1 = some none ∧
  am_fd tT 27 10 2 = some none ∧
  am_fd tT 27 10 3 = some none ∧
  am_fd tT 27 10 4 = some none ∧
  am_fd tT 27 10 5 = some (some 28) ∧
  am_fd tT 27 10 6 = some (some 29) ∧
  am_fd tT 27 10 7 = some none ∧
  am_fd tT 27 10 8 = some (some 30) ∧
  am_fd tT 27 10 9 = some none ∧
  am_fd tT 27 10 10 = some (some 31) ∧
  am_fd tT 27 10 11 = some (some 32) ∧
  am_fd tT 27 10 12 = some (some 40) ∧
  am_fd tT 27 10 13 = some (some 43) ∧
  am_len tT 28 = some 20 ∧
  am_len tT 29 = some 20 ∧
  am_len tT 30 = some 400 ∧
  am_len tT 31 = some 12 ∧
  am_ci tT 32 = some 5 ∧
  am_fd tT 32 5 0 = some none ∧
  am_fd tT 32 5 1 = some (some 33) ∧
  am_fd tT 32 5 2 = some (some 34) ∧
  am_fd tT 32 5 3 = some (some 35) ∧
  am_fd tT 32 5 4 = some (some 36) ∧
  am_fd tT 32 5 5 = some (some 37) ∧
  am_fd tT 32 5 6 = some (some 38) ∧
  am_fd tT 32 5 7 = some (some 39) ∧
  am_len tT 33 = some 8 ∧
  am_len tT 34 = some 8 ∧
  am_len tT 35 = some 8 ∧
  am_len tT 36 = some 8 ∧
  am_len tT 37 = some 8 ∧
  am_len tT 38 = some 8 ∧
  am_len tT 39 = some 72 ∧
  am_ci tT 40 = some 2 ∧
  am_fd tT 40 2 0 = some none ∧
  am_fd tT 40 2 1 = some (some 41) ∧
  am_fd tT 40 2 2 = some (some 42) ∧
  am_len tT 41 = some 24 ∧
  am_len tT 42 = some 240 ∧
  am_ci tT 43 = some 3 ∧
  am_fd tT 43 3 0 = some none ∧
  am_fd tT 43 3 1 = some none ∧
  am_fd tT 43 3 2 = some (some 44) ∧
  am_fd tT 43 3 3 = some (some 45) ∧
  am_len tT 44 = some 400 ∧
  am_len tT 45 = some 22 ∧
  am_ci tT 46 = some 4 ∧
  am_fd tT 46 4 0 = some none ∧
  am_fd tT 46 4 1 = some none ∧
  am_fd tT 46 4 2 = some none ∧
  am_fd tT 46 4 3 = some (some 47) ∧
  am_fd tT 46 4 4 = some (some 50) ∧
  am_fd tT 46 4 5 = some (some 51) ∧
  am_fd tT 46 4 6 = some (some 52) ∧
  am_fd tT 46 4 7 = some none ∧
  am_fd tT 46 4 8 = some none ∧
  am_ci tT 47 = some 3 ∧
  am_fd tT 47 3 0 = some none ∧
  am_fd tT 47 3 1 = some none ∧
  am_fd tT 47 3 2 = some (some 48) ∧
  am_fd tT 47 3 3 = some (some 49) ∧
  am_len tT 48 = some 400 ∧
  am_len tT 49 = some 22 ∧
  am_len tT 50 = some 400 ∧
  am_len tT 51 = some 401 ∧
  am_len tT 52 = some 401 ∧
  am_ci tT 53 = some 8 ∧
  am_fd tT 53 8 0 = some none ∧
  am_fd tT 53 8 1 = some (some 54) ∧
  am_len tT 54 = some 48 ∧
  am_ci tT 55 = some 1 ∧
  am_fd tT 55 1 0 = some (some 1) ∧
  am_fd tT 55 1 1 = some (some 20) ∧
  am_fd tT 55 1 2 = some none ∧
  am_fd tT 55 1 3 = some none ∧
  am_fd tT 55 1 4 = some none ∧
  am_fd tT 55 1 5 = some none ∧
  am_fd tT 55 1 6 = some (some 56) ∧
  am_fd tT 55 1 7 = some (some 57) ∧
  am_len tT 56 = some 7 ∧
  am_len tT 57 = some 7 ∧
  am_ci tT 58 = some 6 ∧
  am_fd tT 58 6 0 = some (some 1) ∧
  am_fd tT 58 6 1 = some (some 23) ∧
  am_fd tT 58 6 2 = some (some 59) ∧
  am_len tT 59 = some 3 ∧
  am_ci tT 60 = some 0 ∧
  am_fd tT 60 0 0 = some (some 1) ∧
  am_fd tT 60 0 1 = some (some 20) ∧
  am_fd tT 60 0 2 = some none ∧
  am_fd tT 60 0 3 = some none ∧
  am_fd tT 60 0 4 = some none ∧
  am_fd tT 60 0 5 = some none ∧
  am_fd tT 60 0 6 = some (some 61) ∧
  am_fd tT 60 0 7 = some (some 62) ∧
  am_len tT 61 = some 6 ∧
  am_len tT 62 = some 6 := ⟨rfl, rfl, rfl, rfl, rfl, rfl, rfl, rfl, rfl, rfl, rfl, rfl, rfl, rfl, rfl, rfl, rfl, rfl, rfl, rfl, rfl, rfl, rfl, rfl, rfl, rfl, rfl, rfl, rfl, rfl, rfl, rfl, rfl, rfl, rfl, rfl, rfl, rfl, rfl, rfl, rfl, rfl, rfl, rfl, rfl, rfl, rfl, rfl, rfl, rfl, rfl, rfl, rfl, rfl, rfl, rfl, rfl, rfl, rfl, rfl, rfl, rfl, rfl, rfl, rfl, rfl, rfl, rfl, rfl, rfl, rfl, rfl, rfl, rfl, rfl, rfl, rfl, rfl, rfl, rfl, rfl, rfl, rfl, rfl, rfl, rfl, rfl, rfl, rfl, rfl, rfl, rfl, rfl, rfl, rfl, rfl, rfl, rfl, rfl, rfl, rfl, rfl, rfl, rfl, rfl, rfl, rfl, rfl, rfl, rfl, rfl, rfl, rfl, rfl, rfl, rfl, rfl, rfl, rfl, rfl, rfl, rfl, rfl, rfl, rfl, rfl, rfl, rfl, rfl, rfl, rfl, rfl, rfl, rfl, rfl, rfl, rfl, rfl, rfl, rfl, rfl, rfl, rfl, rfl, rfl, rfl, rfl, rfl, rfl, rfl, rfl, rfl, rfl, rfl, rfl, rfl, rfl, rfl, rfl, rfl, rfl, rfl, rfl, rfl, rfl, rfl, rfl, rfl, rfl, rfl, rfl, rfl, rfl, rfl, rfl, rfl⟩
theorem fx_ref : am_ci tT 63 = some 12 ∧
  am_fd tT 63 12 0 = some (some 64) ∧
  am_fd tT 63 12 1 = some (some 65) ∧
  am_fd tT 63 12 2 = some (some 66) ∧
  am_fd tT 63 12 3 = some (some 67) ∧
  am_fd tT 63 12 4 = some none ∧
  am_fd tT 63 12 5 = some none ∧
  am_fd tT 63 12 6 = some (some 68) ∧
  am_fd tT 63 12 7 = some (some 69) ∧
  am_fd tT 63 12 8 = some (some 70) ∧
  am_fd tT 63 12 9 = some (some 71) ∧
  am_fd tT 63 12 10 = some (some 72) ∧
  am_fd tT 63 12 11 = some none ∧
  am_fd tT 63 12 12 = some none ∧
  am_fd tT 63 12 13 = some none ∧
  am_fd tT 63 12 14 = some none ∧
  am_fd tT 63 12 15 = some none ∧
  am_fd tT 63 12 16 = some none ∧
  am_fd tT 63 12 17 = some none ∧
  am_fd tT 63 12 18 = some none ∧
  am_fd tT 63 12 19 = some none ∧
  am_fd tT 63 12 20 = some none ∧
  am_fd tT 63 12 21 = some none ∧
  am_fd tT 63 12 22 = some none ∧
  am_fd tT 63 12 23 = some (some 73) ∧
  am_fd tT 63 12 24 = some (some 74) ∧
  am_fd tT 63 12 25 = some none ∧
  am_fd tT 63 12 26 = some none ∧
  am_fd tT 63 12 27 = some (some 75) ∧
  am_fd tT 63 12 28 = some (some 76) ∧
  am_fd tT 63 12 29 = some (some 77) ∧
  am_fd tT 63 12 30 = some none ∧
  am_len tT 64 = some 1750 ∧
  am_len tT 65 = some 1750 ∧
  am_len tT 66 = some 2968 ∧
  am_len tT 67 = some 3330 ∧
  am_len tT 68 = some 48 ∧
  am_len tT 69 = some 820 ∧
  am_len tT 70 = some 400 ∧
  am_len tT 71 = some 420 ∧
  am_len tT 72 = some 9 ∧
  am_len tT 73 = some 8 ∧
  am_len tT 74 = some 8 ∧
  am_len tT 75 = some 3 ∧
  am_len tT 76 = some 6 ∧
  am_len tT 77 = some 6 := ⟨rfl, rfl, rfl, rfl, rfl, rfl, rfl, rfl, rfl, rfl, rfl, rfl, rfl, rfl, rfl, rfl, rfl, rfl, rfl, rfl, rfl, rfl, rfl, rfl, rfl, rfl, rfl, rfl, rfl, rfl, rfl, rfl, rfl, rfl, rfl, rfl, rfl, rfl, rfl, rfl, rfl, rfl, rfl, rfl, rfl, rfl⟩
theorem lX0_find_0 : tX0_find 0 = some (a_aload 0 1) ∧
  tX0_find 1 = some (a_iload 1 2) ∧
  tX0_find 2 = some (a_put tT 0 2 5) ∧
  tX0_find 5 = some (a_aload 0 6) ∧
  tX0_find 6 = some (a_iload 1 7) ∧
  tX0_find 7 = some (a_csI mJ6_bitCount_0f7a4 1 10) ∧
  tX0_find 10 = some (a_put tT 0 3 13) ∧
  tX0_find 13 = some (a_aload 0 14) ∧
  tX0_find 14 = some (a_iload 2 15) ∧
  tX0_find 15 = some (a_put tT 0 4 18) ∧
  tX0_find 18 = some (a_aload 0 19) ∧
  tX0_find 19 = some (a_const (-1) 20) ∧
  tX0_find 20 = some (a_put tT 0 5 23) ∧
  tX0_find 23 = some (a_aload 0 24) ∧
  tX0_find 24 = some (a_iload 1 25) ∧
  tX0_find 25 = some (a_const (nI 0) 26) ∧
  tX0_find 26 = some (a_cvV tT mX0_seek 0 2 29) ∧
  tX0_find 29 = some (a_aload 0 30) ∧
  tX0_find 30 = some (a_get tT 0 5 33) ∧
  tX0_find 33 = some (a_const (-1) 34) ∧
  tX0_find 34 = some (a_cmp (fun x y => x = y) 41 37) ∧
  tX0_find 37 = some (a_const (nI 1) 38) ∧
  tX0_find 38 = some (a_goto 42) ∧
  tX0_find 41 = some (a_const (nI 0) 42) := ⟨rfl, rfl, rfl, rfl, rfl, rfl, rfl, rfl, rfl, rfl, rfl, rfl, rfl, rfl, rfl, rfl, rfl, rfl, rfl, rfl, rfl, rfl, rfl, rfl⟩
theorem lX0_find_1 : tX0_find 42 = some (a_zret) := rfl
theorem lX0_seek_0 : tX0_seek 0 = some (a_iload 1 1) ∧
  tX0_seek 1 = some (a_if (fun x => x = nI 0) 4 10) ∧
  tX0_seek 4 = some (a_aload 0 5) ∧
  tX0_seek 5 = some (a_iload 2 6) ∧
  tX0_seek 6 = some (a_cvV tT mX0_consider 0 1 9) ∧
  tX0_seek 9 = some (a_ret) ∧
  tX0_seek 10 = some (a_iload 2 11) ∧
  tX0_seek 11 = some (a_const (nI 6) 13) ∧
  tX0_seek 13 = some (a_cmp (fun x y => y ≤ x) 27 16) ∧
  tX0_seek 16 = some (a_aload 0 17) ∧
  tX0_seek 17 = some (a_get tT 0 5 20) ∧
  tX0_seek 20 = some (a_aload 0 21) ∧
  tX0_seek 21 = some (a_get tT 0 3 24) ∧
  tX0_seek 24 = some (a_cmp (fun x y => x = y) 27 28) ∧
  tX0_seek 27 = some (a_ret) ∧
  tX0_seek 28 = some (a_const (nI 0) 29) ∧
  tX0_seek 29 = some (a_istore 3 30) ∧
  tX0_seek 30 = some (a_iload 3 31) ∧
  tX0_seek 31 = some (a_aload 0 32) ∧
  tX0_seek 32 = some (a_get tT 0 0 35) ∧
  tX0_seek 35 = some (a_get tT 10 11 38) ∧
  tX0_seek 38 = some (a_get tT 5 0 41) ∧
  tX0_seek 41 = some (a_cmp (fun x y => y ≤ x) 138 44) ∧
  tX0_seek 44 = some (a_iload 1 45) := ⟨rfl, rfl, rfl, rfl, rfl, rfl, rfl, rfl, rfl, rfl, rfl, rfl, rfl, rfl, rfl, rfl, rfl, rfl, rfl, rfl, rfl, rfl, rfl, rfl⟩
theorem lX0_seek_1 : tX0_seek 45 = some (a_iload 3 46) ∧
  tX0_seek 46 = some (a_bin (fun x y => x >>> (y &&& 31)) 47) ∧
  tX0_seek 47 = some (a_const (nI 1) 48) ∧
  tX0_seek 48 = some (a_bin (fun x y => x &&& y) 49) ∧
  tX0_seek 49 = some (a_if (fun x => x = nI 0) 52 55) ∧
  tX0_seek 52 = some (a_goto 132) ∧
  tX0_seek 55 = some (a_aload 0 56) ∧
  tX0_seek 56 = some (a_get tT 0 1 59) ∧
  tX0_seek 59 = some (a_iload 3 60) ∧
  tX0_seek 60 = some (a_aload 0 61) ∧
  tX0_seek 61 = some (a_get tT 0 4 64) ∧
  tX0_seek 64 = some (a_cvI tT mX7_due 7 2 67) ∧
  tX0_seek 67 = some (a_istore 4 69) ∧
  tX0_seek 69 = some (a_iload 4 71) ∧
  tX0_seek 71 = some (a_const (-2) 73) ∧
  tX0_seek 73 = some (a_cmp (fun x y => x = y) 76 79) ∧
  tX0_seek 76 = some (a_goto 132) ∧
  tX0_seek 79 = some (a_aload 0 80) ∧
  tX0_seek 80 = some (a_get tT 0 7 83) ∧
  tX0_seek 83 = some (a_iload 2 84) ∧
  tX0_seek 84 = some (a_iload 3 85) ∧
  tX0_seek 85 = some (a_iast tT 86) ∧
  tX0_seek 86 = some (a_aload 0 87) ∧
  tX0_seek 87 = some (a_get tT 0 1 90) := ⟨rfl, rfl, rfl, rfl, rfl, rfl, rfl, rfl, rfl, rfl, rfl, rfl, rfl, rfl, rfl, rfl, rfl, rfl, rfl, rfl, rfl, rfl, rfl, rfl⟩
theorem lX0_seek_2 : tX0_seek 90 = some (a_iload 3 91) ∧
  tX0_seek 91 = some (a_aload 0 92) ∧
  tX0_seek 92 = some (a_get tT 0 4 95) ∧
  tX0_seek 95 = some (a_iload 4 97) ∧
  tX0_seek 97 = some (a_cvI tT mX7_pass 7 3 100) ∧
  tX0_seek 100 = some (a_istore 5 102) ∧
  tX0_seek 102 = some (a_aload 0 103) ∧
  tX0_seek 103 = some (a_iload 1 104) ∧
  tX0_seek 104 = some (a_const (nI 1) 105) ∧
  tX0_seek 105 = some (a_iload 3 106) ∧
  tX0_seek 106 = some (a_bin (fun x y => x <<< (y &&& 31)) 107) ∧
  tX0_seek 107 = some (a_const (-1) 108) ∧
  tX0_seek 108 = some (a_bin (fun x y => x ^^^ y) 109) ∧
  tX0_seek 109 = some (a_bin (fun x y => x &&& y) 110) ∧
  tX0_seek 110 = some (a_iload 2 111) ∧
  tX0_seek 111 = some (a_const (nI 1) 112) ∧
  tX0_seek 112 = some (a_bin (fun x y => x + y) 113) ∧
  tX0_seek 113 = some (a_cvV tT mX0_seek 0 2 116) ∧
  tX0_seek 116 = some (a_aload 0 117) ∧
  tX0_seek 117 = some (a_get tT 0 1 120) ∧
  tX0_seek 120 = some (a_iload 3 121) ∧
  tX0_seek 121 = some (a_aload 0 122) ∧
  tX0_seek 122 = some (a_get tT 0 4 125) ∧
  tX0_seek 125 = some (a_iload 4 127) := ⟨rfl, rfl, rfl, rfl, rfl, rfl, rfl, rfl, rfl, rfl, rfl, rfl, rfl, rfl, rfl, rfl, rfl, rfl, rfl, rfl, rfl, rfl, rfl, rfl⟩
theorem lX0_seek_3 : tX0_seek 127 = some (a_iload 5 129) ∧
  tX0_seek 129 = some (a_cvV tT mX7_back 7 4 132) ∧
  tX0_seek 132 = some (a_iinc 3 (nI 1) 135) ∧
  tX0_seek 135 = some (a_goto 30) ∧
  tX0_seek 138 = some (a_ret) := ⟨rfl, rfl, rfl, rfl, rfl⟩
theorem lX0_consider_0 : tX0_consider 0 = some (a_aload 0 1) ∧
  tX0_consider 1 = some (a_get tT 0 0 4) ∧
  tX0_consider 4 = some (a_get tT 10 11 7) ∧
  tX0_consider 7 = some (a_aload 0 8) ∧
  tX0_consider 8 = some (a_get tT 0 2 11) ∧
  tX0_consider 11 = some (a_cvI tT mX5_aloneAmong 5 1 14) ∧
  tX0_consider 14 = some (a_csI mJ6_bitCount_0f7a4 1 17) ∧
  tX0_consider 17 = some (a_istore 2 18) ∧
  tX0_consider 18 = some (a_iload 2 19) ∧
  tX0_consider 19 = some (a_aload 0 20) ∧
  tX0_consider 20 = some (a_get tT 0 5 23) ∧
  tX0_consider 23 = some (a_cmp (fun x y => x ≤ y) 45 26) ∧
  tX0_consider 26 = some (a_aload 0 27) ∧
  tX0_consider 27 = some (a_iload 2 28) ∧
  tX0_consider 28 = some (a_put tT 0 5 31) ∧
  tX0_consider 31 = some (a_aload 0 32) ∧
  tX0_consider 32 = some (a_get tT 0 7 35) ∧
  tX0_consider 35 = some (a_const (nI 0) 36) ∧
  tX0_consider 36 = some (a_aload 0 37) ∧
  tX0_consider 37 = some (a_get tT 0 6 40) ∧
  tX0_consider 40 = some (a_const (nI 0) 41) ∧
  tX0_consider 41 = some (a_iload 1 42) ∧
  tX0_consider 42 = some (a_copy tT 45) ∧
  tX0_consider 45 = some (a_ret) := ⟨rfl, rfl, rfl, rfl, rfl, rfl, rfl, rfl, rfl, rfl, rfl, rfl, rfl, rfl, rfl, rfl, rfl, rfl, rfl, rfl, rfl, rfl, rfl, rfl⟩
theorem lX1_find_0 : tX1_find 0 = some (a_aload 0 1) ∧
  tX1_find 1 = some (a_iload 1 2) ∧
  tX1_find 2 = some (a_put tT 1 2 5) ∧
  tX1_find 5 = some (a_aload 0 6) ∧
  tX1_find 6 = some (a_iload 2 7) ∧
  tX1_find 7 = some (a_put tT 1 3 10) ∧
  tX1_find 10 = some (a_aload 0 11) ∧
  tX1_find 11 = some (a_const (nI 10) 13) ∧
  tX1_find 13 = some (a_put tT 1 4 16) ∧
  tX1_find 16 = some (a_aload 0 17) ∧
  tX1_find 17 = some (a_const (nI 0) 18) ∧
  tX1_find 18 = some (a_put tT 1 5 21) ∧
  tX1_find 21 = some (a_aload 0 22) ∧
  tX1_find 22 = some (a_const (nI 1) 23) ∧
  tX1_find 23 = some (a_aload 0 24) ∧
  tX1_find 24 = some (a_get tT 1 0 27) ∧
  tX1_find 27 = some (a_get tT 10 11 30) ∧
  tX1_find 30 = some (a_get tT 5 1 33) ∧
  tX1_find 33 = some (a_iload 1 34) ∧
  tX1_find 34 = some (a_iald tT 35) ∧
  tX1_find 35 = some (a_bin (fun x y => x <<< (y &&& 31)) 36) ∧
  tX1_find 36 = some (a_const (nI 0) 37) ∧
  tX1_find 37 = some (a_const (nI 0) 38) ∧
  tX1_find 38 = some (a_cvV tT mX1_seek 1 3 41) := ⟨rfl, rfl, rfl, rfl, rfl, rfl, rfl, rfl, rfl, rfl, rfl, rfl, rfl, rfl, rfl, rfl, rfl, rfl, rfl, rfl, rfl, rfl, rfl, rfl⟩
theorem lX1_find_1 : tX1_find 41 = some (a_aload 0 42) ∧
  tX1_find 42 = some (a_get tT 1 5 45) ∧
  tX1_find 45 = some (a_if (fun x => x ≤ nI 0) 52 48) ∧
  tX1_find 48 = some (a_const (nI 1) 49) ∧
  tX1_find 49 = some (a_goto 53) ∧
  tX1_find 52 = some (a_const (nI 0) 53) ∧
  tX1_find 53 = some (a_zret) := ⟨rfl, rfl, rfl, rfl, rfl, rfl, rfl⟩
theorem lX1_seek_0 : tX1_seek 0 = some (a_iload 2 1) ∧
  tX1_seek 1 = some (a_const (nI 7) 3) ∧
  tX1_seek 3 = some (a_cmp (fun x y => x < y) 7 6) ∧
  tX1_seek 6 = some (a_ret) ∧
  tX1_seek 7 = some (a_aload 0 8) ∧
  tX1_seek 8 = some (a_get tT 1 0 11) ∧
  tX1_seek 11 = some (a_get tT 10 11 14) ∧
  tX1_seek 14 = some (a_get tT 5 1 17) ∧
  tX1_seek 17 = some (a_aload 0 18) ∧
  tX1_seek 18 = some (a_get tT 1 2 21) ∧
  tX1_seek 21 = some (a_iald tT 22) ∧
  tX1_seek 22 = some (a_istore 4 24) ∧
  tX1_seek 24 = some (a_const (nI 0) 25) ∧
  tX1_seek 25 = some (a_istore 5 27) ∧
  tX1_seek 27 = some (a_iload 5 29) ∧
  tX1_seek 29 = some (a_aload 0 30) ∧
  tX1_seek 30 = some (a_get tT 1 0 33) ∧
  tX1_seek 33 = some (a_get tT 10 12 36) ∧
  tX1_seek 36 = some (a_get tT 2 0 39) ∧
  tX1_seek 39 = some (a_cmp (fun x y => y ≤ x) 221 42) ∧
  tX1_seek 42 = some (a_aload 0 43) ∧
  tX1_seek 43 = some (a_get tT 1 0 46) ∧
  tX1_seek 46 = some (a_get tT 10 12 49) ∧
  tX1_seek 49 = some (a_iload 5 51) := ⟨rfl, rfl, rfl, rfl, rfl, rfl, rfl, rfl, rfl, rfl, rfl, rfl, rfl, rfl, rfl, rfl, rfl, rfl, rfl, rfl, rfl, rfl, rfl, rfl⟩
theorem lX1_seek_1 : tX1_seek 51 = some (a_iload 4 53) ∧
  tX1_seek 53 = some (a_cvI tT mX2_across 2 2 56) ∧
  tX1_seek 56 = some (a_istore 6 58) ∧
  tX1_seek 58 = some (a_aload 0 59) ∧
  tX1_seek 59 = some (a_get tT 1 0 62) ∧
  tX1_seek 62 = some (a_get tT 10 12 65) ∧
  tX1_seek 65 = some (a_iload 5 67) ∧
  tX1_seek 67 = some (a_iload 4 69) ∧
  tX1_seek 69 = some (a_cvI tT mX2_touches 2 2 72) ∧
  tX1_seek 72 = some (a_if (fun x => x = nI 0) 215 75) ∧
  tX1_seek 75 = some (a_iload 1 76) ∧
  tX1_seek 76 = some (a_iload 6 78) ∧
  tX1_seek 78 = some (a_bin (fun x y => x >>> (y &&& 31)) 79) ∧
  tX1_seek 79 = some (a_const (nI 1) 80) ∧
  tX1_seek 80 = some (a_bin (fun x y => x &&& y) 81) ∧
  tX1_seek 81 = some (a_if (fun x => x = nI 0) 87 84) ∧
  tX1_seek 84 = some (a_goto 215) ∧
  tX1_seek 87 = some (a_aload 0 88) ∧
  tX1_seek 88 = some (a_get tT 1 1 91) ∧
  tX1_seek 91 = some (a_aload 0 92) ∧
  tX1_seek 92 = some (a_get tT 1 2 95) ∧
  tX1_seek 95 = some (a_iload 5 97) ∧
  tX1_seek 97 = some (a_cvI tT mX7_due 7 2 100) ∧
  tX1_seek 100 = some (a_istore 7 102) := ⟨rfl, rfl, rfl, rfl, rfl, rfl, rfl, rfl, rfl, rfl, rfl, rfl, rfl, rfl, rfl, rfl, rfl, rfl, rfl, rfl, rfl, rfl, rfl, rfl⟩
theorem lX1_seek_2 : tX1_seek 102 = some (a_iload 7 104) ∧
  tX1_seek 104 = some (a_const (nI 100) 106) ∧
  tX1_seek 106 = some (a_cmp (fun x y => x = y) 109 113) ∧
  tX1_seek 109 = some (a_iload 3 110) ∧
  tX1_seek 110 = some (a_goto 116) ∧
  tX1_seek 113 = some (a_iload 3 114) ∧
  tX1_seek 114 = some (a_const (nI 1) 115) ∧
  tX1_seek 115 = some (a_bin (fun x y => x + y) 116) ∧
  tX1_seek 116 = some (a_istore 8 118) ∧
  tX1_seek 118 = some (a_iload 7 120) ∧
  tX1_seek 120 = some (a_const (-2) 122) ∧
  tX1_seek 122 = some (a_cmp (fun x y => x = y) 215 125) ∧
  tX1_seek 125 = some (a_iload 8 127) ∧
  tX1_seek 127 = some (a_aload 0 128) ∧
  tX1_seek 128 = some (a_get tT 1 4 131) ∧
  tX1_seek 131 = some (a_cmp (fun x y => x ≤ y) 137 134) ∧
  tX1_seek 134 = some (a_goto 215) ∧
  tX1_seek 137 = some (a_aload 0 138) ∧
  tX1_seek 138 = some (a_get tT 1 7 141) ∧
  tX1_seek 141 = some (a_iload 2 142) ∧
  tX1_seek 142 = some (a_iload 5 144) ∧
  tX1_seek 144 = some (a_iast tT 145) ∧
  tX1_seek 145 = some (a_iload 6 147) ∧
  tX1_seek 147 = some (a_aload 0 148) := ⟨rfl, rfl, rfl, rfl, rfl, rfl, rfl, rfl, rfl, rfl, rfl, rfl, rfl, rfl, rfl, rfl, rfl, rfl, rfl, rfl, rfl, rfl, rfl, rfl⟩
theorem lX1_seek_3 : tX1_seek 148 = some (a_get tT 1 3 151) ∧
  tX1_seek 151 = some (a_cmp (fun x y => x = y) 154 166) ∧
  tX1_seek 154 = some (a_aload 0 155) ∧
  tX1_seek 155 = some (a_iload 2 156) ∧
  tX1_seek 156 = some (a_const (nI 1) 157) ∧
  tX1_seek 157 = some (a_bin (fun x y => x + y) 158) ∧
  tX1_seek 158 = some (a_iload 8 160) ∧
  tX1_seek 160 = some (a_cvV tT mX1_consider 1 2 163) ∧
  tX1_seek 163 = some (a_goto 215) ∧
  tX1_seek 166 = some (a_aload 0 167) ∧
  tX1_seek 167 = some (a_get tT 1 1 170) ∧
  tX1_seek 170 = some (a_aload 0 171) ∧
  tX1_seek 171 = some (a_get tT 1 2 174) ∧
  tX1_seek 174 = some (a_iload 5 176) ∧
  tX1_seek 176 = some (a_iload 7 178) ∧
  tX1_seek 178 = some (a_cvI tT mX7_pass 7 3 181) ∧
  tX1_seek 181 = some (a_istore 9 183) ∧
  tX1_seek 183 = some (a_aload 0 184) ∧
  tX1_seek 184 = some (a_iload 1 185) ∧
  tX1_seek 185 = some (a_const (nI 1) 186) ∧
  tX1_seek 186 = some (a_iload 6 188) ∧
  tX1_seek 188 = some (a_bin (fun x y => x <<< (y &&& 31)) 189) ∧
  tX1_seek 189 = some (a_bin (fun x y => x ||| y) 190) ∧
  tX1_seek 190 = some (a_iload 2 191) := ⟨rfl, rfl, rfl, rfl, rfl, rfl, rfl, rfl, rfl, rfl, rfl, rfl, rfl, rfl, rfl, rfl, rfl, rfl, rfl, rfl, rfl, rfl, rfl, rfl⟩
theorem lX1_seek_4 : tX1_seek 191 = some (a_const (nI 1) 192) ∧
  tX1_seek 192 = some (a_bin (fun x y => x + y) 193) ∧
  tX1_seek 193 = some (a_iload 8 195) ∧
  tX1_seek 195 = some (a_cvV tT mX1_seek 1 3 198) ∧
  tX1_seek 198 = some (a_aload 0 199) ∧
  tX1_seek 199 = some (a_get tT 1 1 202) ∧
  tX1_seek 202 = some (a_aload 0 203) ∧
  tX1_seek 203 = some (a_get tT 1 2 206) ∧
  tX1_seek 206 = some (a_iload 5 208) ∧
  tX1_seek 208 = some (a_iload 7 210) ∧
  tX1_seek 210 = some (a_iload 9 212) ∧
  tX1_seek 212 = some (a_cvV tT mX7_back 7 4 215) ∧
  tX1_seek 215 = some (a_iinc 5 (nI 1) 218) ∧
  tX1_seek 218 = some (a_goto 27) ∧
  tX1_seek 221 = some (a_ret) := ⟨rfl, rfl, rfl, rfl, rfl, rfl, rfl, rfl, rfl, rfl, rfl, rfl, rfl, rfl, rfl⟩
theorem lX1_consider_0 : tX1_consider 0 = some (a_iload 2 1) ∧
  tX1_consider 1 = some (a_aload 0 2) ∧
  tX1_consider 2 = some (a_get tT 1 4 5) ∧
  tX1_consider 5 = some (a_cmp (fun x y => x < y) 16 8) ∧
  tX1_consider 8 = some (a_iload 1 9) ∧
  tX1_consider 9 = some (a_aload 0 10) ∧
  tX1_consider 10 = some (a_get tT 1 5 13) ∧
  tX1_consider 13 = some (a_cmp (fun x y => y ≤ x) 40 16) ∧
  tX1_consider 16 = some (a_aload 0 17) ∧
  tX1_consider 17 = some (a_iload 2 18) ∧
  tX1_consider 18 = some (a_put tT 1 4 21) ∧
  tX1_consider 21 = some (a_aload 0 22) ∧
  tX1_consider 22 = some (a_iload 1 23) ∧
  tX1_consider 23 = some (a_put tT 1 5 26) ∧
  tX1_consider 26 = some (a_aload 0 27) ∧
  tX1_consider 27 = some (a_get tT 1 7 30) ∧
  tX1_consider 30 = some (a_const (nI 0) 31) ∧
  tX1_consider 31 = some (a_aload 0 32) ∧
  tX1_consider 32 = some (a_get tT 1 6 35) ∧
  tX1_consider 35 = some (a_const (nI 0) 36) ∧
  tX1_consider 36 = some (a_iload 1 37) ∧
  tX1_consider 37 = some (a_copy tT 40) ∧
  tX1_consider 40 = some (a_ret) := ⟨rfl, rfl, rfl, rfl, rfl, rfl, rfl, rfl, rfl, rfl, rfl, rfl, rfl, rfl, rfl, rfl, rfl, rfl, rfl, rfl, rfl, rfl, rfl⟩
theorem lX2_add_0 : tX2_add 0 = some (a_aload 0 1) ∧
  tX2_add 1 = some (a_get tT 2 0 4) ∧
  tX2_add 4 = some (a_istore 3 5) ∧
  tX2_add 5 = some (a_iload 3 6) ∧
  tX2_add 6 = some (a_const (nI 12) 8) ∧
  tX2_add 8 = some (a_cmp (fun x y => x < y) 13 11) ∧
  tX2_add 11 = some (a_const (-1) 12) ∧
  tX2_add 12 = some (a_iret) ∧
  tX2_add 13 = some (a_aload 0 14) ∧
  tX2_add 14 = some (a_get tT 2 1 17) ∧
  tX2_add 17 = some (a_const (nI 2) 18) ∧
  tX2_add 18 = some (a_iload 3 19) ∧
  tX2_add 19 = some (a_bin (fun x y => x * y) 20) ∧
  tX2_add 20 = some (a_iload 1 21) ∧
  tX2_add 21 = some (a_iast tT 22) ∧
  tX2_add 22 = some (a_aload 0 23) ∧
  tX2_add 23 = some (a_get tT 2 1 26) ∧
  tX2_add 26 = some (a_const (nI 2) 27) ∧
  tX2_add 27 = some (a_iload 3 28) ∧
  tX2_add 28 = some (a_bin (fun x y => x * y) 29) ∧
  tX2_add 29 = some (a_const (nI 1) 30) ∧
  tX2_add 30 = some (a_bin (fun x y => x + y) 31) ∧
  tX2_add 31 = some (a_iload 2 32) ∧
  tX2_add 32 = some (a_iast tT 33) := ⟨rfl, rfl, rfl, rfl, rfl, rfl, rfl, rfl, rfl, rfl, rfl, rfl, rfl, rfl, rfl, rfl, rfl, rfl, rfl, rfl, rfl, rfl, rfl, rfl⟩
theorem lX2_add_1 : tX2_add 33 = some (a_aload 0 34) ∧
  tX2_add 34 = some (a_get tT 2 2 37) ∧
  tX2_add 37 = some (a_iload 3 38) ∧
  tX2_add 38 = some (a_const (nI 20) 40) ∧
  tX2_add 40 = some (a_bin (fun x y => x * y) 41) ∧
  tX2_add 41 = some (a_iload 3 42) ∧
  tX2_add 42 = some (a_const (nI 1) 43) ∧
  tX2_add 43 = some (a_bin (fun x y => x + y) 44) ∧
  tX2_add 44 = some (a_const (nI 20) 46) ∧
  tX2_add 46 = some (a_bin (fun x y => x * y) 47) ∧
  tX2_add 47 = some (a_const (nI 0) 48) ∧
  tX2_add 48 = some (a_csV mJ7_fill_fda19 4 51) ∧
  tX2_add 51 = some (a_aload 0 52) ∧
  tX2_add 52 = some (a_iload 3 53) ∧
  tX2_add 53 = some (a_const (nI 1) 54) ∧
  tX2_add 54 = some (a_bin (fun x y => x + y) 55) ∧
  tX2_add 55 = some (a_put tT 2 0 58) ∧
  tX2_add 58 = some (a_iload 3 59) ∧
  tX2_add 59 = some (a_iret) := ⟨rfl, rfl, rfl, rfl, rfl, rfl, rfl, rfl, rfl, rfl, rfl, rfl, rfl, rfl, rfl, rfl, rfl, rfl, rfl⟩
theorem lX2_touches_0 : tX2_touches 0 = some (a_aload 0 1) ∧
  tX2_touches 1 = some (a_get tT 2 1 4) ∧
  tX2_touches 4 = some (a_const (nI 2) 5) ∧
  tX2_touches 5 = some (a_iload 1 6) ∧
  tX2_touches 6 = some (a_bin (fun x y => x * y) 7) ∧
  tX2_touches 7 = some (a_iald tT 8) ∧
  tX2_touches 8 = some (a_iload 2 9) ∧
  tX2_touches 9 = some (a_cmp (fun x y => x = y) 26 12) ∧
  tX2_touches 12 = some (a_aload 0 13) ∧
  tX2_touches 13 = some (a_get tT 2 1 16) ∧
  tX2_touches 16 = some (a_const (nI 2) 17) ∧
  tX2_touches 17 = some (a_iload 1 18) ∧
  tX2_touches 18 = some (a_bin (fun x y => x * y) 19) ∧
  tX2_touches 19 = some (a_const (nI 1) 20) ∧
  tX2_touches 20 = some (a_bin (fun x y => x + y) 21) ∧
  tX2_touches 21 = some (a_iald tT 22) ∧
  tX2_touches 22 = some (a_iload 2 23) ∧
  tX2_touches 23 = some (a_cmp (fun x y => x = y) 26 30) ∧
  tX2_touches 26 = some (a_const (nI 1) 27) ∧
  tX2_touches 27 = some (a_goto 31) ∧
  tX2_touches 30 = some (a_const (nI 0) 31) ∧
  tX2_touches 31 = some (a_zret) := ⟨rfl, rfl, rfl, rfl, rfl, rfl, rfl, rfl, rfl, rfl, rfl, rfl, rfl, rfl, rfl, rfl, rfl, rfl, rfl, rfl, rfl, rfl⟩
theorem lX2_across_0 : tX2_across 0 = some (a_aload 0 1) ∧
  tX2_across 1 = some (a_get tT 2 1 4) ∧
  tX2_across 4 = some (a_const (nI 2) 5) ∧
  tX2_across 5 = some (a_iload 1 6) ∧
  tX2_across 6 = some (a_bin (fun x y => x * y) 7) ∧
  tX2_across 7 = some (a_iald tT 8) ∧
  tX2_across 8 = some (a_iload 2 9) ∧
  tX2_across 9 = some (a_cmp (fun x y => x = y) 12 25) ∧
  tX2_across 12 = some (a_aload 0 13) ∧
  tX2_across 13 = some (a_get tT 2 1 16) ∧
  tX2_across 16 = some (a_const (nI 2) 17) ∧
  tX2_across 17 = some (a_iload 1 18) ∧
  tX2_across 18 = some (a_bin (fun x y => x * y) 19) ∧
  tX2_across 19 = some (a_const (nI 1) 20) ∧
  tX2_across 20 = some (a_bin (fun x y => x + y) 21) ∧
  tX2_across 21 = some (a_iald tT 22) ∧
  tX2_across 22 = some (a_goto 33) ∧
  tX2_across 25 = some (a_aload 0 26) ∧
  tX2_across 26 = some (a_get tT 2 1 29) ∧
  tX2_across 29 = some (a_const (nI 2) 30) ∧
  tX2_across 30 = some (a_iload 1 31) ∧
  tX2_across 31 = some (a_bin (fun x y => x * y) 32) ∧
  tX2_across 32 = some (a_iald tT 33) ∧
  tX2_across 33 = some (a_iret) := ⟨rfl, rfl, rfl, rfl, rfl, rfl, rfl, rfl, rfl, rfl, rfl, rfl, rfl, rfl, rfl, rfl, rfl, rfl, rfl, rfl, rfl, rfl, rfl, rfl⟩
theorem lX2_keptOf_0 : tX2_keptOf 0 = some (a_aload 0 1) ∧
  tX2_keptOf 1 = some (a_get tT 2 2 4) ∧
  tX2_keptOf 4 = some (a_iload 1 5) ∧
  tX2_keptOf 5 = some (a_const (nI 20) 7) ∧
  tX2_keptOf 7 = some (a_bin (fun x y => x * y) 8) ∧
  tX2_keptOf 8 = some (a_iload 2 9) ∧
  tX2_keptOf 9 = some (a_bin (fun x y => x + y) 10) ∧
  tX2_keptOf 10 = some (a_iald tT 11) ∧
  tX2_keptOf 11 = some (a_iret) := ⟨rfl, rfl, rfl, rfl, rfl, rfl, rfl, rfl, rfl⟩
theorem lX2_changeKept_0 : tX2_changeKept 0 = some (a_aload 0 1) ∧
  tX2_changeKept 1 = some (a_get tT 2 2 4) ∧
  tX2_changeKept 4 = some (a_iload 1 5) ∧
  tX2_changeKept 5 = some (a_const (nI 20) 7) ∧
  tX2_changeKept 7 = some (a_bin (fun x y => x * y) 8) ∧
  tX2_changeKept 8 = some (a_iload 2 9) ∧
  tX2_changeKept 9 = some (a_bin (fun x y => x + y) 10) ∧
  tX2_changeKept 10 = some (a_dup2 11) ∧
  tX2_changeKept 11 = some (a_iald tT 12) ∧
  tX2_changeKept 12 = some (a_iload 3 13) ∧
  tX2_changeKept 13 = some (a_bin (fun x y => x + y) 14) ∧
  tX2_changeKept 14 = some (a_iast tT 15) ∧
  tX2_changeKept 15 = some (a_ret) := ⟨rfl, rfl, rfl, rfl, rfl, rfl, rfl, rfl, rfl, rfl, rfl, rfl, rfl⟩
theorem lX2_someKeeps_0 : tX2_someKeeps 0 = some (a_const (nI 0) 1) ∧
  tX2_someKeeps 1 = some (a_istore 2 2) ∧
  tX2_someKeeps 2 = some (a_iload 2 3) ∧
  tX2_someKeeps 3 = some (a_aload 0 4) ∧
  tX2_someKeeps 4 = some (a_get tT 2 0 7) ∧
  tX2_someKeeps 7 = some (a_cmp (fun x y => y ≤ x) 27 10) ∧
  tX2_someKeeps 10 = some (a_aload 0 11) ∧
  tX2_someKeeps 11 = some (a_iload 2 12) ∧
  tX2_someKeeps 12 = some (a_iload 1 13) ∧
  tX2_someKeeps 13 = some (a_cvI tT mX2_keptOf 2 2 16) ∧
  tX2_someKeeps 16 = some (a_if (fun x => x ≤ nI 0) 21 19) ∧
  tX2_someKeeps 19 = some (a_const (nI 1) 20) ∧
  tX2_someKeeps 20 = some (a_zret) ∧
  tX2_someKeeps 21 = some (a_iinc 2 (nI 1) 24) ∧
  tX2_someKeeps 24 = some (a_goto 2) ∧
  tX2_someKeeps 27 = some (a_const (nI 0) 28) ∧
  tX2_someKeeps 28 = some (a_zret) := ⟨rfl, rfl, rfl, rfl, rfl, rfl, rfl, rfl, rfl, rfl, rfl, rfl, rfl, rfl, rfl, rfl, rfl⟩
theorem lX2_copyFrom_0 : tX2_copyFrom 0 = some (a_aload 0 1) ∧
  tX2_copyFrom 1 = some (a_aload 1 2) ∧
  tX2_copyFrom 2 = some (a_get tT 2 0 5) ∧
  tX2_copyFrom 5 = some (a_put tT 2 0 8) ∧
  tX2_copyFrom 8 = some (a_aload 1 9) ∧
  tX2_copyFrom 9 = some (a_get tT 2 1 12) ∧
  tX2_copyFrom 12 = some (a_const (nI 0) 13) ∧
  tX2_copyFrom 13 = some (a_aload 0 14) ∧
  tX2_copyFrom 14 = some (a_get tT 2 1 17) ∧
  tX2_copyFrom 17 = some (a_const (nI 0) 18) ∧
  tX2_copyFrom 18 = some (a_const (nI 24) 20) ∧
  tX2_copyFrom 20 = some (a_copy tT 23) ∧
  tX2_copyFrom 23 = some (a_aload 1 24) ∧
  tX2_copyFrom 24 = some (a_get tT 2 2 27) ∧
  tX2_copyFrom 27 = some (a_const (nI 0) 28) ∧
  tX2_copyFrom 28 = some (a_aload 0 29) ∧
  tX2_copyFrom 29 = some (a_get tT 2 2 32) ∧
  tX2_copyFrom 32 = some (a_const (nI 0) 33) ∧
  tX2_copyFrom 33 = some (a_const (nI 240) 36) ∧
  tX2_copyFrom 36 = some (a_copy tT 39) ∧
  tX2_copyFrom 39 = some (a_ret) := ⟨rfl, rfl, rfl, rfl, rfl, rfl, rfl, rfl, rfl, rfl, rfl, rfl, rfl, rfl, rfl, rfl, rfl, rfl, rfl, rfl, rfl⟩
theorem lX3_clear_0 : tX3_clear 0 = some (a_aload 0 1) ∧
  tX3_clear 1 = some (a_const (nI 0) 2) ∧
  tX3_clear 2 = some (a_put tT 3 0 5) ∧
  tX3_clear 5 = some (a_aload 0 6) ∧
  tX3_clear 6 = some (a_const (nI 0) 7) ∧
  tX3_clear 7 = some (a_put tT 3 1 10) ∧
  tX3_clear 10 = some (a_ret) := ⟨rfl, rfl, rfl, rfl, rfl, rfl, rfl⟩
theorem lX3_emit_0 : tX3_emit 0 = some (a_aload 0 1) ∧
  tX3_emit 1 = some (a_get tT 3 1 4) ∧
  tX3_emit 4 = some (a_const (nI 400) 7) ∧
  tX3_emit 7 = some (a_cmp (fun x y => y ≤ x) 30 10) ∧
  tX3_emit 10 = some (a_aload 0 11) ∧
  tX3_emit 11 = some (a_get tT 3 2 14) ∧
  tX3_emit 14 = some (a_aload 0 15) ∧
  tX3_emit 15 = some (a_get tT 3 1 18) ∧
  tX3_emit 18 = some (a_iload 1 19) ∧
  tX3_emit 19 = some (a_iast tT 20) ∧
  tX3_emit 20 = some (a_aload 0 21) ∧
  tX3_emit 21 = some (a_dup 22) ∧
  tX3_emit 22 = some (a_get tT 3 1 25) ∧
  tX3_emit 25 = some (a_const (nI 1) 26) ∧
  tX3_emit 26 = some (a_bin (fun x y => x + y) 27) ∧
  tX3_emit 27 = some (a_put tT 3 1 30) ∧
  tX3_emit 30 = some (a_ret) := ⟨rfl, rfl, rfl, rfl, rfl, rfl, rfl, rfl, rfl, rfl, rfl, rfl, rfl, rfl, rfl, rfl, rfl⟩
theorem lX3_allows_0 : tX3_allows 0 = some (a_const (nI 0) 1) ∧
  tX3_allows 1 = some (a_istore 2 2) ∧
  tX3_allows 2 = some (a_const (nI 0) 3) ∧
  tX3_allows 3 = some (a_istore 3 4) ∧
  tX3_allows 4 = some (a_iload 3 5) ∧
  tX3_allows 5 = some (a_aload 0 6) ∧
  tX3_allows 6 = some (a_get tT 3 1 9) ∧
  tX3_allows 9 = some (a_cmp (fun x y => y ≤ x) 208 12) ∧
  tX3_allows 12 = some (a_aload 0 13) ∧
  tX3_allows 13 = some (a_get tT 3 2 16) ∧
  tX3_allows 16 = some (a_iload 3 17) ∧
  tX3_allows 17 = some (a_iald tT 18) ∧
  tX3_allows 18 = some (a_istore 4 20) ∧
  tX3_allows 20 = some (a_iload 4 22) ∧
  tX3_allows 22 = some (a_const (nI 10000) 25) ∧
  tX3_allows 25 = some (a_cmp (fun x y => x = y) 36 28) ∧
  tX3_allows 28 = some (a_iload 4 30) ∧
  tX3_allows 30 = some (a_const (nI 10001) 33) ∧
  tX3_allows 33 = some (a_cmp (fun x y => x = y) 36 68) ∧
  tX3_allows 36 = some (a_iload 2 37) ∧
  tX3_allows 37 = some (a_if (fun x => x = nI 0) 49 40) ∧
  tX3_allows 40 = some (a_aload 0 41) ∧
  tX3_allows 41 = some (a_get tT 3 3 44) ∧
  tX3_allows 44 = some (a_const (nI 0) 45) := ⟨rfl, rfl, rfl, rfl, rfl, rfl, rfl, rfl, rfl, rfl, rfl, rfl, rfl, rfl, rfl, rfl, rfl, rfl, rfl, rfl, rfl, rfl, rfl, rfl⟩
theorem lX3_allows_1 : tX3_allows 45 = some (a_iald tT 46) ∧
  tX3_allows 46 = some (a_if (fun x => x = nI 0) 63 49) ∧
  tX3_allows 49 = some (a_iload 4 51) ∧
  tX3_allows 51 = some (a_const (nI 10000) 54) ∧
  tX3_allows 54 = some (a_cmp (fun x y => x = y) 57 61) ∧
  tX3_allows 57 = some (a_const (nI 1) 58) ∧
  tX3_allows 58 = some (a_goto 62) ∧
  tX3_allows 61 = some (a_const (nI 0) 62) ∧
  tX3_allows 62 = some (a_zret) ∧
  tX3_allows 63 = some (a_const (nI 0) 64) ∧
  tX3_allows 64 = some (a_istore 2 65) ∧
  tX3_allows 65 = some (a_goto 202) ∧
  tX3_allows 68 = some (a_iload 4 70) ∧
  tX3_allows 70 = some (a_const (nI 10005) 73) ∧
  tX3_allows 73 = some (a_cmp (fun x y => x = y) 76 101) ∧
  tX3_allows 76 = some (a_iload 2 77) ∧
  tX3_allows 77 = some (a_if (fun x => x ≤ nI 0) 202 80) ∧
  tX3_allows 80 = some (a_aload 0 81) ∧
  tX3_allows 81 = some (a_get tT 3 3 84) ∧
  tX3_allows 84 = some (a_iload 2 85) ∧
  tX3_allows 85 = some (a_const (nI 1) 86) ∧
  tX3_allows 86 = some (a_bin (fun x y => x - y) 87) ∧
  tX3_allows 87 = some (a_const (nI 1) 88) ∧
  tX3_allows 88 = some (a_aload 0 89) := ⟨rfl, rfl, rfl, rfl, rfl, rfl, rfl, rfl, rfl, rfl, rfl, rfl, rfl, rfl, rfl, rfl, rfl, rfl, rfl, rfl, rfl, rfl, rfl, rfl⟩
theorem lX3_allows_2 : tX3_allows 89 = some (a_get tT 3 3 92) ∧
  tX3_allows 92 = some (a_iload 2 93) ∧
  tX3_allows 93 = some (a_const (nI 1) 94) ∧
  tX3_allows 94 = some (a_bin (fun x y => x - y) 95) ∧
  tX3_allows 95 = some (a_iald tT 96) ∧
  tX3_allows 96 = some (a_bin (fun x y => x - y) 97) ∧
  tX3_allows 97 = some (a_iast tT 98) ∧
  tX3_allows 98 = some (a_goto 202) ∧
  tX3_allows 101 = some (a_iload 4 103) ∧
  tX3_allows 103 = some (a_const (nI 10004) 106) ∧
  tX3_allows 106 = some (a_cmp (fun x y => x = y) 125 109) ∧
  tX3_allows 109 = some (a_iload 4 111) ∧
  tX3_allows 111 = some (a_const (nI 10003) 114) ∧
  tX3_allows 114 = some (a_cmp (fun x y => x = y) 125 117) ∧
  tX3_allows 117 = some (a_iload 4 119) ∧
  tX3_allows 119 = some (a_const (nI 20000) 122) ∧
  tX3_allows 122 = some (a_cmp (fun x y => x < y) 163 125) ∧
  tX3_allows 125 = some (a_iload 2 126) ∧
  tX3_allows 126 = some (a_const (nI 1) 127) ∧
  tX3_allows 127 = some (a_cmp (fun x y => x ≤ y) 202 130) ∧
  tX3_allows 130 = some (a_iinc 2 (-1) 133) ∧
  tX3_allows 133 = some (a_aload 0 134) ∧
  tX3_allows 134 = some (a_get tT 3 3 137) ∧
  tX3_allows 137 = some (a_iload 2 138) := ⟨rfl, rfl, rfl, rfl, rfl, rfl, rfl, rfl, rfl, rfl, rfl, rfl, rfl, rfl, rfl, rfl, rfl, rfl, rfl, rfl, rfl, rfl, rfl, rfl⟩
theorem lX3_allows_3 : tX3_allows 138 = some (a_const (nI 1) 139) ∧
  tX3_allows 139 = some (a_bin (fun x y => x - y) 140) ∧
  tX3_allows 140 = some (a_iload 4 142) ∧
  tX3_allows 142 = some (a_aload 0 143) ∧
  tX3_allows 143 = some (a_get tT 3 3 146) ∧
  tX3_allows 146 = some (a_iload 2 147) ∧
  tX3_allows 147 = some (a_const (nI 1) 148) ∧
  tX3_allows 148 = some (a_bin (fun x y => x - y) 149) ∧
  tX3_allows 149 = some (a_iald tT 150) ∧
  tX3_allows 150 = some (a_aload 0 151) ∧
  tX3_allows 151 = some (a_get tT 3 3 154) ∧
  tX3_allows 154 = some (a_iload 2 155) ∧
  tX3_allows 155 = some (a_iald tT 156) ∧
  tX3_allows 156 = some (a_csI mX3_joined 3 159) ∧
  tX3_allows 159 = some (a_iast tT 160) ∧
  tX3_allows 160 = some (a_goto 202) ∧
  tX3_allows 163 = some (a_iload 2 164) ∧
  tX3_allows 164 = some (a_aload 0 165) ∧
  tX3_allows 165 = some (a_get tT 3 3 168) ∧
  tX3_allows 168 = some (a_alen tT 169) ∧
  tX3_allows 169 = some (a_cmp (fun x y => y ≤ x) 202 172) ∧
  tX3_allows 172 = some (a_aload 0 173) ∧
  tX3_allows 173 = some (a_get tT 3 3 176) ∧
  tX3_allows 176 = some (a_iload 2 177) := ⟨rfl, rfl, rfl, rfl, rfl, rfl, rfl, rfl, rfl, rfl, rfl, rfl, rfl, rfl, rfl, rfl, rfl, rfl, rfl, rfl, rfl, rfl, rfl, rfl⟩
theorem lX3_allows_4 : tX3_allows 177 = some (a_iload 4 179) ∧
  tX3_allows 179 = some (a_csI mX11_isFact 1 182) ∧
  tX3_allows 182 = some (a_if (fun x => x = nI 0) 196 185) ∧
  tX3_allows 185 = some (a_aload 1 186) ∧
  tX3_allows 186 = some (a_iload 4 188) ∧
  tX3_allows 188 = some (a_const (nI 10006) 191) ∧
  tX3_allows 191 = some (a_bin (fun x y => x - y) 192) ∧
  tX3_allows 192 = some (a_iald tT 193) ∧
  tX3_allows 193 = some (a_goto 198) ∧
  tX3_allows 196 = some (a_iload 4 198) ∧
  tX3_allows 198 = some (a_iast tT 199) ∧
  tX3_allows 199 = some (a_iinc 2 (nI 1) 202) ∧
  tX3_allows 202 = some (a_iinc 3 (nI 1) 205) ∧
  tX3_allows 205 = some (a_goto 4) ∧
  tX3_allows 208 = some (a_const (nI 1) 209) ∧
  tX3_allows 209 = some (a_zret) := ⟨rfl, rfl, rfl, rfl, rfl, rfl, rfl, rfl, rfl, rfl, rfl, rfl, rfl, rfl, rfl, rfl⟩
theorem lX3_joined_0 : tX3_joined 0 = some (a_iload 0 1) ∧
  tX3_joined 1 = some (a_sw [(nI 10003, 145), (nI 10004, 141), (nI 20042, 92), (nI 20043, 84), (nI 20045, 88), (nI 20047, 96), (nI 20060, 108), (nI 20061, 119), (nI 20062, 130)] 149) ∧
  tX3_joined 84 = some (a_iload 1 85) ∧
  tX3_joined 85 = some (a_iload 2 86) ∧
  tX3_joined 86 = some (a_bin (fun x y => x + y) 87) ∧
  tX3_joined 87 = some (a_iret) ∧
  tX3_joined 88 = some (a_iload 1 89) ∧
  tX3_joined 89 = some (a_iload 2 90) ∧
  tX3_joined 90 = some (a_bin (fun x y => x - y) 91) ∧
  tX3_joined 91 = some (a_iret) ∧
  tX3_joined 92 = some (a_iload 1 93) ∧
  tX3_joined 93 = some (a_iload 2 94) ∧
  tX3_joined 94 = some (a_bin (fun x y => x * y) 95) ∧
  tX3_joined 95 = some (a_iret) ∧
  tX3_joined 96 = some (a_iload 2 97) ∧
  tX3_joined 97 = some (a_if (fun x => x = nI 0) 100 104) ∧
  tX3_joined 100 = some (a_const (nI 0) 101) ∧
  tX3_joined 101 = some (a_goto 107) ∧
  tX3_joined 104 = some (a_iload 1 105) ∧
  tX3_joined 105 = some (a_iload 2 106) ∧
  tX3_joined 106 = some (a_divr (fun x y => x / y) 107) ∧
  tX3_joined 107 = some (a_iret) ∧
  tX3_joined 108 = some (a_iload 1 109) ∧
  tX3_joined 109 = some (a_iload 2 110) := ⟨rfl, rfl, rfl, rfl, rfl, rfl, rfl, rfl, rfl, rfl, rfl, rfl, rfl, rfl, rfl, rfl, rfl, rfl, rfl, rfl, rfl, rfl, rfl, rfl⟩
theorem lX3_joined_1 : tX3_joined 110 = some (a_cmp (fun x y => y ≤ x) 117 113) ∧
  tX3_joined 113 = some (a_const (nI 1) 114) ∧
  tX3_joined 114 = some (a_goto 118) ∧
  tX3_joined 117 = some (a_const (nI 0) 118) ∧
  tX3_joined 118 = some (a_iret) ∧
  tX3_joined 119 = some (a_iload 1 120) ∧
  tX3_joined 120 = some (a_iload 2 121) ∧
  tX3_joined 121 = some (a_cmp (fun x y => x = y) 124 128) ∧
  tX3_joined 124 = some (a_const (nI 1) 125) ∧
  tX3_joined 125 = some (a_goto 129) ∧
  tX3_joined 128 = some (a_const (nI 0) 129) ∧
  tX3_joined 129 = some (a_iret) ∧
  tX3_joined 130 = some (a_iload 1 131) ∧
  tX3_joined 131 = some (a_iload 2 132) ∧
  tX3_joined 132 = some (a_cmp (fun x y => x ≤ y) 139 135) ∧
  tX3_joined 135 = some (a_const (nI 1) 136) ∧
  tX3_joined 136 = some (a_goto 140) ∧
  tX3_joined 139 = some (a_const (nI 0) 140) ∧
  tX3_joined 140 = some (a_iret) ∧
  tX3_joined 141 = some (a_iload 1 142) ∧
  tX3_joined 142 = some (a_iload 2 143) ∧
  tX3_joined 143 = some (a_bin (fun x y => x &&& y) 144) ∧
  tX3_joined 144 = some (a_iret) ∧
  tX3_joined 145 = some (a_iload 1 146) := ⟨rfl, rfl, rfl, rfl, rfl, rfl, rfl, rfl, rfl, rfl, rfl, rfl, rfl, rfl, rfl, rfl, rfl, rfl, rfl, rfl, rfl, rfl, rfl, rfl⟩
theorem lX3_joined_2 : tX3_joined 146 = some (a_iload 2 147) ∧
  tX3_joined 147 = some (a_bin (fun x y => x ||| y) 148) ∧
  tX3_joined 148 = some (a_iret) ∧
  tX3_joined 149 = some (a_const (nI 0) 150) ∧
  tX3_joined 150 = some (a_iret) := ⟨rfl, rfl, rfl, rfl, rfl⟩
theorem lX3_copyFrom_0 : tX3_copyFrom 0 = some (a_aload 0 1) ∧
  tX3_copyFrom 1 = some (a_aload 1 2) ∧
  tX3_copyFrom 2 = some (a_get tT 3 0 5) ∧
  tX3_copyFrom 5 = some (a_put tT 3 0 8) ∧
  tX3_copyFrom 8 = some (a_aload 0 9) ∧
  tX3_copyFrom 9 = some (a_aload 1 10) ∧
  tX3_copyFrom 10 = some (a_get tT 3 1 13) ∧
  tX3_copyFrom 13 = some (a_put tT 3 1 16) ∧
  tX3_copyFrom 16 = some (a_aload 1 17) ∧
  tX3_copyFrom 17 = some (a_get tT 3 2 20) ∧
  tX3_copyFrom 20 = some (a_const (nI 0) 21) ∧
  tX3_copyFrom 21 = some (a_aload 0 22) ∧
  tX3_copyFrom 22 = some (a_get tT 3 2 25) ∧
  tX3_copyFrom 25 = some (a_const (nI 0) 26) ∧
  tX3_copyFrom 26 = some (a_const (nI 400) 29) ∧
  tX3_copyFrom 29 = some (a_copy tT 32) ∧
  tX3_copyFrom 32 = some (a_ret) := ⟨rfl, rfl, rfl, rfl, rfl, rfl, rfl, rfl, rfl, rfl, rfl, rfl, rfl, rfl, rfl, rfl, rfl⟩
theorem lX4_hasRoom_0 : tX4_hasRoom 0 = some (a_aload 0 1) ∧
  tX4_hasRoom 1 = some (a_get tT 4 0 4) ∧
  tX4_hasRoom 4 = some (a_const (nI 20) 6) ∧
  tX4_hasRoom 6 = some (a_bin (fun x y => x + y) 7) ∧
  tX4_hasRoom 7 = some (a_const (nI 400) 10) ∧
  tX4_hasRoom 10 = some (a_cmp (fun x y => y < x) 17 13) ∧
  tX4_hasRoom 13 = some (a_const (nI 1) 14) ∧
  tX4_hasRoom 14 = some (a_goto 18) ∧
  tX4_hasRoom 17 = some (a_const (nI 0) 18) ∧
  tX4_hasRoom 18 = some (a_zret) := ⟨rfl, rfl, rfl, rfl, rfl, rfl, rfl, rfl, rfl, rfl⟩
theorem lX4_put_0 : tX4_put 0 = some (a_const (nI 24) 2) ∧
  tX4_put 2 = some (a_istore 2 3) ∧
  tX4_put 3 = some (a_iload 2 4) ∧
  tX4_put 4 = some (a_if (fun x => x < nI 0) 49 7) ∧
  tX4_put 7 = some (a_aload 0 8) ∧
  tX4_put 8 = some (a_get tT 4 0 11) ∧
  tX4_put 11 = some (a_const (nI 400) 14) ∧
  tX4_put 14 = some (a_cmp (fun x y => y ≤ x) 49 17) ∧
  tX4_put 17 = some (a_aload 0 18) ∧
  tX4_put 18 = some (a_get tT 4 4 21) ∧
  tX4_put 21 = some (a_aload 0 22) ∧
  tX4_put 22 = some (a_get tT 4 0 25) ∧
  tX4_put 25 = some (a_iload 1 26) ∧
  tX4_put 26 = some (a_iload 2 27) ∧
  tX4_put 27 = some (a_bin am_ushr 28) ∧
  tX4_put 28 = some (a_const (nI 255) 31) ∧
  tX4_put 31 = some (a_bin (fun x y => x &&& y) 32) ∧
  tX4_put 32 = some (a_iast tT 33) ∧
  tX4_put 33 = some (a_aload 0 34) ∧
  tX4_put 34 = some (a_dup 35) ∧
  tX4_put 35 = some (a_get tT 4 0 38) ∧
  tX4_put 38 = some (a_const (nI 1) 39) ∧
  tX4_put 39 = some (a_bin (fun x y => x + y) 40) ∧
  tX4_put 40 = some (a_put tT 4 0 43) := ⟨rfl, rfl, rfl, rfl, rfl, rfl, rfl, rfl, rfl, rfl, rfl, rfl, rfl, rfl, rfl, rfl, rfl, rfl, rfl, rfl, rfl, rfl, rfl, rfl⟩
theorem lX4_put_1 : tX4_put 43 = some (a_iinc 2 (-8) 46) ∧
  tX4_put 46 = some (a_goto 3) ∧
  tX4_put 49 = some (a_ret) := ⟨rfl, rfl, rfl⟩
theorem lX4_read_0 : tX4_read 0 = some (a_aload 0 1) ∧
  tX4_read 1 = some (a_const (nI 0) 2) ∧
  tX4_read 2 = some (a_put tT 4 1 5) ∧
  tX4_read 5 = some (a_aload 0 6) ∧
  tX4_read 6 = some (a_const (-1) 7) ∧
  tX4_read 7 = some (a_put tT 4 2 10) ∧
  tX4_read 10 = some (a_aload 0 11) ∧
  tX4_read 11 = some (a_get tT 4 3 14) ∧
  tX4_read 14 = some (a_cvV tT mX3_clear 3 0 17) ∧
  tX4_read 17 = some (a_aload 0 18) ∧
  tX4_read 18 = some (a_cvV tT mX4_scan 4 0 21) ∧
  tX4_read 21 = some (a_aload 0 22) ∧
  tX4_read 22 = some (a_const (nI 0) 23) ∧
  tX4_read 23 = some (a_put tT 4 7 26) ∧
  tX4_read 26 = some (a_aload 0 27) ∧
  tX4_read 27 = some (a_aload 0 28) ∧
  tX4_read 28 = some (a_get tT 4 5 31) ∧
  tX4_read 31 = some (a_const (nI 0) 32) ∧
  tX4_read 32 = some (a_iald tT 33) ∧
  tX4_read 33 = some (a_put tT 4 8 36) ∧
  tX4_read 36 = some (a_const (nI 0) 37) ∧
  tX4_read 37 = some (a_istore 1 38) ∧
  tX4_read 38 = some (a_iload 1 39) ∧
  tX4_read 39 = some (a_const (nI 16) 41) := ⟨rfl, rfl, rfl, rfl, rfl, rfl, rfl, rfl, rfl, rfl, rfl, rfl, rfl, rfl, rfl, rfl, rfl, rfl, rfl, rfl, rfl, rfl, rfl, rfl⟩
theorem lX4_read_1 : tX4_read 41 = some (a_cmp (fun x y => y < x) 164 44) ∧
  tX4_read 44 = some (a_aload 0 45) ∧
  tX4_read 45 = some (a_get tT 4 8 48) ∧
  tX4_read 48 = some (a_const (-1) 49) ∧
  tX4_read 49 = some (a_cmp (fun x y => x = y) 164 52) ∧
  tX4_read 52 = some (a_aload 0 53) ∧
  tX4_read 53 = some (a_get tT 4 8 56) ∧
  tX4_read 56 = some (a_istore 2 57) ∧
  tX4_read 57 = some (a_iload 2 58) ∧
  tX4_read 58 = some (a_const (nI 10000) 61) ∧
  tX4_read 61 = some (a_cmp (fun x y => x = y) 77 64) ∧
  tX4_read 64 = some (a_iload 2 65) ∧
  tX4_read 65 = some (a_const (nI 10001) 68) ∧
  tX4_read 68 = some (a_cmp (fun x y => x = y) 77 71) ∧
  tX4_read 71 = some (a_aload 0 72) ∧
  tX4_read 72 = some (a_const (nI 1) 73) ∧
  tX4_read 73 = some (a_cvI tT mX4_refuse 4 1 76) ∧
  tX4_read 76 = some (a_zret) ∧
  tX4_read 77 = some (a_iload 1 78) ∧
  tX4_read 78 = some (a_const (nI 16) 80) ∧
  tX4_read 80 = some (a_cmp (fun x y => x = y) 83 89) ∧
  tX4_read 83 = some (a_aload 0 84) ∧
  tX4_read 84 = some (a_const (nI 3) 85) ∧
  tX4_read 85 = some (a_cvI tT mX4_refuse 4 1 88) := ⟨rfl, rfl, rfl, rfl, rfl, rfl, rfl, rfl, rfl, rfl, rfl, rfl, rfl, rfl, rfl, rfl, rfl, rfl, rfl, rfl, rfl, rfl, rfl, rfl⟩
theorem lX4_read_2 : tX4_read 88 = some (a_zret) ∧
  tX4_read 89 = some (a_aload 0 90) ∧
  tX4_read 90 = some (a_cvV tT mX4_next 4 0 93) ∧
  tX4_read 93 = some (a_aload 0 94) ∧
  tX4_read 94 = some (a_get tT 4 8 97) ∧
  tX4_read 97 = some (a_const (nI 10002) 100) ∧
  tX4_read 100 = some (a_cmp (fun x y => x = y) 103 117) ∧
  tX4_read 103 = some (a_aload 0 104) ∧
  tX4_read 104 = some (a_cvV tT mX4_next 4 0 107) ∧
  tX4_read 107 = some (a_aload 0 108) ∧
  tX4_read 108 = some (a_const (nI 0) 109) ∧
  tX4_read 109 = some (a_cvI tT mX4_readCondition 4 1 112) ∧
  tX4_read 112 = some (a_if (fun x => x = nI 0) 115 117) ∧
  tX4_read 115 = some (a_const (nI 0) 116) ∧
  tX4_read 116 = some (a_zret) ∧
  tX4_read 117 = some (a_aload 0 118) ∧
  tX4_read 118 = some (a_get tT 4 8 121) ∧
  tX4_read 121 = some (a_const (nI 20059) 124) ∧
  tX4_read 124 = some (a_cmp (fun x y => x = y) 133 127) ∧
  tX4_read 127 = some (a_aload 0 128) ∧
  tX4_read 128 = some (a_const (nI 1) 129) ∧
  tX4_read 129 = some (a_cvI tT mX4_refuse 4 1 132) ∧
  tX4_read 132 = some (a_zret) ∧
  tX4_read 133 = some (a_aload 0 134) := ⟨rfl, rfl, rfl, rfl, rfl, rfl, rfl, rfl, rfl, rfl, rfl, rfl, rfl, rfl, rfl, rfl, rfl, rfl, rfl, rfl, rfl, rfl, rfl, rfl⟩
theorem lX4_read_3 : tX4_read 134 = some (a_cvV tT mX4_next 4 0 137) ∧
  tX4_read 137 = some (a_aload 0 138) ∧
  tX4_read 138 = some (a_get tT 4 3 141) ∧
  tX4_read 141 = some (a_iload 2 142) ∧
  tX4_read 142 = some (a_cvV tT mX3_emit 3 1 145) ∧
  tX4_read 145 = some (a_aload 0 146) ∧
  tX4_read 146 = some (a_get tT 4 3 149) ∧
  tX4_read 149 = some (a_dup 150) ∧
  tX4_read 150 = some (a_get tT 3 0 153) ∧
  tX4_read 153 = some (a_const (nI 1) 154) ∧
  tX4_read 154 = some (a_bin (fun x y => x + y) 155) ∧
  tX4_read 155 = some (a_put tT 3 0 158) ∧
  tX4_read 158 = some (a_iinc 1 (nI 1) 161) ∧
  tX4_read 161 = some (a_goto 38) ∧
  tX4_read 164 = some (a_const (nI 1) 165) ∧
  tX4_read 165 = some (a_zret) := ⟨rfl, rfl, rfl, rfl, rfl, rfl, rfl, rfl, rfl, rfl, rfl, rfl, rfl, rfl, rfl, rfl⟩
theorem lX4_readCondition_0 : tX4_readCondition 0 = some (a_const (nI 0) 1) ∧
  tX4_readCondition 1 = some (a_istore 2 2) ∧
  tX4_readCondition 2 = some (a_iload 2 3) ∧
  tX4_readCondition 3 = some (a_const (nI 400) 6) ∧
  tX4_readCondition 6 = some (a_cmp (fun x y => y ≤ x) 104 9) ∧
  tX4_readCondition 9 = some (a_aload 0 10) ∧
  tX4_readCondition 10 = some (a_iload 1 11) ∧
  tX4_readCondition 11 = some (a_cvI tT mX4_readClaim 4 1 14) ∧
  tX4_readCondition 14 = some (a_if (fun x => x = nI 0) 17 19) ∧
  tX4_readCondition 17 = some (a_const (nI 0) 18) ∧
  tX4_readCondition 18 = some (a_zret) ∧
  tX4_readCondition 19 = some (a_const (nI 0) 20) ∧
  tX4_readCondition 20 = some (a_istore 3 21) ∧
  tX4_readCondition 21 = some (a_iload 3 22) ∧
  tX4_readCondition 22 = some (a_const (nI 400) 25) ∧
  tX4_readCondition 25 = some (a_cmp (fun x y => y ≤ x) 68 28) ∧
  tX4_readCondition 28 = some (a_aload 0 29) ∧
  tX4_readCondition 29 = some (a_get tT 4 8 32) ∧
  tX4_readCondition 32 = some (a_const (nI 10004) 35) ∧
  tX4_readCondition 35 = some (a_cmp (fun x y => x = y) 38 68) ∧
  tX4_readCondition 38 = some (a_aload 0 39) ∧
  tX4_readCondition 39 = some (a_cvV tT mX4_next 4 0 42) ∧
  tX4_readCondition 42 = some (a_aload 0 43) ∧
  tX4_readCondition 43 = some (a_iload 1 44) := ⟨rfl, rfl, rfl, rfl, rfl, rfl, rfl, rfl, rfl, rfl, rfl, rfl, rfl, rfl, rfl, rfl, rfl, rfl, rfl, rfl, rfl, rfl, rfl, rfl⟩
theorem lX4_readCondition_1 : tX4_readCondition 44 = some (a_cvI tT mX4_readClaim 4 1 47) ∧
  tX4_readCondition 47 = some (a_if (fun x => x = nI 0) 50 52) ∧
  tX4_readCondition 50 = some (a_const (nI 0) 51) ∧
  tX4_readCondition 51 = some (a_zret) ∧
  tX4_readCondition 52 = some (a_aload 0 53) ∧
  tX4_readCondition 53 = some (a_get tT 4 3 56) ∧
  tX4_readCondition 56 = some (a_const (nI 10004) 59) ∧
  tX4_readCondition 59 = some (a_cvV tT mX3_emit 3 1 62) ∧
  tX4_readCondition 62 = some (a_iinc 3 (nI 1) 65) ∧
  tX4_readCondition 65 = some (a_goto 21) ∧
  tX4_readCondition 68 = some (a_iload 2 69) ∧
  tX4_readCondition 69 = some (a_if (fun x => x ≤ nI 0) 82 72) ∧
  tX4_readCondition 72 = some (a_aload 0 73) ∧
  tX4_readCondition 73 = some (a_get tT 4 3 76) ∧
  tX4_readCondition 76 = some (a_const (nI 10003) 79) ∧
  tX4_readCondition 79 = some (a_cvV tT mX3_emit 3 1 82) ∧
  tX4_readCondition 82 = some (a_aload 0 83) ∧
  tX4_readCondition 83 = some (a_get tT 4 8 86) ∧
  tX4_readCondition 86 = some (a_const (nI 10003) 89) ∧
  tX4_readCondition 89 = some (a_cmp (fun x y => x = y) 94 92) ∧
  tX4_readCondition 92 = some (a_const (nI 1) 93) ∧
  tX4_readCondition 93 = some (a_zret) ∧
  tX4_readCondition 94 = some (a_aload 0 95) ∧
  tX4_readCondition 95 = some (a_cvV tT mX4_next 4 0 98) := ⟨rfl, rfl, rfl, rfl, rfl, rfl, rfl, rfl, rfl, rfl, rfl, rfl, rfl, rfl, rfl, rfl, rfl, rfl, rfl, rfl, rfl, rfl, rfl, rfl⟩
theorem lX4_readCondition_2 : tX4_readCondition 98 = some (a_iinc 2 (nI 1) 101) ∧
  tX4_readCondition 101 = some (a_goto 2) ∧
  tX4_readCondition 104 = some (a_const (nI 0) 105) ∧
  tX4_readCondition 105 = some (a_zret) := ⟨rfl, rfl, rfl, rfl⟩
theorem lX4_readClaim_0 : tX4_readClaim 0 = some (a_aload 0 1) ∧
  tX4_readClaim 1 = some (a_get tT 4 8 4) ∧
  tX4_readClaim 4 = some (a_const (nI 20040) 7) ∧
  tX4_readClaim 7 = some (a_cmp (fun x y => x = y) 10 14) ∧
  tX4_readClaim 10 = some (a_const (nI 1) 11) ∧
  tX4_readClaim 11 = some (a_goto 15) ∧
  tX4_readClaim 14 = some (a_const (nI 0) 15) ∧
  tX4_readClaim 15 = some (a_istore 2 16) ∧
  tX4_readClaim 16 = some (a_iload 2 17) ∧
  tX4_readClaim 17 = some (a_if (fun x => x = nI 0) 20 35) ∧
  tX4_readClaim 20 = some (a_aload 0 21) ∧
  tX4_readClaim 21 = some (a_get tT 4 8 24) ∧
  tX4_readClaim 24 = some (a_const (nI 10005) 27) ∧
  tX4_readClaim 27 = some (a_cmp (fun x y => x = y) 35 30) ∧
  tX4_readClaim 30 = some (a_aload 0 31) ∧
  tX4_readClaim 31 = some (a_cvI tT mX4_readComparison 4 0 34) ∧
  tX4_readClaim 34 = some (a_zret) ∧
  tX4_readClaim 35 = some (a_iload 1 36) ∧
  tX4_readClaim 36 = some (a_const (nI 8) 38) ∧
  tX4_readClaim 38 = some (a_cmp (fun x y => x < y) 47 41) ∧
  tX4_readClaim 41 = some (a_aload 0 42) ∧
  tX4_readClaim 42 = some (a_const (nI 3) 43) ∧
  tX4_readClaim 43 = some (a_cvI tT mX4_refuse 4 1 46) ∧
  tX4_readClaim 46 = some (a_zret) := ⟨rfl, rfl, rfl, rfl, rfl, rfl, rfl, rfl, rfl, rfl, rfl, rfl, rfl, rfl, rfl, rfl, rfl, rfl, rfl, rfl, rfl, rfl, rfl, rfl⟩
theorem lX4_readClaim_1 : tX4_readClaim 47 = some (a_aload 0 48) ∧
  tX4_readClaim 48 = some (a_cvV tT mX4_next 4 0 51) ∧
  tX4_readClaim 51 = some (a_iload 2 52) ∧
  tX4_readClaim 52 = some (a_if (fun x => x = nI 0) 55 75) ∧
  tX4_readClaim 55 = some (a_aload 0 56) ∧
  tX4_readClaim 56 = some (a_iload 1 57) ∧
  tX4_readClaim 57 = some (a_const (nI 1) 58) ∧
  tX4_readClaim 58 = some (a_bin (fun x y => x + y) 59) ∧
  tX4_readClaim 59 = some (a_cvI tT mX4_readClaim 4 1 62) ∧
  tX4_readClaim 62 = some (a_istore 3 63) ∧
  tX4_readClaim 63 = some (a_aload 0 64) ∧
  tX4_readClaim 64 = some (a_get tT 4 3 67) ∧
  tX4_readClaim 67 = some (a_const (nI 10005) 70) ∧
  tX4_readClaim 70 = some (a_cvV tT mX3_emit 3 1 73) ∧
  tX4_readClaim 73 = some (a_iload 3 74) ∧
  tX4_readClaim 74 = some (a_zret) ∧
  tX4_readClaim 75 = some (a_aload 0 76) ∧
  tX4_readClaim 76 = some (a_iload 1 77) ∧
  tX4_readClaim 77 = some (a_const (nI 1) 78) ∧
  tX4_readClaim 78 = some (a_bin (fun x y => x + y) 79) ∧
  tX4_readClaim 79 = some (a_cvI tT mX4_readCondition 4 1 82) ∧
  tX4_readClaim 82 = some (a_if (fun x => x = nI 0) 85 87) ∧
  tX4_readClaim 85 = some (a_const (nI 0) 86) ∧
  tX4_readClaim 86 = some (a_zret) := ⟨rfl, rfl, rfl, rfl, rfl, rfl, rfl, rfl, rfl, rfl, rfl, rfl, rfl, rfl, rfl, rfl, rfl, rfl, rfl, rfl, rfl, rfl, rfl, rfl⟩
theorem lX4_readClaim_2 : tX4_readClaim 87 = some (a_aload 0 88) ∧
  tX4_readClaim 88 = some (a_get tT 4 8 91) ∧
  tX4_readClaim 91 = some (a_const (nI 20041) 94) ∧
  tX4_readClaim 94 = some (a_cmp (fun x y => x = y) 103 97) ∧
  tX4_readClaim 97 = some (a_aload 0 98) ∧
  tX4_readClaim 98 = some (a_const (nI 1) 99) ∧
  tX4_readClaim 99 = some (a_cvI tT mX4_refuse 4 1 102) ∧
  tX4_readClaim 102 = some (a_zret) ∧
  tX4_readClaim 103 = some (a_aload 0 104) ∧
  tX4_readClaim 104 = some (a_cvV tT mX4_next 4 0 107) ∧
  tX4_readClaim 107 = some (a_const (nI 1) 108) ∧
  tX4_readClaim 108 = some (a_zret) := ⟨rfl, rfl, rfl, rfl, rfl, rfl, rfl, rfl, rfl, rfl, rfl, rfl⟩
theorem lX4_readComparison_0 : tX4_readComparison 0 = some (a_aload 0 1) ∧
  tX4_readComparison 1 = some (a_cvI tT mX4_readSum 4 0 4) ∧
  tX4_readComparison 4 = some (a_if (fun x => x = nI 0) 7 9) ∧
  tX4_readComparison 7 = some (a_const (nI 0) 8) ∧
  tX4_readComparison 8 = some (a_zret) ∧
  tX4_readComparison 9 = some (a_aload 0 10) ∧
  tX4_readComparison 10 = some (a_get tT 4 8 13) ∧
  tX4_readComparison 13 = some (a_istore 1 14) ∧
  tX4_readComparison 14 = some (a_iload 1 15) ∧
  tX4_readComparison 15 = some (a_const (nI 20060) 18) ∧
  tX4_readComparison 18 = some (a_cmp (fun x y => x = y) 41 21) ∧
  tX4_readComparison 21 = some (a_iload 1 22) ∧
  tX4_readComparison 22 = some (a_const (nI 20061) 25) ∧
  tX4_readComparison 25 = some (a_cmp (fun x y => x = y) 41 28) ∧
  tX4_readComparison 28 = some (a_iload 1 29) ∧
  tX4_readComparison 29 = some (a_const (nI 20062) 32) ∧
  tX4_readComparison 32 = some (a_cmp (fun x y => x = y) 41 35) ∧
  tX4_readComparison 35 = some (a_aload 0 36) ∧
  tX4_readComparison 36 = some (a_const (nI 1) 37) ∧
  tX4_readComparison 37 = some (a_cvI tT mX4_refuse 4 1 40) ∧
  tX4_readComparison 40 = some (a_zret) ∧
  tX4_readComparison 41 = some (a_aload 0 42) ∧
  tX4_readComparison 42 = some (a_cvV tT mX4_next 4 0 45) ∧
  tX4_readComparison 45 = some (a_aload 0 46) := ⟨rfl, rfl, rfl, rfl, rfl, rfl, rfl, rfl, rfl, rfl, rfl, rfl, rfl, rfl, rfl, rfl, rfl, rfl, rfl, rfl, rfl, rfl, rfl, rfl⟩
theorem lX4_readComparison_1 : tX4_readComparison 46 = some (a_cvI tT mX4_readSum 4 0 49) ∧
  tX4_readComparison 49 = some (a_if (fun x => x = nI 0) 52 54) ∧
  tX4_readComparison 52 = some (a_const (nI 0) 53) ∧
  tX4_readComparison 53 = some (a_zret) ∧
  tX4_readComparison 54 = some (a_aload 0 55) ∧
  tX4_readComparison 55 = some (a_get tT 4 3 58) ∧
  tX4_readComparison 58 = some (a_iload 1 59) ∧
  tX4_readComparison 59 = some (a_cvV tT mX3_emit 3 1 62) ∧
  tX4_readComparison 62 = some (a_const (nI 1) 63) ∧
  tX4_readComparison 63 = some (a_zret) := ⟨rfl, rfl, rfl, rfl, rfl, rfl, rfl, rfl, rfl, rfl⟩
theorem lX4_readSum_0 : tX4_readSum 0 = some (a_const (-1) 1) ∧
  tX4_readSum 1 = some (a_istore 1 2) ∧
  tX4_readSum 2 = some (a_const (nI 0) 3) ∧
  tX4_readSum 3 = some (a_istore 2 4) ∧
  tX4_readSum 4 = some (a_iload 2 5) ∧
  tX4_readSum 5 = some (a_const (nI 400) 8) ∧
  tX4_readSum 8 = some (a_cmp (fun x y => y ≤ x) 70 11) ∧
  tX4_readSum 11 = some (a_aload 0 12) ∧
  tX4_readSum 12 = some (a_cvI tT mX4_readProduct 4 0 15) ∧
  tX4_readSum 15 = some (a_if (fun x => x = nI 0) 18 20) ∧
  tX4_readSum 18 = some (a_const (nI 0) 19) ∧
  tX4_readSum 19 = some (a_zret) ∧
  tX4_readSum 20 = some (a_iload 1 21) ∧
  tX4_readSum 21 = some (a_const (-1) 22) ∧
  tX4_readSum 22 = some (a_cmp (fun x y => x = y) 33 25) ∧
  tX4_readSum 25 = some (a_aload 0 26) ∧
  tX4_readSum 26 = some (a_get tT 4 3 29) ∧
  tX4_readSum 29 = some (a_iload 1 30) ∧
  tX4_readSum 30 = some (a_cvV tT mX3_emit 3 1 33) ∧
  tX4_readSum 33 = some (a_aload 0 34) ∧
  tX4_readSum 34 = some (a_get tT 4 8 37) ∧
  tX4_readSum 37 = some (a_const (nI 20043) 40) ∧
  tX4_readSum 40 = some (a_cmp (fun x y => x = y) 55 43) ∧
  tX4_readSum 43 = some (a_aload 0 44) := ⟨rfl, rfl, rfl, rfl, rfl, rfl, rfl, rfl, rfl, rfl, rfl, rfl, rfl, rfl, rfl, rfl, rfl, rfl, rfl, rfl, rfl, rfl, rfl, rfl⟩
theorem lX4_readSum_1 : tX4_readSum 44 = some (a_get tT 4 8 47) ∧
  tX4_readSum 47 = some (a_const (nI 20045) 50) ∧
  tX4_readSum 50 = some (a_cmp (fun x y => x = y) 55 53) ∧
  tX4_readSum 53 = some (a_const (nI 1) 54) ∧
  tX4_readSum 54 = some (a_zret) ∧
  tX4_readSum 55 = some (a_aload 0 56) ∧
  tX4_readSum 56 = some (a_get tT 4 8 59) ∧
  tX4_readSum 59 = some (a_istore 1 60) ∧
  tX4_readSum 60 = some (a_aload 0 61) ∧
  tX4_readSum 61 = some (a_cvV tT mX4_next 4 0 64) ∧
  tX4_readSum 64 = some (a_iinc 2 (nI 1) 67) ∧
  tX4_readSum 67 = some (a_goto 4) ∧
  tX4_readSum 70 = some (a_const (nI 0) 71) ∧
  tX4_readSum 71 = some (a_zret) := ⟨rfl, rfl, rfl, rfl, rfl, rfl, rfl, rfl, rfl, rfl, rfl, rfl, rfl, rfl⟩
theorem lX4_readProduct_0 : tX4_readProduct 0 = some (a_const (-1) 1) ∧
  tX4_readProduct 1 = some (a_istore 1 2) ∧
  tX4_readProduct 2 = some (a_const (nI 0) 3) ∧
  tX4_readProduct 3 = some (a_istore 2 4) ∧
  tX4_readProduct 4 = some (a_iload 2 5) ∧
  tX4_readProduct 5 = some (a_const (nI 400) 8) ∧
  tX4_readProduct 8 = some (a_cmp (fun x y => y ≤ x) 135 11) ∧
  tX4_readProduct 11 = some (a_aload 0 12) ∧
  tX4_readProduct 12 = some (a_get tT 4 8 15) ∧
  tX4_readProduct 15 = some (a_const (nI 0) 16) ∧
  tX4_readProduct 16 = some (a_const (nI 9999) 19) ∧
  tX4_readProduct 19 = some (a_csI mX11_within 3 22) ∧
  tX4_readProduct 22 = some (a_istore 3 23) ∧
  tX4_readProduct 23 = some (a_iload 3 24) ∧
  tX4_readProduct 24 = some (a_if (fun x => x = nI 0) 27 50) ∧
  tX4_readProduct 27 = some (a_aload 0 28) ∧
  tX4_readProduct 28 = some (a_get tT 4 8 31) ∧
  tX4_readProduct 31 = some (a_csI mX11_isFact 1 34) ∧
  tX4_readProduct 34 = some (a_if (fun x => x = nI 0) 44 37) ∧
  tX4_readProduct 37 = some (a_iload 1 38) ∧
  tX4_readProduct 38 = some (a_const (nI 20047) 41) ∧
  tX4_readProduct 41 = some (a_cmp (fun x y => x = y) 44 50) ∧
  tX4_readProduct 44 = some (a_aload 0 45) ∧
  tX4_readProduct 45 = some (a_const (nI 1) 46) := ⟨rfl, rfl, rfl, rfl, rfl, rfl, rfl, rfl, rfl, rfl, rfl, rfl, rfl, rfl, rfl, rfl, rfl, rfl, rfl, rfl, rfl, rfl, rfl, rfl⟩
theorem lX4_readProduct_1 : tX4_readProduct 46 = some (a_cvI tT mX4_refuse 4 1 49) ∧
  tX4_readProduct 49 = some (a_zret) ∧
  tX4_readProduct 50 = some (a_aload 0 51) ∧
  tX4_readProduct 51 = some (a_get tT 4 8 54) ∧
  tX4_readProduct 54 = some (a_if (fun x => x = nI 0) 57 70) ∧
  tX4_readProduct 57 = some (a_iload 1 58) ∧
  tX4_readProduct 58 = some (a_const (nI 20047) 61) ∧
  tX4_readProduct 61 = some (a_cmp (fun x y => x = y) 64 70) ∧
  tX4_readProduct 64 = some (a_aload 0 65) ∧
  tX4_readProduct 65 = some (a_const (nI 2) 66) ∧
  tX4_readProduct 66 = some (a_cvI tT mX4_refuse 4 1 69) ∧
  tX4_readProduct 69 = some (a_zret) ∧
  tX4_readProduct 70 = some (a_aload 0 71) ∧
  tX4_readProduct 71 = some (a_get tT 4 3 74) ∧
  tX4_readProduct 74 = some (a_aload 0 75) ∧
  tX4_readProduct 75 = some (a_get tT 4 8 78) ∧
  tX4_readProduct 78 = some (a_cvV tT mX3_emit 3 1 81) ∧
  tX4_readProduct 81 = some (a_iload 1 82) ∧
  tX4_readProduct 82 = some (a_const (-1) 83) ∧
  tX4_readProduct 83 = some (a_cmp (fun x y => x = y) 94 86) ∧
  tX4_readProduct 86 = some (a_aload 0 87) ∧
  tX4_readProduct 87 = some (a_get tT 4 3 90) ∧
  tX4_readProduct 90 = some (a_iload 1 91) ∧
  tX4_readProduct 91 = some (a_cvV tT mX3_emit 3 1 94) := ⟨rfl, rfl, rfl, rfl, rfl, rfl, rfl, rfl, rfl, rfl, rfl, rfl, rfl, rfl, rfl, rfl, rfl, rfl, rfl, rfl, rfl, rfl, rfl, rfl⟩
theorem lX4_readProduct_2 : tX4_readProduct 94 = some (a_aload 0 95) ∧
  tX4_readProduct 95 = some (a_cvV tT mX4_next 4 0 98) ∧
  tX4_readProduct 98 = some (a_aload 0 99) ∧
  tX4_readProduct 99 = some (a_get tT 4 8 102) ∧
  tX4_readProduct 102 = some (a_const (nI 20042) 105) ∧
  tX4_readProduct 105 = some (a_cmp (fun x y => x = y) 120 108) ∧
  tX4_readProduct 108 = some (a_aload 0 109) ∧
  tX4_readProduct 109 = some (a_get tT 4 8 112) ∧
  tX4_readProduct 112 = some (a_const (nI 20047) 115) ∧
  tX4_readProduct 115 = some (a_cmp (fun x y => x = y) 120 118) ∧
  tX4_readProduct 118 = some (a_const (nI 1) 119) ∧
  tX4_readProduct 119 = some (a_zret) ∧
  tX4_readProduct 120 = some (a_aload 0 121) ∧
  tX4_readProduct 121 = some (a_get tT 4 8 124) ∧
  tX4_readProduct 124 = some (a_istore 1 125) ∧
  tX4_readProduct 125 = some (a_aload 0 126) ∧
  tX4_readProduct 126 = some (a_cvV tT mX4_next 4 0 129) ∧
  tX4_readProduct 129 = some (a_iinc 2 (nI 1) 132) ∧
  tX4_readProduct 132 = some (a_goto 4) ∧
  tX4_readProduct 135 = some (a_const (nI 0) 136) ∧
  tX4_readProduct 136 = some (a_zret) := ⟨rfl, rfl, rfl, rfl, rfl, rfl, rfl, rfl, rfl, rfl, rfl, rfl, rfl, rfl, rfl, rfl, rfl, rfl, rfl, rfl, rfl⟩
theorem lX4_refuse_0 : tX4_refuse 0 = some (a_aload 0 1) ∧
  tX4_refuse 1 = some (a_iload 1 2) ∧
  tX4_refuse 2 = some (a_put tT 4 1 5) ∧
  tX4_refuse 5 = some (a_aload 0 6) ∧
  tX4_refuse 6 = some (a_aload 0 7) ∧
  tX4_refuse 7 = some (a_get tT 4 6 10) ∧
  tX4_refuse 10 = some (a_aload 0 11) ∧
  tX4_refuse 11 = some (a_get tT 4 7 14) ∧
  tX4_refuse 14 = some (a_iald tT 15) ∧
  tX4_refuse 15 = some (a_put tT 4 2 18) ∧
  tX4_refuse 18 = some (a_const (nI 0) 19) ∧
  tX4_refuse 19 = some (a_zret) := ⟨rfl, rfl, rfl, rfl, rfl, rfl, rfl, rfl, rfl, rfl, rfl, rfl⟩
theorem lX4_next_0 : tX4_next 0 = some (a_aload 0 1) ∧
  tX4_next 1 = some (a_get tT 4 8 4) ∧
  tX4_next 4 = some (a_const (-1) 5) ∧
  tX4_next 5 = some (a_cmp (fun x y => x = y) 41 8) ∧
  tX4_next 8 = some (a_aload 0 9) ∧
  tX4_next 9 = some (a_get tT 4 7 12) ∧
  tX4_next 12 = some (a_const (nI 400) 15) ∧
  tX4_next 15 = some (a_cmp (fun x y => y ≤ x) 41 18) ∧
  tX4_next 18 = some (a_aload 0 19) ∧
  tX4_next 19 = some (a_dup 20) ∧
  tX4_next 20 = some (a_get tT 4 7 23) ∧
  tX4_next 23 = some (a_const (nI 1) 24) ∧
  tX4_next 24 = some (a_bin (fun x y => x + y) 25) ∧
  tX4_next 25 = some (a_put tT 4 7 28) ∧
  tX4_next 28 = some (a_aload 0 29) ∧
  tX4_next 29 = some (a_aload 0 30) ∧
  tX4_next 30 = some (a_get tT 4 5 33) ∧
  tX4_next 33 = some (a_aload 0 34) ∧
  tX4_next 34 = some (a_get tT 4 7 37) ∧
  tX4_next 37 = some (a_iald tT 38) ∧
  tX4_next 38 = some (a_put tT 4 8 41) ∧
  tX4_next 41 = some (a_ret) := ⟨rfl, rfl, rfl, rfl, rfl, rfl, rfl, rfl, rfl, rfl, rfl, rfl, rfl, rfl, rfl, rfl, rfl, rfl, rfl, rfl, rfl, rfl⟩
theorem lX4_scan_0 : tX4_scan 0 = some (a_const (nI 0) 1) ∧
  tX4_scan 1 = some (a_istore 1 2) ∧
  tX4_scan 2 = some (a_const (nI 0) 3) ∧
  tX4_scan 3 = some (a_istore 2 4) ∧
  tX4_scan 4 = some (a_const (nI 0) 5) ∧
  tX4_scan 5 = some (a_istore 3 6) ∧
  tX4_scan 6 = some (a_iload 3 7) ∧
  tX4_scan 7 = some (a_const (nI 400) 10) ∧
  tX4_scan 10 = some (a_cmp (fun x y => y ≤ x) 163 13) ∧
  tX4_scan 13 = some (a_iload 2 14) ∧
  tX4_scan 14 = some (a_aload 0 15) ∧
  tX4_scan 15 = some (a_get tT 4 0 18) ∧
  tX4_scan 18 = some (a_cmp (fun x y => y ≤ x) 163 21) ∧
  tX4_scan 21 = some (a_aload 0 22) ∧
  tX4_scan 22 = some (a_get tT 4 4 25) ∧
  tX4_scan 25 = some (a_iload 2 26) ∧
  tX4_scan 26 = some (a_iald tT 27) ∧
  tX4_scan 27 = some (a_istore 4 29) ∧
  tX4_scan 29 = some (a_iload 2 30) ∧
  tX4_scan 30 = some (a_const (nI 1) 31) ∧
  tX4_scan 31 = some (a_bin (fun x y => x + y) 32) ∧
  tX4_scan 32 = some (a_istore 5 34) ∧
  tX4_scan 34 = some (a_iload 4 36) ∧
  tX4_scan 36 = some (a_const (nI 32) 38) := ⟨rfl, rfl, rfl, rfl, rfl, rfl, rfl, rfl, rfl, rfl, rfl, rfl, rfl, rfl, rfl, rfl, rfl, rfl, rfl, rfl, rfl, rfl, rfl, rfl⟩
theorem lX4_scan_1 : tX4_scan 38 = some (a_cmp (fun x y => x = y) 48 41) ∧
  tX4_scan 41 = some (a_iload 4 43) ∧
  tX4_scan 43 = some (a_const (nI 10) 45) ∧
  tX4_scan 45 = some (a_cmp (fun x y => x = y) 48 54) ∧
  tX4_scan 48 = some (a_iload 5 50) ∧
  tX4_scan 50 = some (a_istore 2 51) ∧
  tX4_scan 51 = some (a_goto 157) ∧
  tX4_scan 54 = some (a_aload 0 55) ∧
  tX4_scan 55 = some (a_get tT 4 6 58) ∧
  tX4_scan 58 = some (a_iload 1 59) ∧
  tX4_scan 59 = some (a_iload 2 60) ∧
  tX4_scan 60 = some (a_iast tT 61) ∧
  tX4_scan 61 = some (a_iload 4 63) ∧
  tX4_scan 63 = some (a_csI mX4_isLetter 1 66) ∧
  tX4_scan 66 = some (a_if (fun x => x = nI 0) 92 69) ∧
  tX4_scan 69 = some (a_aload 0 70) ∧
  tX4_scan 70 = some (a_iload 2 71) ∧
  tX4_scan 71 = some (a_cvI tT mX4_wordEnd 4 1 74) ∧
  tX4_scan 74 = some (a_istore 5 76) ∧
  tX4_scan 76 = some (a_aload 0 77) ∧
  tX4_scan 77 = some (a_get tT 4 5 80) ∧
  tX4_scan 80 = some (a_iload 1 81) ∧
  tX4_scan 81 = some (a_aload 0 82) ∧
  tX4_scan 82 = some (a_iload 2 83) := ⟨rfl, rfl, rfl, rfl, rfl, rfl, rfl, rfl, rfl, rfl, rfl, rfl, rfl, rfl, rfl, rfl, rfl, rfl, rfl, rfl, rfl, rfl, rfl, rfl⟩
theorem lX4_scan_2 : tX4_scan 83 = some (a_iload 5 85) ∧
  tX4_scan 85 = some (a_cvI tT mX4_wordOf 4 2 88) ∧
  tX4_scan 88 = some (a_iast tT 89) ∧
  tX4_scan 89 = some (a_goto 151) ∧
  tX4_scan 92 = some (a_iload 4 94) ∧
  tX4_scan 94 = some (a_csI mX4_isDigit 1 97) ∧
  tX4_scan 97 = some (a_if (fun x => x = nI 0) 123 100) ∧
  tX4_scan 100 = some (a_aload 0 101) ∧
  tX4_scan 101 = some (a_iload 2 102) ∧
  tX4_scan 102 = some (a_cvI tT mX4_numberEnd 4 1 105) ∧
  tX4_scan 105 = some (a_istore 5 107) ∧
  tX4_scan 107 = some (a_aload 0 108) ∧
  tX4_scan 108 = some (a_get tT 4 5 111) ∧
  tX4_scan 111 = some (a_iload 1 112) ∧
  tX4_scan 112 = some (a_aload 0 113) ∧
  tX4_scan 113 = some (a_iload 2 114) ∧
  tX4_scan 114 = some (a_iload 5 116) ∧
  tX4_scan 116 = some (a_cvI tT mX4_numberOf 4 2 119) ∧
  tX4_scan 119 = some (a_iast tT 120) ∧
  tX4_scan 120 = some (a_goto 151) ∧
  tX4_scan 123 = some (a_aload 0 124) ∧
  tX4_scan 124 = some (a_get tT 4 5 127) ∧
  tX4_scan 127 = some (a_iload 1 128) ∧
  tX4_scan 128 = some (a_ldS 1 130) := ⟨rfl, rfl, rfl, rfl, rfl, rfl, rfl, rfl, rfl, rfl, rfl, rfl, rfl, rfl, rfl, rfl, rfl, rfl, rfl, rfl, rfl, rfl, rfl, rfl⟩
theorem lX4_scan_3 : tX4_scan 130 = some (a_iload 4 132) ∧
  tX4_scan 132 = some (a_un am_i2c 133) ∧
  tX4_scan 133 = some (a_cvS tT mJ0_indexOf_0f7a4 1 136) ∧
  tX4_scan 136 = some (a_if (fun x => x < nI 0) 148 139) ∧
  tX4_scan 139 = some (a_const (nI 20000) 142) ∧
  tX4_scan 142 = some (a_iload 4 144) ∧
  tX4_scan 144 = some (a_bin (fun x y => x + y) 145) ∧
  tX4_scan 145 = some (a_goto 150) ∧
  tX4_scan 148 = some (a_const (-2) 150) ∧
  tX4_scan 150 = some (a_iast tT 151) ∧
  tX4_scan 151 = some (a_iinc 1 (nI 1) 154) ∧
  tX4_scan 154 = some (a_iload 5 156) ∧
  tX4_scan 156 = some (a_istore 2 157) ∧
  tX4_scan 157 = some (a_iinc 3 (nI 1) 160) ∧
  tX4_scan 160 = some (a_goto 6) ∧
  tX4_scan 163 = some (a_aload 0 164) ∧
  tX4_scan 164 = some (a_get tT 4 6 167) ∧
  tX4_scan 167 = some (a_iload 1 168) ∧
  tX4_scan 168 = some (a_aload 0 169) ∧
  tX4_scan 169 = some (a_get tT 4 0 172) ∧
  tX4_scan 172 = some (a_iast tT 173) ∧
  tX4_scan 173 = some (a_aload 0 174) ∧
  tX4_scan 174 = some (a_get tT 4 5 177) ∧
  tX4_scan 177 = some (a_iload 1 178) := ⟨rfl, rfl, rfl, rfl, rfl, rfl, rfl, rfl, rfl, rfl, rfl, rfl, rfl, rfl, rfl, rfl, rfl, rfl, rfl, rfl, rfl, rfl, rfl, rfl⟩
theorem lX4_scan_4 : tX4_scan 178 = some (a_const (-1) 179) ∧
  tX4_scan 179 = some (a_iast tT 180) ∧
  tX4_scan 180 = some (a_ret) := ⟨rfl, rfl, rfl⟩
theorem lX4_wordEnd_0 : tX4_wordEnd 0 = some (a_iload 1 1) ∧
  tX4_wordEnd 1 = some (a_istore 2 2) ∧
  tX4_wordEnd 2 = some (a_iload 2 3) ∧
  tX4_wordEnd 3 = some (a_aload 0 4) ∧
  tX4_wordEnd 4 = some (a_get tT 4 0 7) ∧
  tX4_wordEnd 7 = some (a_cmp (fun x y => y ≤ x) 28 10) ∧
  tX4_wordEnd 10 = some (a_aload 0 11) ∧
  tX4_wordEnd 11 = some (a_get tT 4 4 14) ∧
  tX4_wordEnd 14 = some (a_iload 2 15) ∧
  tX4_wordEnd 15 = some (a_iald tT 16) ∧
  tX4_wordEnd 16 = some (a_csI mX4_isLetter 1 19) ∧
  tX4_wordEnd 19 = some (a_if (fun x => x = nI 0) 28 22) ∧
  tX4_wordEnd 22 = some (a_iinc 2 (nI 1) 25) ∧
  tX4_wordEnd 25 = some (a_goto 2) ∧
  tX4_wordEnd 28 = some (a_iload 2 29) ∧
  tX4_wordEnd 29 = some (a_iret) := ⟨rfl, rfl, rfl, rfl, rfl, rfl, rfl, rfl, rfl, rfl, rfl, rfl, rfl, rfl, rfl, rfl⟩
theorem lX4_numberEnd_0 : tX4_numberEnd 0 = some (a_iload 1 1) ∧
  tX4_numberEnd 1 = some (a_istore 2 2) ∧
  tX4_numberEnd 2 = some (a_iload 2 3) ∧
  tX4_numberEnd 3 = some (a_aload 0 4) ∧
  tX4_numberEnd 4 = some (a_get tT 4 0 7) ∧
  tX4_numberEnd 7 = some (a_cmp (fun x y => y ≤ x) 28 10) ∧
  tX4_numberEnd 10 = some (a_aload 0 11) ∧
  tX4_numberEnd 11 = some (a_get tT 4 4 14) ∧
  tX4_numberEnd 14 = some (a_iload 2 15) ∧
  tX4_numberEnd 15 = some (a_iald tT 16) ∧
  tX4_numberEnd 16 = some (a_csI mX4_isDigit 1 19) ∧
  tX4_numberEnd 19 = some (a_if (fun x => x = nI 0) 28 22) ∧
  tX4_numberEnd 22 = some (a_iinc 2 (nI 1) 25) ∧
  tX4_numberEnd 25 = some (a_goto 2) ∧
  tX4_numberEnd 28 = some (a_iload 2 29) ∧
  tX4_numberEnd 29 = some (a_iret) := ⟨rfl, rfl, rfl, rfl, rfl, rfl, rfl, rfl, rfl, rfl, rfl, rfl, rfl, rfl, rfl, rfl⟩
theorem lX4_wordOf_0 : tX4_wordOf 0 = some (a_const (nI 0) 1) ∧
  tX4_wordOf 1 = some (a_istore 3 2) ∧
  tX4_wordOf 2 = some (a_const (nI 0) 3) ∧
  tX4_wordOf 3 = some (a_istore 4 5) ∧
  tX4_wordOf 5 = some (a_const (nI 0) 6) ∧
  tX4_wordOf 6 = some (a_istore 5 8) ∧
  tX4_wordOf 8 = some (a_iload 5 10) ∧
  tX4_wordOf 10 = some (a_ldS 0 12) ∧
  tX4_wordOf 12 = some (a_cvS tT mJ0_length_8abf5 0 15) ∧
  tX4_wordOf 15 = some (a_cmp (fun x y => y ≤ x) 77 18) ∧
  tX4_wordOf 18 = some (a_ldS 0 20) ∧
  tX4_wordOf 20 = some (a_iload 5 22) ∧
  tX4_wordOf 22 = some (a_cvS tT mJ0_charAt_5068e 1 25) ∧
  tX4_wordOf 25 = some (a_const (nI 32) 27) ∧
  tX4_wordOf 27 = some (a_cmp (fun x y => x = y) 33 30) ∧
  tX4_wordOf 30 = some (a_goto 71) ∧
  tX4_wordOf 33 = some (a_iload 5 35) ∧
  tX4_wordOf 35 = some (a_iload 4 37) ∧
  tX4_wordOf 37 = some (a_bin (fun x y => x - y) 38) ∧
  tX4_wordOf 38 = some (a_iload 2 39) ∧
  tX4_wordOf 39 = some (a_iload 1 40) ∧
  tX4_wordOf 40 = some (a_bin (fun x y => x - y) 41) ∧
  tX4_wordOf 41 = some (a_cmp (fun x y => x = y) 44 62) ∧
  tX4_wordOf 44 = some (a_aload 0 45) := ⟨rfl, rfl, rfl, rfl, rfl, rfl, rfl, rfl, rfl, rfl, rfl, rfl, rfl, rfl, rfl, rfl, rfl, rfl, rfl, rfl, rfl, rfl, rfl, rfl⟩
theorem lX4_wordOf_1 : tX4_wordOf 45 = some (a_iload 4 47) ∧
  tX4_wordOf 47 = some (a_iload 5 49) ∧
  tX4_wordOf 49 = some (a_iload 1 50) ∧
  tX4_wordOf 50 = some (a_cvI tT mX4_isWritten 4 3 53) ∧
  tX4_wordOf 53 = some (a_if (fun x => x = nI 0) 62 56) ∧
  tX4_wordOf 56 = some (a_const (nI 10000) 59) ∧
  tX4_wordOf 59 = some (a_iload 3 60) ∧
  tX4_wordOf 60 = some (a_bin (fun x y => x + y) 61) ∧
  tX4_wordOf 61 = some (a_iret) ∧
  tX4_wordOf 62 = some (a_iinc 3 (nI 1) 65) ∧
  tX4_wordOf 65 = some (a_iload 5 67) ∧
  tX4_wordOf 67 = some (a_const (nI 1) 68) ∧
  tX4_wordOf 68 = some (a_bin (fun x y => x + y) 69) ∧
  tX4_wordOf 69 = some (a_istore 4 71) ∧
  tX4_wordOf 71 = some (a_iinc 5 (nI 1) 74) ∧
  tX4_wordOf 74 = some (a_goto 8) ∧
  tX4_wordOf 77 = some (a_const (-2) 79) ∧
  tX4_wordOf 79 = some (a_iret) := ⟨rfl, rfl, rfl, rfl, rfl, rfl, rfl, rfl, rfl, rfl, rfl, rfl, rfl, rfl, rfl, rfl, rfl, rfl⟩
theorem lX4_isWritten_0 : tX4_isWritten 0 = some (a_iload 1 1) ∧
  tX4_isWritten 1 = some (a_istore 4 3) ∧
  tX4_isWritten 3 = some (a_iload 4 5) ∧
  tX4_isWritten 5 = some (a_iload 2 6) ∧
  tX4_isWritten 6 = some (a_cmp (fun x y => y ≤ x) 38 9) ∧
  tX4_isWritten 9 = some (a_ldS 0 11) ∧
  tX4_isWritten 11 = some (a_iload 4 13) ∧
  tX4_isWritten 13 = some (a_cvS tT mJ0_charAt_5068e 1 16) ∧
  tX4_isWritten 16 = some (a_aload 0 17) ∧
  tX4_isWritten 17 = some (a_get tT 4 4 20) ∧
  tX4_isWritten 20 = some (a_iload 3 21) ∧
  tX4_isWritten 21 = some (a_iload 4 23) ∧
  tX4_isWritten 23 = some (a_bin (fun x y => x + y) 24) ∧
  tX4_isWritten 24 = some (a_iload 1 25) ∧
  tX4_isWritten 25 = some (a_bin (fun x y => x - y) 26) ∧
  tX4_isWritten 26 = some (a_iald tT 27) ∧
  tX4_isWritten 27 = some (a_cmp (fun x y => x = y) 32 30) ∧
  tX4_isWritten 30 = some (a_const (nI 0) 31) ∧
  tX4_isWritten 31 = some (a_zret) ∧
  tX4_isWritten 32 = some (a_iinc 4 (nI 1) 35) ∧
  tX4_isWritten 35 = some (a_goto 3) ∧
  tX4_isWritten 38 = some (a_const (nI 1) 39) ∧
  tX4_isWritten 39 = some (a_zret) := ⟨rfl, rfl, rfl, rfl, rfl, rfl, rfl, rfl, rfl, rfl, rfl, rfl, rfl, rfl, rfl, rfl, rfl, rfl, rfl, rfl, rfl, rfl, rfl⟩
theorem lX4_numberOf_0 : tX4_numberOf 0 = some (a_iload 2 1) ∧
  tX4_numberOf 1 = some (a_iload 1 2) ∧
  tX4_numberOf 2 = some (a_bin (fun x y => x - y) 3) ∧
  tX4_numberOf 3 = some (a_const (nI 4) 4) ∧
  tX4_numberOf 4 = some (a_cmp (fun x y => x ≤ y) 10 7) ∧
  tX4_numberOf 7 = some (a_const (-2) 9) ∧
  tX4_numberOf 9 = some (a_iret) ∧
  tX4_numberOf 10 = some (a_const (nI 0) 11) ∧
  tX4_numberOf 11 = some (a_istore 3 12) ∧
  tX4_numberOf 12 = some (a_iload 1 13) ∧
  tX4_numberOf 13 = some (a_istore 4 15) ∧
  tX4_numberOf 15 = some (a_iload 4 17) ∧
  tX4_numberOf 17 = some (a_iload 2 18) ∧
  tX4_numberOf 18 = some (a_cmp (fun x y => y ≤ x) 43 21) ∧
  tX4_numberOf 21 = some (a_iload 3 22) ∧
  tX4_numberOf 22 = some (a_const (nI 10) 24) ∧
  tX4_numberOf 24 = some (a_bin (fun x y => x * y) 25) ∧
  tX4_numberOf 25 = some (a_aload 0 26) ∧
  tX4_numberOf 26 = some (a_get tT 4 4 29) ∧
  tX4_numberOf 29 = some (a_iload 4 31) ∧
  tX4_numberOf 31 = some (a_iald tT 32) ∧
  tX4_numberOf 32 = some (a_bin (fun x y => x + y) 33) ∧
  tX4_numberOf 33 = some (a_const (nI 48) 35) ∧
  tX4_numberOf 35 = some (a_bin (fun x y => x - y) 36) := ⟨rfl, rfl, rfl, rfl, rfl, rfl, rfl, rfl, rfl, rfl, rfl, rfl, rfl, rfl, rfl, rfl, rfl, rfl, rfl, rfl, rfl, rfl, rfl, rfl⟩
theorem lX4_numberOf_1 : tX4_numberOf 36 = some (a_istore 3 37) ∧
  tX4_numberOf 37 = some (a_iinc 4 (nI 1) 40) ∧
  tX4_numberOf 40 = some (a_goto 15) ∧
  tX4_numberOf 43 = some (a_iload 3 44) ∧
  tX4_numberOf 44 = some (a_iret) := ⟨rfl, rfl, rfl, rfl, rfl⟩
theorem lX4_isLetter_0 : tX4_isLetter 0 = some (a_iload 0 1) ∧
  tX4_isLetter 1 = some (a_const (nI 97) 3) ∧
  tX4_isLetter 3 = some (a_const (nI 122) 5) ∧
  tX4_isLetter 5 = some (a_csI mX11_within 3 8) ∧
  tX4_isLetter 8 = some (a_if (fun x => x = nI 0) 11 22) ∧
  tX4_isLetter 11 = some (a_iload 0 12) ∧
  tX4_isLetter 12 = some (a_const (nI 65) 14) ∧
  tX4_isLetter 14 = some (a_const (nI 90) 16) ∧
  tX4_isLetter 16 = some (a_csI mX11_within 3 19) ∧
  tX4_isLetter 19 = some (a_if (fun x => x = nI 0) 26 22) ∧
  tX4_isLetter 22 = some (a_const (nI 1) 23) ∧
  tX4_isLetter 23 = some (a_goto 27) ∧
  tX4_isLetter 26 = some (a_const (nI 0) 27) ∧
  tX4_isLetter 27 = some (a_zret) := ⟨rfl, rfl, rfl, rfl, rfl, rfl, rfl, rfl, rfl, rfl, rfl, rfl, rfl, rfl⟩
theorem lX4_isDigit_0 : tX4_isDigit 0 = some (a_iload 0 1) ∧
  tX4_isDigit 1 = some (a_const (nI 48) 3) ∧
  tX4_isDigit 3 = some (a_const (nI 57) 5) ∧
  tX4_isDigit 5 = some (a_csI mX11_within 3 8) ∧
  tX4_isDigit 8 = some (a_zret) := ⟨rfl, rfl, rfl, rfl, rfl⟩
theorem lX5_add_0 : tX5_add 0 = some (a_aload 0 1) ∧
  tX5_add 1 = some (a_get tT 5 0 4) ∧
  tX5_add 4 = some (a_istore 3 5) ∧
  tX5_add 5 = some (a_iload 3 6) ∧
  tX5_add 6 = some (a_const (nI 8) 8) ∧
  tX5_add 8 = some (a_cmp (fun x y => x < y) 13 11) ∧
  tX5_add 11 = some (a_const (-1) 12) ∧
  tX5_add 12 = some (a_iret) ∧
  tX5_add 13 = some (a_aload 0 14) ∧
  tX5_add 14 = some (a_get tT 5 1 17) ∧
  tX5_add 17 = some (a_iload 3 18) ∧
  tX5_add 18 = some (a_iload 1 19) ∧
  tX5_add 19 = some (a_iast tT 20) ∧
  tX5_add 20 = some (a_aload 0 21) ∧
  tX5_add 21 = some (a_get tT 5 2 24) ∧
  tX5_add 24 = some (a_iload 3 25) ∧
  tX5_add 25 = some (a_iload 2 26) ∧
  tX5_add 26 = some (a_iast tT 27) ∧
  tX5_add 27 = some (a_aload 0 28) ∧
  tX5_add 28 = some (a_get tT 5 3 31) ∧
  tX5_add 31 = some (a_iload 3 32) ∧
  tX5_add 32 = some (a_const (nI 0) 33) ∧
  tX5_add 33 = some (a_iast tT 34) ∧
  tX5_add 34 = some (a_aload 0 35) := ⟨rfl, rfl, rfl, rfl, rfl, rfl, rfl, rfl, rfl, rfl, rfl, rfl, rfl, rfl, rfl, rfl, rfl, rfl, rfl, rfl, rfl, rfl, rfl, rfl⟩
theorem lX5_add_1 : tX5_add 35 = some (a_get tT 5 4 38) ∧
  tX5_add 38 = some (a_iload 3 39) ∧
  tX5_add 39 = some (a_const (nI 0) 40) ∧
  tX5_add 40 = some (a_iast tT 41) ∧
  tX5_add 41 = some (a_aload 0 42) ∧
  tX5_add 42 = some (a_get tT 5 5 45) ∧
  tX5_add 45 = some (a_iload 3 46) ∧
  tX5_add 46 = some (a_const (nI 0) 47) ∧
  tX5_add 47 = some (a_iast tT 48) ∧
  tX5_add 48 = some (a_aload 0 49) ∧
  tX5_add 49 = some (a_get tT 5 6 52) ∧
  tX5_add 52 = some (a_iload 3 53) ∧
  tX5_add 53 = some (a_const (nI 0) 54) ∧
  tX5_add 54 = some (a_iast tT 55) ∧
  tX5_add 55 = some (a_aload 0 56) ∧
  tX5_add 56 = some (a_iload 3 57) ∧
  tX5_add 57 = some (a_const (nI 1) 58) ∧
  tX5_add 58 = some (a_bin (fun x y => x + y) 59) ∧
  tX5_add 59 = some (a_put tT 5 0 62) ∧
  tX5_add 62 = some (a_iload 3 63) ∧
  tX5_add 63 = some (a_iret) := ⟨rfl, rfl, rfl, rfl, rfl, rfl, rfl, rfl, rfl, rfl, rfl, rfl, rfl, rfl, rfl, rfl, rfl, rfl, rfl, rfl, rfl⟩
theorem lX5_nameAt_0 : tX5_nameAt 0 = some (a_aload 0 1) ∧
  tX5_nameAt 1 = some (a_get tT 5 7 4) ∧
  tX5_nameAt 4 = some (a_iload 1 5) ∧
  tX5_nameAt 5 = some (a_const (nI 9) 7) ∧
  tX5_nameAt 7 = some (a_bin (fun x y => x * y) 8) ∧
  tX5_nameAt 8 = some (a_iload 2 9) ∧
  tX5_nameAt 9 = some (a_bin (fun x y => x + y) 10) ∧
  tX5_nameAt 10 = some (a_iald tT 11) ∧
  tX5_nameAt 11 = some (a_iret) := ⟨rfl, rfl, rfl, rfl, rfl, rfl, rfl, rfl, rfl⟩
theorem lX5_hasName_0 : tX5_hasName 0 = some (a_aload 0 1) ∧
  tX5_hasName 1 = some (a_get tT 5 5 4) ∧
  tX5_hasName 4 = some (a_iload 1 5) ∧
  tX5_hasName 5 = some (a_iald tT 6) ∧
  tX5_hasName 6 = some (a_iload 2 7) ∧
  tX5_hasName 7 = some (a_bin (fun x y => x >>> (y &&& 31)) 8) ∧
  tX5_hasName 8 = some (a_const (nI 1) 9) ∧
  tX5_hasName 9 = some (a_bin (fun x y => x &&& y) 10) ∧
  tX5_hasName 10 = some (a_if (fun x => x = nI 0) 17 13) ∧
  tX5_hasName 13 = some (a_const (nI 1) 14) ∧
  tX5_hasName 14 = some (a_goto 18) ∧
  tX5_hasName 17 = some (a_const (nI 0) 18) ∧
  tX5_hasName 18 = some (a_zret) := ⟨rfl, rfl, rfl, rfl, rfl, rfl, rfl, rfl, rfl, rfl, rfl, rfl, rfl⟩
theorem lX5_canGain_0 : tX5_canGain 0 = some (a_aload 0 1) ∧
  tX5_canGain 1 = some (a_get tT 5 6 4) ∧
  tX5_canGain 4 = some (a_iload 1 5) ∧
  tX5_canGain 5 = some (a_iald tT 6) ∧
  tX5_canGain 6 = some (a_const (nI 9) 8) ∧
  tX5_canGain 8 = some (a_cmp (fun x y => y ≤ x) 24 11) ∧
  tX5_canGain 11 = some (a_aload 0 12) ∧
  tX5_canGain 12 = some (a_iload 1 13) ∧
  tX5_canGain 13 = some (a_iload 2 14) ∧
  tX5_canGain 14 = some (a_cvI tT mX5_hasName 5 2 17) ∧
  tX5_canGain 17 = some (a_if (fun x => x = nI 0) 20 24) ∧
  tX5_canGain 20 = some (a_const (nI 1) 21) ∧
  tX5_canGain 21 = some (a_goto 25) ∧
  tX5_canGain 24 = some (a_const (nI 0) 25) ∧
  tX5_canGain 25 = some (a_zret) := ⟨rfl, rfl, rfl, rfl, rfl, rfl, rfl, rfl, rfl, rfl, rfl, rfl, rfl, rfl, rfl⟩
theorem lX5_append_0 : tX5_append 0 = some (a_aload 0 1) ∧
  tX5_append 1 = some (a_iload 1 2) ∧
  tX5_append 2 = some (a_aload 0 3) ∧
  tX5_append 3 = some (a_get tT 5 6 6) ∧
  tX5_append 6 = some (a_iload 1 7) ∧
  tX5_append 7 = some (a_iald tT 8) ∧
  tX5_append 8 = some (a_iload 2 9) ∧
  tX5_append 9 = some (a_cvV tT mX5_insert 5 3 12) ∧
  tX5_append 12 = some (a_ret) := ⟨rfl, rfl, rfl, rfl, rfl, rfl, rfl, rfl, rfl⟩
theorem lX5_insert_0 : tX5_insert 0 = some (a_aload 0 1) ∧
  tX5_insert 1 = some (a_get tT 5 6 4) ∧
  tX5_insert 4 = some (a_iload 1 5) ∧
  tX5_insert 5 = some (a_iald tT 6) ∧
  tX5_insert 6 = some (a_istore 4 8) ∧
  tX5_insert 8 = some (a_iload 4 10) ∧
  tX5_insert 10 = some (a_const (nI 9) 12) ∧
  tX5_insert 12 = some (a_cmp (fun x y => y ≤ x) 21 15) ∧
  tX5_insert 15 = some (a_iload 2 16) ∧
  tX5_insert 16 = some (a_iload 4 18) ∧
  tX5_insert 18 = some (a_cmp (fun x y => x ≤ y) 22 21) ∧
  tX5_insert 21 = some (a_ret) ∧
  tX5_insert 22 = some (a_iload 1 23) ∧
  tX5_insert 23 = some (a_const (nI 9) 25) ∧
  tX5_insert 25 = some (a_bin (fun x y => x * y) 26) ∧
  tX5_insert 26 = some (a_iload 2 27) ∧
  tX5_insert 27 = some (a_bin (fun x y => x + y) 28) ∧
  tX5_insert 28 = some (a_istore 5 30) ∧
  tX5_insert 30 = some (a_aload 0 31) ∧
  tX5_insert 31 = some (a_get tT 5 7 34) ∧
  tX5_insert 34 = some (a_iload 5 36) ∧
  tX5_insert 36 = some (a_aload 0 37) ∧
  tX5_insert 37 = some (a_get tT 5 7 40) ∧
  tX5_insert 40 = some (a_iload 5 42) := ⟨rfl, rfl, rfl, rfl, rfl, rfl, rfl, rfl, rfl, rfl, rfl, rfl, rfl, rfl, rfl, rfl, rfl, rfl, rfl, rfl, rfl, rfl, rfl, rfl⟩
theorem lX5_insert_1 : tX5_insert 42 = some (a_const (nI 1) 43) ∧
  tX5_insert 43 = some (a_bin (fun x y => x + y) 44) ∧
  tX5_insert 44 = some (a_iload 4 46) ∧
  tX5_insert 46 = some (a_iload 2 47) ∧
  tX5_insert 47 = some (a_bin (fun x y => x - y) 48) ∧
  tX5_insert 48 = some (a_copy tT 51) ∧
  tX5_insert 51 = some (a_aload 0 52) ∧
  tX5_insert 52 = some (a_get tT 5 7 55) ∧
  tX5_insert 55 = some (a_iload 5 57) ∧
  tX5_insert 57 = some (a_iload 3 58) ∧
  tX5_insert 58 = some (a_iast tT 59) ∧
  tX5_insert 59 = some (a_aload 0 60) ∧
  tX5_insert 60 = some (a_get tT 5 6 63) ∧
  tX5_insert 63 = some (a_iload 1 64) ∧
  tX5_insert 64 = some (a_iload 4 66) ∧
  tX5_insert 66 = some (a_const (nI 1) 67) ∧
  tX5_insert 67 = some (a_bin (fun x y => x + y) 68) ∧
  tX5_insert 68 = some (a_iast tT 69) ∧
  tX5_insert 69 = some (a_aload 0 70) ∧
  tX5_insert 70 = some (a_get tT 5 5 73) ∧
  tX5_insert 73 = some (a_iload 1 74) ∧
  tX5_insert 74 = some (a_dup2 75) ∧
  tX5_insert 75 = some (a_iald tT 76) ∧
  tX5_insert 76 = some (a_const (nI 1) 77) := ⟨rfl, rfl, rfl, rfl, rfl, rfl, rfl, rfl, rfl, rfl, rfl, rfl, rfl, rfl, rfl, rfl, rfl, rfl, rfl, rfl, rfl, rfl, rfl, rfl⟩
theorem lX5_insert_2 : tX5_insert 77 = some (a_iload 3 78) ∧
  tX5_insert 78 = some (a_bin (fun x y => x <<< (y &&& 31)) 79) ∧
  tX5_insert 79 = some (a_bin (fun x y => x ||| y) 80) ∧
  tX5_insert 80 = some (a_iast tT 81) ∧
  tX5_insert 81 = some (a_ret) := ⟨rfl, rfl, rfl, rfl, rfl⟩
theorem lX5_remove_0 : tX5_remove 0 = some (a_aload 0 1) ∧
  tX5_remove 1 = some (a_get tT 5 6 4) ∧
  tX5_remove 4 = some (a_iload 1 5) ∧
  tX5_remove 5 = some (a_iald tT 6) ∧
  tX5_remove 6 = some (a_istore 3 7) ∧
  tX5_remove 7 = some (a_iload 2 8) ∧
  tX5_remove 8 = some (a_if (fun x => x < nI 0) 16 11) ∧
  tX5_remove 11 = some (a_iload 2 12) ∧
  tX5_remove 12 = some (a_iload 3 13) ∧
  tX5_remove 13 = some (a_cmp (fun x y => x < y) 17 16) ∧
  tX5_remove 16 = some (a_ret) ∧
  tX5_remove 17 = some (a_iload 1 18) ∧
  tX5_remove 18 = some (a_const (nI 9) 20) ∧
  tX5_remove 20 = some (a_bin (fun x y => x * y) 21) ∧
  tX5_remove 21 = some (a_iload 2 22) ∧
  tX5_remove 22 = some (a_bin (fun x y => x + y) 23) ∧
  tX5_remove 23 = some (a_istore 4 25) ∧
  tX5_remove 25 = some (a_aload 0 26) ∧
  tX5_remove 26 = some (a_get tT 5 5 29) ∧
  tX5_remove 29 = some (a_iload 1 30) ∧
  tX5_remove 30 = some (a_dup2 31) ∧
  tX5_remove 31 = some (a_iald tT 32) ∧
  tX5_remove 32 = some (a_const (nI 1) 33) ∧
  tX5_remove 33 = some (a_aload 0 34) := ⟨rfl, rfl, rfl, rfl, rfl, rfl, rfl, rfl, rfl, rfl, rfl, rfl, rfl, rfl, rfl, rfl, rfl, rfl, rfl, rfl, rfl, rfl, rfl, rfl⟩
theorem lX5_remove_1 : tX5_remove 34 = some (a_get tT 5 7 37) ∧
  tX5_remove 37 = some (a_iload 4 39) ∧
  tX5_remove 39 = some (a_iald tT 40) ∧
  tX5_remove 40 = some (a_bin (fun x y => x <<< (y &&& 31)) 41) ∧
  tX5_remove 41 = some (a_const (-1) 42) ∧
  tX5_remove 42 = some (a_bin (fun x y => x ^^^ y) 43) ∧
  tX5_remove 43 = some (a_bin (fun x y => x &&& y) 44) ∧
  tX5_remove 44 = some (a_iast tT 45) ∧
  tX5_remove 45 = some (a_aload 0 46) ∧
  tX5_remove 46 = some (a_get tT 5 7 49) ∧
  tX5_remove 49 = some (a_iload 4 51) ∧
  tX5_remove 51 = some (a_const (nI 1) 52) ∧
  tX5_remove 52 = some (a_bin (fun x y => x + y) 53) ∧
  tX5_remove 53 = some (a_aload 0 54) ∧
  tX5_remove 54 = some (a_get tT 5 7 57) ∧
  tX5_remove 57 = some (a_iload 4 59) ∧
  tX5_remove 59 = some (a_iload 3 60) ∧
  tX5_remove 60 = some (a_iload 2 61) ∧
  tX5_remove 61 = some (a_bin (fun x y => x - y) 62) ∧
  tX5_remove 62 = some (a_const (nI 1) 63) ∧
  tX5_remove 63 = some (a_bin (fun x y => x - y) 64) ∧
  tX5_remove 64 = some (a_copy tT 67) ∧
  tX5_remove 67 = some (a_aload 0 68) ∧
  tX5_remove 68 = some (a_get tT 5 6 71) := ⟨rfl, rfl, rfl, rfl, rfl, rfl, rfl, rfl, rfl, rfl, rfl, rfl, rfl, rfl, rfl, rfl, rfl, rfl, rfl, rfl, rfl, rfl, rfl, rfl⟩
theorem lX5_remove_2 : tX5_remove 71 = some (a_iload 1 72) ∧
  tX5_remove 72 = some (a_iload 3 73) ∧
  tX5_remove 73 = some (a_const (nI 1) 74) ∧
  tX5_remove 74 = some (a_bin (fun x y => x - y) 75) ∧
  tX5_remove 75 = some (a_iast tT 76) ∧
  tX5_remove 76 = some (a_ret) := ⟨rfl, rfl, rfl, rfl, rfl, rfl⟩
theorem lX5_othersWith_0 : tX5_othersWith 0 = some (a_const (nI 0) 1) ∧
  tX5_othersWith 1 = some (a_istore 3 2) ∧
  tX5_othersWith 2 = some (a_const (nI 0) 3) ∧
  tX5_othersWith 3 = some (a_istore 4 5) ∧
  tX5_othersWith 5 = some (a_iload 4 7) ∧
  tX5_othersWith 7 = some (a_aload 0 8) ∧
  tX5_othersWith 8 = some (a_get tT 5 0 11) ∧
  tX5_othersWith 11 = some (a_cmp (fun x y => y ≤ x) 39 14) ∧
  tX5_othersWith 14 = some (a_iload 4 16) ∧
  tX5_othersWith 16 = some (a_iload 1 17) ∧
  tX5_othersWith 17 = some (a_cmp (fun x y => x = y) 33 20) ∧
  tX5_othersWith 20 = some (a_aload 0 21) ∧
  tX5_othersWith 21 = some (a_iload 4 23) ∧
  tX5_othersWith 23 = some (a_iload 2 24) ∧
  tX5_othersWith 24 = some (a_cvI tT mX5_hasName 5 2 27) ∧
  tX5_othersWith 27 = some (a_if (fun x => x = nI 0) 33 30) ∧
  tX5_othersWith 30 = some (a_iinc 3 (nI 1) 33) ∧
  tX5_othersWith 33 = some (a_iinc 4 (nI 1) 36) ∧
  tX5_othersWith 36 = some (a_goto 5) ∧
  tX5_othersWith 39 = some (a_iload 3 40) ∧
  tX5_othersWith 40 = some (a_iret) := ⟨rfl, rfl, rfl, rfl, rfl, rfl, rfl, rfl, rfl, rfl, rfl, rfl, rfl, rfl, rfl, rfl, rfl, rfl, rfl, rfl, rfl⟩
theorem lX5_at_0 : tX5_at 0 = some (a_const (nI 0) 1) ∧
  tX5_at 1 = some (a_istore 2 2) ∧
  tX5_at 2 = some (a_const (nI 0) 3) ∧
  tX5_at 3 = some (a_istore 3 4) ∧
  tX5_at 4 = some (a_iload 3 5) ∧
  tX5_at 5 = some (a_aload 0 6) ∧
  tX5_at 6 = some (a_get tT 5 0 9) ∧
  tX5_at 9 = some (a_cmp (fun x y => y ≤ x) 34 12) ∧
  tX5_at 12 = some (a_aload 0 13) ∧
  tX5_at 13 = some (a_get tT 5 1 16) ∧
  tX5_at 16 = some (a_iload 3 17) ∧
  tX5_at 17 = some (a_iald tT 18) ∧
  tX5_at 18 = some (a_iload 1 19) ∧
  tX5_at 19 = some (a_cmp (fun x y => x = y) 22 28) ∧
  tX5_at 22 = some (a_iload 2 23) ∧
  tX5_at 23 = some (a_const (nI 1) 24) ∧
  tX5_at 24 = some (a_iload 3 25) ∧
  tX5_at 25 = some (a_bin (fun x y => x <<< (y &&& 31)) 26) ∧
  tX5_at 26 = some (a_bin (fun x y => x ||| y) 27) ∧
  tX5_at 27 = some (a_istore 2 28) ∧
  tX5_at 28 = some (a_iinc 3 (nI 1) 31) ∧
  tX5_at 31 = some (a_goto 4) ∧
  tX5_at 34 = some (a_iload 2 35) ∧
  tX5_at 35 = some (a_iret) := ⟨rfl, rfl, rfl, rfl, rfl, rfl, rfl, rfl, rfl, rfl, rfl, rfl, rfl, rfl, rfl, rfl, rfl, rfl, rfl, rfl, rfl, rfl, rfl, rfl⟩
theorem lX5_aloneAmong_0 : tX5_aloneAmong 0 = some (a_const (nI 0) 1) ∧
  tX5_aloneAmong 1 = some (a_istore 2 2) ∧
  tX5_aloneAmong 2 = some (a_const (nI 0) 3) ∧
  tX5_aloneAmong 3 = some (a_istore 3 4) ∧
  tX5_aloneAmong 4 = some (a_const (nI 0) 5) ∧
  tX5_aloneAmong 5 = some (a_istore 4 7) ∧
  tX5_aloneAmong 7 = some (a_iload 4 9) ∧
  tX5_aloneAmong 9 = some (a_aload 0 10) ∧
  tX5_aloneAmong 10 = some (a_get tT 5 0 13) ∧
  tX5_aloneAmong 13 = some (a_cmp (fun x y => y ≤ x) 53 16) ∧
  tX5_aloneAmong 16 = some (a_iload 1 17) ∧
  tX5_aloneAmong 17 = some (a_iload 4 19) ∧
  tX5_aloneAmong 19 = some (a_bin (fun x y => x >>> (y &&& 31)) 20) ∧
  tX5_aloneAmong 20 = some (a_const (nI 1) 21) ∧
  tX5_aloneAmong 21 = some (a_bin (fun x y => x &&& y) 22) ∧
  tX5_aloneAmong 22 = some (a_if (fun x => x = nI 0) 47 25) ∧
  tX5_aloneAmong 25 = some (a_iload 3 26) ∧
  tX5_aloneAmong 26 = some (a_iload 2 27) ∧
  tX5_aloneAmong 27 = some (a_aload 0 28) ∧
  tX5_aloneAmong 28 = some (a_get tT 5 5 31) ∧
  tX5_aloneAmong 31 = some (a_iload 4 33) ∧
  tX5_aloneAmong 33 = some (a_iald tT 34) ∧
  tX5_aloneAmong 34 = some (a_bin (fun x y => x &&& y) 35) ∧
  tX5_aloneAmong 35 = some (a_bin (fun x y => x ||| y) 36) := ⟨rfl, rfl, rfl, rfl, rfl, rfl, rfl, rfl, rfl, rfl, rfl, rfl, rfl, rfl, rfl, rfl, rfl, rfl, rfl, rfl, rfl, rfl, rfl, rfl⟩
theorem lX5_aloneAmong_1 : tX5_aloneAmong 36 = some (a_istore 3 37) ∧
  tX5_aloneAmong 37 = some (a_iload 2 38) ∧
  tX5_aloneAmong 38 = some (a_aload 0 39) ∧
  tX5_aloneAmong 39 = some (a_get tT 5 5 42) ∧
  tX5_aloneAmong 42 = some (a_iload 4 44) ∧
  tX5_aloneAmong 44 = some (a_iald tT 45) ∧
  tX5_aloneAmong 45 = some (a_bin (fun x y => x ||| y) 46) ∧
  tX5_aloneAmong 46 = some (a_istore 2 47) ∧
  tX5_aloneAmong 47 = some (a_iinc 4 (nI 1) 50) ∧
  tX5_aloneAmong 50 = some (a_goto 7) ∧
  tX5_aloneAmong 53 = some (a_const (nI 0) 54) ∧
  tX5_aloneAmong 54 = some (a_istore 4 56) ∧
  tX5_aloneAmong 56 = some (a_const (nI 0) 57) ∧
  tX5_aloneAmong 57 = some (a_istore 5 59) ∧
  tX5_aloneAmong 59 = some (a_iload 5 61) ∧
  tX5_aloneAmong 61 = some (a_aload 0 62) ∧
  tX5_aloneAmong 62 = some (a_get tT 5 0 65) ∧
  tX5_aloneAmong 65 = some (a_cmp (fun x y => y ≤ x) 106 68) ∧
  tX5_aloneAmong 68 = some (a_iload 1 69) ∧
  tX5_aloneAmong 69 = some (a_iload 5 71) ∧
  tX5_aloneAmong 71 = some (a_bin (fun x y => x >>> (y &&& 31)) 72) ∧
  tX5_aloneAmong 72 = some (a_const (nI 1) 73) ∧
  tX5_aloneAmong 73 = some (a_bin (fun x y => x &&& y) 74) ∧
  tX5_aloneAmong 74 = some (a_if (fun x => x = nI 0) 100 77) := ⟨rfl, rfl, rfl, rfl, rfl, rfl, rfl, rfl, rfl, rfl, rfl, rfl, rfl, rfl, rfl, rfl, rfl, rfl, rfl, rfl, rfl, rfl, rfl, rfl⟩
theorem lX5_aloneAmong_2 : tX5_aloneAmong 77 = some (a_aload 0 78) ∧
  tX5_aloneAmong 78 = some (a_get tT 5 5 81) ∧
  tX5_aloneAmong 81 = some (a_iload 5 83) ∧
  tX5_aloneAmong 83 = some (a_iald tT 84) ∧
  tX5_aloneAmong 84 = some (a_iload 3 85) ∧
  tX5_aloneAmong 85 = some (a_const (-1) 86) ∧
  tX5_aloneAmong 86 = some (a_bin (fun x y => x ^^^ y) 87) ∧
  tX5_aloneAmong 87 = some (a_bin (fun x y => x &&& y) 88) ∧
  tX5_aloneAmong 88 = some (a_if (fun x => x = nI 0) 100 91) ∧
  tX5_aloneAmong 91 = some (a_iload 4 93) ∧
  tX5_aloneAmong 93 = some (a_const (nI 1) 94) ∧
  tX5_aloneAmong 94 = some (a_iload 5 96) ∧
  tX5_aloneAmong 96 = some (a_bin (fun x y => x <<< (y &&& 31)) 97) ∧
  tX5_aloneAmong 97 = some (a_bin (fun x y => x ||| y) 98) ∧
  tX5_aloneAmong 98 = some (a_istore 4 100) ∧
  tX5_aloneAmong 100 = some (a_iinc 5 (nI 1) 103) ∧
  tX5_aloneAmong 103 = some (a_goto 59) ∧
  tX5_aloneAmong 106 = some (a_iload 4 108) ∧
  tX5_aloneAmong 108 = some (a_iret) := ⟨rfl, rfl, rfl, rfl, rfl, rfl, rfl, rfl, rfl, rfl, rfl, rfl, rfl, rfl, rfl, rfl, rfl, rfl, rfl⟩
theorem lX5_cousinsOf_0 : tX5_cousinsOf 0 = some (a_const (nI 1) 1) ∧
  tX5_cousinsOf 1 = some (a_iload 1 2) ∧
  tX5_cousinsOf 2 = some (a_bin (fun x y => x <<< (y &&& 31)) 3) ∧
  tX5_cousinsOf 3 = some (a_istore 2 4) ∧
  tX5_cousinsOf 4 = some (a_aload 0 5) ∧
  tX5_cousinsOf 5 = some (a_get tT 5 4 8) ∧
  tX5_cousinsOf 8 = some (a_iload 1 9) ∧
  tX5_cousinsOf 9 = some (a_iald tT 10) ∧
  tX5_cousinsOf 10 = some (a_istore 3 11) ∧
  tX5_cousinsOf 11 = some (a_const (nI 0) 12) ∧
  tX5_cousinsOf 12 = some (a_istore 4 14) ∧
  tX5_cousinsOf 14 = some (a_iload 4 16) ∧
  tX5_cousinsOf 16 = some (a_aload 0 17) ∧
  tX5_cousinsOf 17 = some (a_get tT 5 0 20) ∧
  tX5_cousinsOf 20 = some (a_cmp (fun x y => y ≤ x) 76 23) ∧
  tX5_cousinsOf 23 = some (a_const (nI 0) 24) ∧
  tX5_cousinsOf 24 = some (a_istore 5 26) ∧
  tX5_cousinsOf 26 = some (a_iload 5 28) ∧
  tX5_cousinsOf 28 = some (a_aload 0 29) ∧
  tX5_cousinsOf 29 = some (a_get tT 5 0 32) ∧
  tX5_cousinsOf 32 = some (a_cmp (fun x y => y ≤ x) 70 35) ∧
  tX5_cousinsOf 35 = some (a_aload 0 36) ∧
  tX5_cousinsOf 36 = some (a_get tT 5 4 39) ∧
  tX5_cousinsOf 39 = some (a_iload 5 41) := ⟨rfl, rfl, rfl, rfl, rfl, rfl, rfl, rfl, rfl, rfl, rfl, rfl, rfl, rfl, rfl, rfl, rfl, rfl, rfl, rfl, rfl, rfl, rfl, rfl⟩
theorem lX5_cousinsOf_1 : tX5_cousinsOf 41 = some (a_iald tT 42) ∧
  tX5_cousinsOf 42 = some (a_iload 3 43) ∧
  tX5_cousinsOf 43 = some (a_bin (fun x y => x &&& y) 44) ∧
  tX5_cousinsOf 44 = some (a_if (fun x => x = nI 0) 64 47) ∧
  tX5_cousinsOf 47 = some (a_iload 2 48) ∧
  tX5_cousinsOf 48 = some (a_const (nI 1) 49) ∧
  tX5_cousinsOf 49 = some (a_iload 5 51) ∧
  tX5_cousinsOf 51 = some (a_bin (fun x y => x <<< (y &&& 31)) 52) ∧
  tX5_cousinsOf 52 = some (a_bin (fun x y => x ||| y) 53) ∧
  tX5_cousinsOf 53 = some (a_istore 2 54) ∧
  tX5_cousinsOf 54 = some (a_iload 3 55) ∧
  tX5_cousinsOf 55 = some (a_aload 0 56) ∧
  tX5_cousinsOf 56 = some (a_get tT 5 4 59) ∧
  tX5_cousinsOf 59 = some (a_iload 5 61) ∧
  tX5_cousinsOf 61 = some (a_iald tT 62) ∧
  tX5_cousinsOf 62 = some (a_bin (fun x y => x ||| y) 63) ∧
  tX5_cousinsOf 63 = some (a_istore 3 64) ∧
  tX5_cousinsOf 64 = some (a_iinc 5 (nI 1) 67) ∧
  tX5_cousinsOf 67 = some (a_goto 26) ∧
  tX5_cousinsOf 70 = some (a_iinc 4 (nI 1) 73) ∧
  tX5_cousinsOf 73 = some (a_goto 14) ∧
  tX5_cousinsOf 76 = some (a_iload 2 77) ∧
  tX5_cousinsOf 77 = some (a_const (nI 1) 78) ∧
  tX5_cousinsOf 78 = some (a_iload 1 79) := ⟨rfl, rfl, rfl, rfl, rfl, rfl, rfl, rfl, rfl, rfl, rfl, rfl, rfl, rfl, rfl, rfl, rfl, rfl, rfl, rfl, rfl, rfl, rfl, rfl⟩
theorem lX5_cousinsOf_2 : tX5_cousinsOf 79 = some (a_bin (fun x y => x <<< (y &&& 31)) 80) ∧
  tX5_cousinsOf 80 = some (a_const (-1) 81) ∧
  tX5_cousinsOf 81 = some (a_bin (fun x y => x ^^^ y) 82) ∧
  tX5_cousinsOf 82 = some (a_bin (fun x y => x &&& y) 83) ∧
  tX5_cousinsOf 83 = some (a_iret) := ⟨rfl, rfl, rfl, rfl, rfl⟩
theorem lX5_copyFrom_0 : tX5_copyFrom 0 = some (a_aload 0 1) ∧
  tX5_copyFrom 1 = some (a_aload 1 2) ∧
  tX5_copyFrom 2 = some (a_get tT 5 0 5) ∧
  tX5_copyFrom 5 = some (a_put tT 5 0 8) ∧
  tX5_copyFrom 8 = some (a_aload 1 9) ∧
  tX5_copyFrom 9 = some (a_get tT 5 1 12) ∧
  tX5_copyFrom 12 = some (a_const (nI 0) 13) ∧
  tX5_copyFrom 13 = some (a_aload 0 14) ∧
  tX5_copyFrom 14 = some (a_get tT 5 1 17) ∧
  tX5_copyFrom 17 = some (a_const (nI 0) 18) ∧
  tX5_copyFrom 18 = some (a_const (nI 8) 20) ∧
  tX5_copyFrom 20 = some (a_copy tT 23) ∧
  tX5_copyFrom 23 = some (a_aload 1 24) ∧
  tX5_copyFrom 24 = some (a_get tT 5 2 27) ∧
  tX5_copyFrom 27 = some (a_const (nI 0) 28) ∧
  tX5_copyFrom 28 = some (a_aload 0 29) ∧
  tX5_copyFrom 29 = some (a_get tT 5 2 32) ∧
  tX5_copyFrom 32 = some (a_const (nI 0) 33) ∧
  tX5_copyFrom 33 = some (a_const (nI 8) 35) ∧
  tX5_copyFrom 35 = some (a_copy tT 38) ∧
  tX5_copyFrom 38 = some (a_aload 1 39) ∧
  tX5_copyFrom 39 = some (a_get tT 5 3 42) ∧
  tX5_copyFrom 42 = some (a_const (nI 0) 43) ∧
  tX5_copyFrom 43 = some (a_aload 0 44) := ⟨rfl, rfl, rfl, rfl, rfl, rfl, rfl, rfl, rfl, rfl, rfl, rfl, rfl, rfl, rfl, rfl, rfl, rfl, rfl, rfl, rfl, rfl, rfl, rfl⟩
theorem lX5_copyFrom_1 : tX5_copyFrom 44 = some (a_get tT 5 3 47) ∧
  tX5_copyFrom 47 = some (a_const (nI 0) 48) ∧
  tX5_copyFrom 48 = some (a_const (nI 8) 50) ∧
  tX5_copyFrom 50 = some (a_copy tT 53) ∧
  tX5_copyFrom 53 = some (a_aload 1 54) ∧
  tX5_copyFrom 54 = some (a_get tT 5 4 57) ∧
  tX5_copyFrom 57 = some (a_const (nI 0) 58) ∧
  tX5_copyFrom 58 = some (a_aload 0 59) ∧
  tX5_copyFrom 59 = some (a_get tT 5 4 62) ∧
  tX5_copyFrom 62 = some (a_const (nI 0) 63) ∧
  tX5_copyFrom 63 = some (a_const (nI 8) 65) ∧
  tX5_copyFrom 65 = some (a_copy tT 68) ∧
  tX5_copyFrom 68 = some (a_aload 1 69) ∧
  tX5_copyFrom 69 = some (a_get tT 5 5 72) ∧
  tX5_copyFrom 72 = some (a_const (nI 0) 73) ∧
  tX5_copyFrom 73 = some (a_aload 0 74) ∧
  tX5_copyFrom 74 = some (a_get tT 5 5 77) ∧
  tX5_copyFrom 77 = some (a_const (nI 0) 78) ∧
  tX5_copyFrom 78 = some (a_const (nI 8) 80) ∧
  tX5_copyFrom 80 = some (a_copy tT 83) ∧
  tX5_copyFrom 83 = some (a_aload 1 84) ∧
  tX5_copyFrom 84 = some (a_get tT 5 6 87) ∧
  tX5_copyFrom 87 = some (a_const (nI 0) 88) ∧
  tX5_copyFrom 88 = some (a_aload 0 89) := ⟨rfl, rfl, rfl, rfl, rfl, rfl, rfl, rfl, rfl, rfl, rfl, rfl, rfl, rfl, rfl, rfl, rfl, rfl, rfl, rfl, rfl, rfl, rfl, rfl⟩
theorem lX5_copyFrom_2 : tX5_copyFrom 89 = some (a_get tT 5 6 92) ∧
  tX5_copyFrom 92 = some (a_const (nI 0) 93) ∧
  tX5_copyFrom 93 = some (a_const (nI 8) 95) ∧
  tX5_copyFrom 95 = some (a_copy tT 98) ∧
  tX5_copyFrom 98 = some (a_aload 1 99) ∧
  tX5_copyFrom 99 = some (a_get tT 5 7 102) ∧
  tX5_copyFrom 102 = some (a_const (nI 0) 103) ∧
  tX5_copyFrom 103 = some (a_aload 0 104) ∧
  tX5_copyFrom 104 = some (a_get tT 5 7 107) ∧
  tX5_copyFrom 107 = some (a_const (nI 0) 108) ∧
  tX5_copyFrom 108 = some (a_const (nI 72) 110) ∧
  tX5_copyFrom 110 = some (a_copy tT 113) ∧
  tX5_copyFrom 113 = some (a_ret) := ⟨rfl, rfl, rfl, rfl, rfl, rfl, rfl, rfl, rfl, rfl, rfl, rfl, rfl⟩
theorem lX6_find_0 : tX6_find 0 = some (a_const (nI 3) 1) ∧
  tX6_find 1 = some (a_const (nI 9) 3) ∧
  tX6_find 3 = some (a_aload 0 4) ∧
  tX6_find 4 = some (a_get tT 6 0 7) ∧
  tX6_find 7 = some (a_get tT 10 11 10) ∧
  tX6_find 10 = some (a_get tT 5 6 13) ∧
  tX6_find 13 = some (a_iload 1 14) ∧
  tX6_find 14 = some (a_iald tT 15) ∧
  tX6_find 15 = some (a_bin (fun x y => x - y) 16) ∧
  tX6_find 16 = some (a_csI mJ9_min_7cf53 2 19) ∧
  tX6_find 19 = some (a_istore 2 20) ∧
  tX6_find 20 = some (a_const (nI 0) 21) ∧
  tX6_find 21 = some (a_istore 3 22) ∧
  tX6_find 22 = some (a_iload 3 23) ∧
  tX6_find 23 = some (a_iload 2 24) ∧
  tX6_find 24 = some (a_cmp (fun x y => y < x) 46 27) ∧
  tX6_find 27 = some (a_aload 0 28) ∧
  tX6_find 28 = some (a_iload 1 29) ∧
  tX6_find 29 = some (a_iload 3 30) ∧
  tX6_find 30 = some (a_const (nI 0) 31) ∧
  tX6_find 31 = some (a_const (nI 0) 32) ∧
  tX6_find 32 = some (a_cvI tT mX6_choose 6 4 35) ∧
  tX6_find 35 = some (a_if (fun x => x = nI 0) 40 38) ∧
  tX6_find 38 = some (a_iload 3 39) := ⟨rfl, rfl, rfl, rfl, rfl, rfl, rfl, rfl, rfl, rfl, rfl, rfl, rfl, rfl, rfl, rfl, rfl, rfl, rfl, rfl, rfl, rfl, rfl, rfl⟩
theorem lX6_find_1 : tX6_find 39 = some (a_iret) ∧
  tX6_find 40 = some (a_iinc 3 (nI 1) 43) ∧
  tX6_find 43 = some (a_goto 22) ∧
  tX6_find 46 = some (a_const (-1) 47) ∧
  tX6_find 47 = some (a_iret) := ⟨rfl, rfl, rfl, rfl, rfl⟩
theorem lX6_choose_0 : tX6_choose 0 = some (a_iload 3 1) ∧
  tX6_choose 1 = some (a_iload 2 2) ∧
  tX6_choose 2 = some (a_cmp (fun x y => y ≤ x) 10 5) ∧
  tX6_choose 5 = some (a_iload 3 6) ∧
  tX6_choose 6 = some (a_const (nI 3) 7) ∧
  tX6_choose 7 = some (a_cmp (fun x y => x < y) 31 10) ∧
  tX6_choose 10 = some (a_aload 0 11) ∧
  tX6_choose 11 = some (a_get tT 6 1 14) ∧
  tX6_choose 14 = some (a_iload 1 15) ∧
  tX6_choose 15 = some (a_cvI tT mX9_go 9 1 18) ∧
  tX6_choose 18 = some (a_istore 5 20) ∧
  tX6_choose 20 = some (a_aload 0 21) ∧
  tX6_choose 21 = some (a_get tT 6 1 24) ∧
  tX6_choose 24 = some (a_iload 1 25) ∧
  tX6_choose 25 = some (a_cvV tT mX9_back 9 1 28) ∧
  tX6_choose 28 = some (a_iload 5 30) ∧
  tX6_choose 30 = some (a_zret) ∧
  tX6_choose 31 = some (a_iload 4 33) ∧
  tX6_choose 33 = some (a_istore 5 35) ∧
  tX6_choose 35 = some (a_iload 5 37) ∧
  tX6_choose 37 = some (a_aload 0 38) ∧
  tX6_choose 38 = some (a_get tT 6 0 41) ∧
  tX6_choose 41 = some (a_get tT 10 4 44) ∧
  tX6_choose 44 = some (a_cmp (fun x y => y ≤ x) 140 47) := ⟨rfl, rfl, rfl, rfl, rfl, rfl, rfl, rfl, rfl, rfl, rfl, rfl, rfl, rfl, rfl, rfl, rfl, rfl, rfl, rfl, rfl, rfl, rfl, rfl⟩
theorem lX6_choose_1 : tX6_choose 47 = some (a_aload 0 48) ∧
  tX6_choose 48 = some (a_get tT 6 0 51) ∧
  tX6_choose 51 = some (a_get tT 10 11 54) ∧
  tX6_choose 54 = some (a_iload 1 55) ∧
  tX6_choose 55 = some (a_iload 5 57) ∧
  tX6_choose 57 = some (a_cvI tT mX5_hasName 5 2 60) ∧
  tX6_choose 60 = some (a_if (fun x => x = nI 0) 66 63) ∧
  tX6_choose 63 = some (a_goto 134) ∧
  tX6_choose 66 = some (a_aload 0 67) ∧
  tX6_choose 67 = some (a_get tT 6 2 70) ∧
  tX6_choose 70 = some (a_iload 3 71) ∧
  tX6_choose 71 = some (a_iload 5 73) ∧
  tX6_choose 73 = some (a_iast tT 74) ∧
  tX6_choose 74 = some (a_aload 0 75) ∧
  tX6_choose 75 = some (a_get tT 6 0 78) ∧
  tX6_choose 78 = some (a_get tT 10 11 81) ∧
  tX6_choose 81 = some (a_iload 1 82) ∧
  tX6_choose 82 = some (a_iload 5 84) ∧
  tX6_choose 84 = some (a_cvV tT mX5_append 5 2 87) ∧
  tX6_choose 87 = some (a_aload 0 88) ∧
  tX6_choose 88 = some (a_iload 1 89) ∧
  tX6_choose 89 = some (a_iload 2 90) ∧
  tX6_choose 90 = some (a_iload 3 91) ∧
  tX6_choose 91 = some (a_const (nI 1) 92) := ⟨rfl, rfl, rfl, rfl, rfl, rfl, rfl, rfl, rfl, rfl, rfl, rfl, rfl, rfl, rfl, rfl, rfl, rfl, rfl, rfl, rfl, rfl, rfl, rfl⟩
theorem lX6_choose_2 : tX6_choose 92 = some (a_bin (fun x y => x + y) 93) ∧
  tX6_choose 93 = some (a_iload 5 95) ∧
  tX6_choose 95 = some (a_const (nI 1) 96) ∧
  tX6_choose 96 = some (a_bin (fun x y => x + y) 97) ∧
  tX6_choose 97 = some (a_cvI tT mX6_choose 6 4 100) ∧
  tX6_choose 100 = some (a_istore 6 102) ∧
  tX6_choose 102 = some (a_aload 0 103) ∧
  tX6_choose 103 = some (a_get tT 6 0 106) ∧
  tX6_choose 106 = some (a_get tT 10 11 109) ∧
  tX6_choose 109 = some (a_iload 1 110) ∧
  tX6_choose 110 = some (a_aload 0 111) ∧
  tX6_choose 111 = some (a_get tT 6 0 114) ∧
  tX6_choose 114 = some (a_get tT 10 11 117) ∧
  tX6_choose 117 = some (a_get tT 5 6 120) ∧
  tX6_choose 120 = some (a_iload 1 121) ∧
  tX6_choose 121 = some (a_iald tT 122) ∧
  tX6_choose 122 = some (a_const (nI 1) 123) ∧
  tX6_choose 123 = some (a_bin (fun x y => x - y) 124) ∧
  tX6_choose 124 = some (a_cvV tT mX5_remove 5 2 127) ∧
  tX6_choose 127 = some (a_iload 6 129) ∧
  tX6_choose 129 = some (a_if (fun x => x = nI 0) 134 132) ∧
  tX6_choose 132 = some (a_const (nI 1) 133) ∧
  tX6_choose 133 = some (a_zret) ∧
  tX6_choose 134 = some (a_iinc 5 (nI 1) 137) := ⟨rfl, rfl, rfl, rfl, rfl, rfl, rfl, rfl, rfl, rfl, rfl, rfl, rfl, rfl, rfl, rfl, rfl, rfl, rfl, rfl, rfl, rfl, rfl, rfl⟩
theorem lX6_choose_3 : tX6_choose 137 = some (a_goto 35) ∧
  tX6_choose 140 = some (a_const (nI 0) 141) ∧
  tX6_choose 141 = some (a_zret) := ⟨rfl, rfl, rfl⟩
theorem lX7_remember_0 : tX7_remember 0 = some (a_aload 0 1) ∧
  tX7_remember 1 = some (a_get tT 7 2 4) ∧
  tX7_remember 4 = some (a_const (nI 0) 5) ∧
  tX7_remember 5 = some (a_csV mJ7_fill_53178 2 8) ∧
  tX7_remember 8 = some (a_aload 0 9) ∧
  tX7_remember 9 = some (a_const (nI 1) 10) ∧
  tX7_remember 10 = some (a_putz tT 7 3 13) ∧
  tX7_remember 13 = some (a_ret) := ⟨rfl, rfl, rfl, rfl, rfl, rfl, rfl, rfl⟩
theorem lX7_forget_0 : tX7_forget 0 = some (a_aload 0 1) ∧
  tX7_forget 1 = some (a_const (nI 0) 2) ∧
  tX7_forget 2 = some (a_putz tT 7 3 5) ∧
  tX7_forget 5 = some (a_ret) := ⟨rfl, rfl, rfl, rfl⟩
theorem lX7_due_0 : tX7_due 0 = some (a_aload 0 1) ∧
  tX7_due 1 = some (a_get tT 7 0 4) ∧
  tX7_due 4 = some (a_iload 1 5) ∧
  tX7_due 5 = some (a_cvI tT mX10_lettersOf 10 1 8) ∧
  tX7_due 8 = some (a_aload 0 9) ∧
  tX7_due 9 = some (a_get tT 7 0 12) ∧
  tX7_due 12 = some (a_get tT 10 2 15) ∧
  tX7_due 15 = some (a_cmp (fun x y => y < x) 21 18) ∧
  tX7_due 18 = some (a_const (nI 100) 20) ∧
  tX7_due 20 = some (a_iret) ∧
  tX7_due 21 = some (a_const (nI 0) 22) ∧
  tX7_due 22 = some (a_istore 3 23) ∧
  tX7_due 23 = some (a_iload 3 24) ∧
  tX7_due 24 = some (a_aload 0 25) ∧
  tX7_due 25 = some (a_get tT 7 0 28) ∧
  tX7_due 28 = some (a_get tT 10 11 31) ∧
  tX7_due 31 = some (a_get tT 5 6 34) ∧
  tX7_due 34 = some (a_iload 1 35) ∧
  tX7_due 35 = some (a_iald tT 36) ∧
  tX7_due 36 = some (a_cmp (fun x y => y ≤ x) 57 39) ∧
  tX7_due 39 = some (a_aload 0 40) ∧
  tX7_due 40 = some (a_iload 1 41) ∧
  tX7_due 41 = some (a_iload 2 42) ∧
  tX7_due 42 = some (a_iload 3 43) := ⟨rfl, rfl, rfl, rfl, rfl, rfl, rfl, rfl, rfl, rfl, rfl, rfl, rfl, rfl, rfl, rfl, rfl, rfl, rfl, rfl, rfl, rfl, rfl, rfl⟩
theorem lX7_due_1 : tX7_due 43 = some (a_cvI tT mX7_mayLeave 7 3 46) ∧
  tX7_due 46 = some (a_if (fun x => x = nI 0) 51 49) ∧
  tX7_due 49 = some (a_iload 3 50) ∧
  tX7_due 50 = some (a_iret) ∧
  tX7_due 51 = some (a_iinc 3 (nI 1) 54) ∧
  tX7_due 54 = some (a_goto 23) ∧
  tX7_due 57 = some (a_const (-2) 59) ∧
  tX7_due 59 = some (a_iret) := ⟨rfl, rfl, rfl, rfl, rfl, rfl, rfl, rfl⟩
theorem lX7_mayLeave_0 : tX7_mayLeave 0 = some (a_aload 0 1) ∧
  tX7_mayLeave 1 = some (a_get tT 7 0 4) ∧
  tX7_mayLeave 4 = some (a_get tT 10 11 7) ∧
  tX7_mayLeave 7 = some (a_get tT 5 6 10) ∧
  tX7_mayLeave 10 = some (a_iload 1 11) ∧
  tX7_mayLeave 11 = some (a_iald tT 12) ∧
  tX7_mayLeave 12 = some (a_istore 4 14) ∧
  tX7_mayLeave 14 = some (a_aload 0 15) ∧
  tX7_mayLeave 15 = some (a_get tT 7 0 18) ∧
  tX7_mayLeave 18 = some (a_get tT 10 11 21) ∧
  tX7_mayLeave 21 = some (a_iload 1 22) ∧
  tX7_mayLeave 22 = some (a_iload 3 23) ∧
  tX7_mayLeave 23 = some (a_cvI tT mX5_nameAt 5 2 26) ∧
  tX7_mayLeave 26 = some (a_istore 5 28) ∧
  tX7_mayLeave 28 = some (a_iload 2 29) ∧
  tX7_mayLeave 29 = some (a_const (nI 20) 31) ∧
  tX7_mayLeave 31 = some (a_bin (fun x y => x * y) 32) ∧
  tX7_mayLeave 32 = some (a_iload 5 34) ∧
  tX7_mayLeave 34 = some (a_bin (fun x y => x + y) 35) ∧
  tX7_mayLeave 35 = some (a_const (nI 9) 37) ∧
  tX7_mayLeave 37 = some (a_bin (fun x y => x * y) 38) ∧
  tX7_mayLeave 38 = some (a_iload 4 40) ∧
  tX7_mayLeave 40 = some (a_bin (fun x y => x + y) 41) ∧
  tX7_mayLeave 41 = some (a_const (nI 1) 42) := ⟨rfl, rfl, rfl, rfl, rfl, rfl, rfl, rfl, rfl, rfl, rfl, rfl, rfl, rfl, rfl, rfl, rfl, rfl, rfl, rfl, rfl, rfl, rfl, rfl⟩
theorem lX7_mayLeave_1 : tX7_mayLeave 42 = some (a_bin (fun x y => x - y) 43) ∧
  tX7_mayLeave 43 = some (a_istore 6 45) ∧
  tX7_mayLeave 45 = some (a_const (nI 1) 46) ∧
  tX7_mayLeave 46 = some (a_const (nI 2) 47) ∧
  tX7_mayLeave 47 = some (a_iload 3 48) ∧
  tX7_mayLeave 48 = some (a_bin (fun x y => x * y) 49) ∧
  tX7_mayLeave 49 = some (a_bin (fun x y => x <<< (y &&& 31)) 50) ∧
  tX7_mayLeave 50 = some (a_istore 7 52) ∧
  tX7_mayLeave 52 = some (a_const (nI 2) 53) ∧
  tX7_mayLeave 53 = some (a_const (nI 2) 54) ∧
  tX7_mayLeave 54 = some (a_iload 3 55) ∧
  tX7_mayLeave 55 = some (a_bin (fun x y => x * y) 56) ∧
  tX7_mayLeave 56 = some (a_bin (fun x y => x <<< (y &&& 31)) 57) ∧
  tX7_mayLeave 57 = some (a_istore 8 59) ∧
  tX7_mayLeave 59 = some (a_aload 0 60) ∧
  tX7_mayLeave 60 = some (a_get tT 7 3 63) ∧
  tX7_mayLeave 63 = some (a_if (fun x => x = nI 0) 98 66) ∧
  tX7_mayLeave 66 = some (a_aload 0 67) ∧
  tX7_mayLeave 67 = some (a_get tT 7 2 70) ∧
  tX7_mayLeave 70 = some (a_iload 6 72) ∧
  tX7_mayLeave 72 = some (a_iald tT 73) ∧
  tX7_mayLeave 73 = some (a_iload 7 75) ∧
  tX7_mayLeave 75 = some (a_bin (fun x y => x &&& y) 76) ∧
  tX7_mayLeave 76 = some (a_if (fun x => x = nI 0) 98 79) := ⟨rfl, rfl, rfl, rfl, rfl, rfl, rfl, rfl, rfl, rfl, rfl, rfl, rfl, rfl, rfl, rfl, rfl, rfl, rfl, rfl, rfl, rfl, rfl, rfl⟩
theorem lX7_mayLeave_2 : tX7_mayLeave 79 = some (a_aload 0 80) ∧
  tX7_mayLeave 80 = some (a_get tT 7 2 83) ∧
  tX7_mayLeave 83 = some (a_iload 6 85) ∧
  tX7_mayLeave 85 = some (a_iald tT 86) ∧
  tX7_mayLeave 86 = some (a_iload 8 88) ∧
  tX7_mayLeave 88 = some (a_bin (fun x y => x &&& y) 89) ∧
  tX7_mayLeave 89 = some (a_if (fun x => x = nI 0) 96 92) ∧
  tX7_mayLeave 92 = some (a_const (nI 1) 93) ∧
  tX7_mayLeave 93 = some (a_goto 97) ∧
  tX7_mayLeave 96 = some (a_const (nI 0) 97) ∧
  tX7_mayLeave 97 = some (a_zret) ∧
  tX7_mayLeave 98 = some (a_aload 0 99) ∧
  tX7_mayLeave 99 = some (a_get tT 7 1 102) ∧
  tX7_mayLeave 102 = some (a_const (nI 0) 103) ∧
  tX7_mayLeave 103 = some (a_aload 0 104) ∧
  tX7_mayLeave 104 = some (a_get tT 7 0 107) ∧
  tX7_mayLeave 107 = some (a_get tT 10 5 110) ∧
  tX7_mayLeave 110 = some (a_iload 5 112) ∧
  tX7_mayLeave 112 = some (a_iald tT 113) ∧
  tX7_mayLeave 113 = some (a_iast tT 114) ∧
  tX7_mayLeave 114 = some (a_aload 0 115) ∧
  tX7_mayLeave 115 = some (a_get tT 7 1 118) ∧
  tX7_mayLeave 118 = some (a_const (nI 1) 119) ∧
  tX7_mayLeave 119 = some (a_aload 0 120) := ⟨rfl, rfl, rfl, rfl, rfl, rfl, rfl, rfl, rfl, rfl, rfl, rfl, rfl, rfl, rfl, rfl, rfl, rfl, rfl, rfl, rfl, rfl, rfl, rfl⟩
theorem lX7_mayLeave_3 : tX7_mayLeave 120 = some (a_get tT 7 0 123) ∧
  tX7_mayLeave 123 = some (a_get tT 10 6 126) ∧
  tX7_mayLeave 126 = some (a_iload 5 128) ∧
  tX7_mayLeave 128 = some (a_iald tT 129) ∧
  tX7_mayLeave 129 = some (a_iast tT 130) ∧
  tX7_mayLeave 130 = some (a_aload 0 131) ∧
  tX7_mayLeave 131 = some (a_get tT 7 1 134) ∧
  tX7_mayLeave 134 = some (a_const (nI 2) 135) ∧
  tX7_mayLeave 135 = some (a_iload 4 137) ∧
  tX7_mayLeave 137 = some (a_iast tT 138) ∧
  tX7_mayLeave 138 = some (a_aload 0 139) ∧
  tX7_mayLeave 139 = some (a_get tT 7 1 142) ∧
  tX7_mayLeave 142 = some (a_const (nI 3) 143) ∧
  tX7_mayLeave 143 = some (a_iload 3 144) ∧
  tX7_mayLeave 144 = some (a_iast tT 145) ∧
  tX7_mayLeave 145 = some (a_aload 0 146) ∧
  tX7_mayLeave 146 = some (a_get tT 7 1 149) ∧
  tX7_mayLeave 149 = some (a_const (nI 4) 150) ∧
  tX7_mayLeave 150 = some (a_aload 0 151) ∧
  tX7_mayLeave 151 = some (a_get tT 7 0 154) ∧
  tX7_mayLeave 154 = some (a_get tT 10 11 157) ∧
  tX7_mayLeave 157 = some (a_iload 1 158) ∧
  tX7_mayLeave 158 = some (a_iload 5 160) ∧
  tX7_mayLeave 160 = some (a_cvI tT mX5_othersWith 5 2 163) := ⟨rfl, rfl, rfl, rfl, rfl, rfl, rfl, rfl, rfl, rfl, rfl, rfl, rfl, rfl, rfl, rfl, rfl, rfl, rfl, rfl, rfl, rfl, rfl, rfl⟩
theorem lX7_mayLeave_4 : tX7_mayLeave 163 = some (a_iast tT 164) ∧
  tX7_mayLeave 164 = some (a_aload 0 165) ∧
  tX7_mayLeave 165 = some (a_get tT 7 1 168) ∧
  tX7_mayLeave 168 = some (a_const (nI 5) 169) ∧
  tX7_mayLeave 169 = some (a_iload 2 170) ∧
  tX7_mayLeave 170 = some (a_iast tT 171) ∧
  tX7_mayLeave 171 = some (a_aload 0 172) ∧
  tX7_mayLeave 172 = some (a_get tT 7 1 175) ∧
  tX7_mayLeave 175 = some (a_const (nI 6) 177) ∧
  tX7_mayLeave 177 = some (a_aload 0 178) ∧
  tX7_mayLeave 178 = some (a_get tT 7 0 181) ∧
  tX7_mayLeave 181 = some (a_get tT 10 3 184) ∧
  tX7_mayLeave 184 = some (a_iast tT 185) ∧
  tX7_mayLeave 185 = some (a_aload 0 186) ∧
  tX7_mayLeave 186 = some (a_get tT 7 1 189) ∧
  tX7_mayLeave 189 = some (a_const (nI 7) 191) ∧
  tX7_mayLeave 191 = some (a_aload 0 192) ∧
  tX7_mayLeave 192 = some (a_get tT 7 0 195) ∧
  tX7_mayLeave 195 = some (a_get tT 10 12 198) ∧
  tX7_mayLeave 198 = some (a_iload 2 199) ∧
  tX7_mayLeave 199 = some (a_iload 5 201) ∧
  tX7_mayLeave 201 = some (a_cvI tT mX2_keptOf 2 2 204) ∧
  tX7_mayLeave 204 = some (a_iast tT 205) ∧
  tX7_mayLeave 205 = some (a_aload 0 206) := ⟨rfl, rfl, rfl, rfl, rfl, rfl, rfl, rfl, rfl, rfl, rfl, rfl, rfl, rfl, rfl, rfl, rfl, rfl, rfl, rfl, rfl, rfl, rfl, rfl⟩
theorem lX7_mayLeave_5 : tX7_mayLeave 206 = some (a_get tT 7 0 209) ∧
  tX7_mayLeave 209 = some (a_get tT 10 13 212) ∧
  tX7_mayLeave 212 = some (a_aload 0 213) ∧
  tX7_mayLeave 213 = some (a_get tT 7 1 216) ∧
  tX7_mayLeave 216 = some (a_cvI tT mX3_allows 3 1 219) ∧
  tX7_mayLeave 219 = some (a_istore 9 221) ∧
  tX7_mayLeave 221 = some (a_aload 0 222) ∧
  tX7_mayLeave 222 = some (a_get tT 7 3 225) ∧
  tX7_mayLeave 225 = some (a_if (fun x => x = nI 0) 253 228) ∧
  tX7_mayLeave 228 = some (a_aload 0 229) ∧
  tX7_mayLeave 229 = some (a_get tT 7 2 232) ∧
  tX7_mayLeave 232 = some (a_iload 6 234) ∧
  tX7_mayLeave 234 = some (a_dup2 235) ∧
  tX7_mayLeave 235 = some (a_iald tT 236) ∧
  tX7_mayLeave 236 = some (a_iload 9 238) ∧
  tX7_mayLeave 238 = some (a_if (fun x => x = nI 0) 249 241) ∧
  tX7_mayLeave 241 = some (a_iload 7 243) ∧
  tX7_mayLeave 243 = some (a_iload 8 245) ∧
  tX7_mayLeave 245 = some (a_bin (fun x y => x ||| y) 246) ∧
  tX7_mayLeave 246 = some (a_goto 251) ∧
  tX7_mayLeave 249 = some (a_iload 7 251) ∧
  tX7_mayLeave 251 = some (a_bin (fun x y => x ||| y) 252) ∧
  tX7_mayLeave 252 = some (a_iast tT 253) ∧
  tX7_mayLeave 253 = some (a_iload 9 255) := ⟨rfl, rfl, rfl, rfl, rfl, rfl, rfl, rfl, rfl, rfl, rfl, rfl, rfl, rfl, rfl, rfl, rfl, rfl, rfl, rfl, rfl, rfl, rfl, rfl⟩
theorem lX7_mayLeave_6 : tX7_mayLeave 255 = some (a_zret) := rfl
theorem lX7_pass_0 : tX7_pass 0 = some (a_aload 0 1) ∧
  tX7_pass 1 = some (a_iload 1 2) ∧
  tX7_pass 2 = some (a_iload 2 3) ∧
  tX7_pass 3 = some (a_cvV tT mX7_changeSides 7 2 6) ∧
  tX7_pass 6 = some (a_iload 3 7) ∧
  tX7_pass 7 = some (a_const (nI 100) 9) ∧
  tX7_pass 9 = some (a_cmp (fun x y => x = y) 12 15) ∧
  tX7_pass 12 = some (a_const (nI 100) 14) ∧
  tX7_pass 14 = some (a_iret) ∧
  tX7_pass 15 = some (a_aload 0 16) ∧
  tX7_pass 16 = some (a_get tT 7 0 19) ∧
  tX7_pass 19 = some (a_get tT 10 11 22) ∧
  tX7_pass 22 = some (a_iload 1 23) ∧
  tX7_pass 23 = some (a_iload 3 24) ∧
  tX7_pass 24 = some (a_cvI tT mX5_nameAt 5 2 27) ∧
  tX7_pass 27 = some (a_istore 4 29) ∧
  tX7_pass 29 = some (a_aload 0 30) ∧
  tX7_pass 30 = some (a_get tT 7 0 33) ∧
  tX7_pass 33 = some (a_get tT 10 11 36) ∧
  tX7_pass 36 = some (a_iload 1 37) ∧
  tX7_pass 37 = some (a_iload 3 38) ∧
  tX7_pass 38 = some (a_cvV tT mX5_remove 5 2 41) ∧
  tX7_pass 41 = some (a_aload 0 42) ∧
  tX7_pass 42 = some (a_get tT 7 0 45) := ⟨rfl, rfl, rfl, rfl, rfl, rfl, rfl, rfl, rfl, rfl, rfl, rfl, rfl, rfl, rfl, rfl, rfl, rfl, rfl, rfl, rfl, rfl, rfl, rfl⟩
theorem lX7_pass_1 : tX7_pass 45 = some (a_get tT 10 12 48) ∧
  tX7_pass 48 = some (a_iload 2 49) ∧
  tX7_pass 49 = some (a_iload 4 51) ∧
  tX7_pass 51 = some (a_const (nI 1) 52) ∧
  tX7_pass 52 = some (a_cvV tT mX2_changeKept 2 3 55) ∧
  tX7_pass 55 = some (a_iload 4 57) ∧
  tX7_pass 57 = some (a_iret) := ⟨rfl, rfl, rfl, rfl, rfl, rfl, rfl⟩
theorem lX7_back_0 : tX7_back 0 = some (a_aload 0 1) ∧
  tX7_back 1 = some (a_iload 1 2) ∧
  tX7_back 2 = some (a_iload 2 3) ∧
  tX7_back 3 = some (a_cvV tT mX7_changeSides 7 2 6) ∧
  tX7_back 6 = some (a_iload 3 7) ∧
  tX7_back 7 = some (a_const (nI 100) 9) ∧
  tX7_back 9 = some (a_cmp (fun x y => x = y) 40 12) ∧
  tX7_back 12 = some (a_aload 0 13) ∧
  tX7_back 13 = some (a_get tT 7 0 16) ∧
  tX7_back 16 = some (a_get tT 10 12 19) ∧
  tX7_back 19 = some (a_iload 2 20) ∧
  tX7_back 20 = some (a_iload 4 22) ∧
  tX7_back 22 = some (a_const (-1) 23) ∧
  tX7_back 23 = some (a_cvV tT mX2_changeKept 2 3 26) ∧
  tX7_back 26 = some (a_aload 0 27) ∧
  tX7_back 27 = some (a_get tT 7 0 30) ∧
  tX7_back 30 = some (a_get tT 10 11 33) ∧
  tX7_back 33 = some (a_iload 1 34) ∧
  tX7_back 34 = some (a_iload 3 35) ∧
  tX7_back 35 = some (a_iload 4 37) ∧
  tX7_back 37 = some (a_cvV tT mX5_insert 5 3 40) ∧
  tX7_back 40 = some (a_ret) := ⟨rfl, rfl, rfl, rfl, rfl, rfl, rfl, rfl, rfl, rfl, rfl, rfl, rfl, rfl, rfl, rfl, rfl, rfl, rfl, rfl, rfl, rfl⟩
theorem lX7_changeSides_0 : tX7_changeSides 0 = some (a_aload 0 1) ∧
  tX7_changeSides 1 = some (a_get tT 7 0 4) ∧
  tX7_changeSides 4 = some (a_get tT 10 11 7) ∧
  tX7_changeSides 7 = some (a_get tT 5 1 10) ∧
  tX7_changeSides 10 = some (a_iload 1 11) ∧
  tX7_changeSides 11 = some (a_aload 0 12) ∧
  tX7_changeSides 12 = some (a_get tT 7 0 15) ∧
  tX7_changeSides 15 = some (a_get tT 10 12 18) ∧
  tX7_changeSides 18 = some (a_iload 2 19) ∧
  tX7_changeSides 19 = some (a_aload 0 20) ∧
  tX7_changeSides 20 = some (a_get tT 7 0 23) ∧
  tX7_changeSides 23 = some (a_get tT 10 11 26) ∧
  tX7_changeSides 26 = some (a_get tT 5 1 29) ∧
  tX7_changeSides 29 = some (a_iload 1 30) ∧
  tX7_changeSides 30 = some (a_iald tT 31) ∧
  tX7_changeSides 31 = some (a_cvI tT mX2_across 2 2 34) ∧
  tX7_changeSides 34 = some (a_iast tT 35) ∧
  tX7_changeSides 35 = some (a_ret) := ⟨rfl, rfl, rfl, rfl, rfl, rfl, rfl, rfl, rfl, rfl, rfl, rfl, rfl, rfl, rfl, rfl, rfl, rfl⟩
theorem lX8_forget_0 : tX8_forget 0 = some (a_aload 0 1) ∧
  tX8_forget 1 = some (a_const (nI 0) 2) ∧
  tX8_forget 2 = some (a_put tT 8 0 5) ∧
  tX8_forget 5 = some (a_ret) := ⟨rfl, rfl, rfl, rfl⟩
theorem lX8_part_0 : tX8_part 0 = some (a_aload 0 1) ∧
  tX8_part 1 = some (a_get tT 8 1 4) ∧
  tX8_part 4 = some (a_aload 0 5) ∧
  tX8_part 5 = some (a_get tT 8 0 8) ∧
  tX8_part 8 = some (a_const (nI 6) 10) ∧
  tX8_part 10 = some (a_bin (fun x y => x * y) 11) ∧
  tX8_part 11 = some (a_iload 1 12) ∧
  tX8_part 12 = some (a_bin (fun x y => x + y) 13) ∧
  tX8_part 13 = some (a_iald tT 14) ∧
  tX8_part 14 = some (a_iret) := ⟨rfl, rfl, rfl, rfl, rfl, rfl, rfl, rfl, rfl, rfl⟩
theorem lX8_add_0 : tX8_add 0 = some (a_aload 0 1) ∧
  tX8_add 1 = some (a_get tT 8 0 4) ∧
  tX8_add 4 = some (a_const (nI 8) 6) ∧
  tX8_add 6 = some (a_cmp (fun x y => x < y) 31 9) ∧
  tX8_add 9 = some (a_aload 0 10) ∧
  tX8_add 10 = some (a_get tT 8 1 13) ∧
  tX8_add 13 = some (a_const (nI 6) 15) ∧
  tX8_add 15 = some (a_aload 0 16) ∧
  tX8_add 16 = some (a_get tT 8 1 19) ∧
  tX8_add 19 = some (a_const (nI 0) 20) ∧
  tX8_add 20 = some (a_const (nI 42) 22) ∧
  tX8_add 22 = some (a_copy tT 25) ∧
  tX8_add 25 = some (a_aload 0 26) ∧
  tX8_add 26 = some (a_const (nI 7) 28) ∧
  tX8_add 28 = some (a_put tT 8 0 31) ∧
  tX8_add 31 = some (a_aload 0 32) ∧
  tX8_add 32 = some (a_get tT 8 0 35) ∧
  tX8_add 35 = some (a_const (nI 6) 37) ∧
  tX8_add 37 = some (a_bin (fun x y => x * y) 38) ∧
  tX8_add 38 = some (a_istore 7 40) ∧
  tX8_add 40 = some (a_aload 0 41) ∧
  tX8_add 41 = some (a_get tT 8 1 44) ∧
  tX8_add 44 = some (a_iload 7 46) ∧
  tX8_add 46 = some (a_const (nI 0) 47) := ⟨rfl, rfl, rfl, rfl, rfl, rfl, rfl, rfl, rfl, rfl, rfl, rfl, rfl, rfl, rfl, rfl, rfl, rfl, rfl, rfl, rfl, rfl, rfl, rfl⟩
theorem lX8_add_1 : tX8_add 47 = some (a_bin (fun x y => x + y) 48) ∧
  tX8_add 48 = some (a_iload 1 49) ∧
  tX8_add 49 = some (a_iast tT 50) ∧
  tX8_add 50 = some (a_aload 0 51) ∧
  tX8_add 51 = some (a_get tT 8 1 54) ∧
  tX8_add 54 = some (a_iload 7 56) ∧
  tX8_add 56 = some (a_const (nI 1) 57) ∧
  tX8_add 57 = some (a_bin (fun x y => x + y) 58) ∧
  tX8_add 58 = some (a_iload 2 59) ∧
  tX8_add 59 = some (a_iast tT 60) ∧
  tX8_add 60 = some (a_aload 0 61) ∧
  tX8_add 61 = some (a_get tT 8 1 64) ∧
  tX8_add 64 = some (a_iload 7 66) ∧
  tX8_add 66 = some (a_const (nI 2) 67) ∧
  tX8_add 67 = some (a_bin (fun x y => x + y) 68) ∧
  tX8_add 68 = some (a_iload 3 69) ∧
  tX8_add 69 = some (a_iast tT 70) ∧
  tX8_add 70 = some (a_aload 0 71) ∧
  tX8_add 71 = some (a_get tT 8 1 74) ∧
  tX8_add 74 = some (a_iload 7 76) ∧
  tX8_add 76 = some (a_const (nI 3) 77) ∧
  tX8_add 77 = some (a_bin (fun x y => x + y) 78) ∧
  tX8_add 78 = some (a_iload 4 80) ∧
  tX8_add 80 = some (a_iast tT 81) := ⟨rfl, rfl, rfl, rfl, rfl, rfl, rfl, rfl, rfl, rfl, rfl, rfl, rfl, rfl, rfl, rfl, rfl, rfl, rfl, rfl, rfl, rfl, rfl, rfl⟩
theorem lX8_add_2 : tX8_add 81 = some (a_aload 0 82) ∧
  tX8_add 82 = some (a_get tT 8 1 85) ∧
  tX8_add 85 = some (a_iload 7 87) ∧
  tX8_add 87 = some (a_const (nI 4) 88) ∧
  tX8_add 88 = some (a_bin (fun x y => x + y) 89) ∧
  tX8_add 89 = some (a_iload 5 91) ∧
  tX8_add 91 = some (a_iast tT 92) ∧
  tX8_add 92 = some (a_aload 0 93) ∧
  tX8_add 93 = some (a_get tT 8 1 96) ∧
  tX8_add 96 = some (a_iload 7 98) ∧
  tX8_add 98 = some (a_const (nI 5) 99) ∧
  tX8_add 99 = some (a_bin (fun x y => x + y) 100) ∧
  tX8_add 100 = some (a_iload 6 102) ∧
  tX8_add 102 = some (a_if (fun x => x = nI 0) 109 105) ∧
  tX8_add 105 = some (a_const (nI 1) 106) ∧
  tX8_add 106 = some (a_goto 110) ∧
  tX8_add 109 = some (a_const (nI 0) 110) ∧
  tX8_add 110 = some (a_iast tT 111) ∧
  tX8_add 111 = some (a_aload 0 112) ∧
  tX8_add 112 = some (a_dup 113) ∧
  tX8_add 113 = some (a_get tT 8 0 116) ∧
  tX8_add 116 = some (a_const (nI 1) 117) ∧
  tX8_add 117 = some (a_bin (fun x y => x + y) 118) ∧
  tX8_add 118 = some (a_put tT 8 0 121) := ⟨rfl, rfl, rfl, rfl, rfl, rfl, rfl, rfl, rfl, rfl, rfl, rfl, rfl, rfl, rfl, rfl, rfl, rfl, rfl, rfl, rfl, rfl, rfl, rfl⟩
theorem lX8_add_3 : tX8_add 121 = some (a_ret) := rfl
theorem lX9_startWay_0 : tX9_startWay 0 = some (a_aload 0 1) ∧
  tX9_startWay 1 = some (a_get tT 9 2 4) ∧
  tX9_startWay 4 = some (a_const (nI 0) 5) ∧
  tX9_startWay 5 = some (a_iload 1 6) ∧
  tX9_startWay 6 = some (a_iast tT 7) ∧
  tX9_startWay 7 = some (a_aload 0 8) ∧
  tX9_startWay 8 = some (a_get tT 9 2 11) ∧
  tX9_startWay 11 = some (a_const (nI 1) 12) ∧
  tX9_startWay 12 = some (a_iload 2 13) ∧
  tX9_startWay 13 = some (a_iast tT 14) ∧
  tX9_startWay 14 = some (a_aload 0 15) ∧
  tX9_startWay 15 = some (a_get tT 9 2 18) ∧
  tX9_startWay 18 = some (a_const (nI 2) 19) ∧
  tX9_startWay 19 = some (a_iload 3 20) ∧
  tX9_startWay 20 = some (a_iast tT 21) ∧
  tX9_startWay 21 = some (a_aload 0 22) ∧
  tX9_startWay 22 = some (a_get tT 9 2 25) ∧
  tX9_startWay 25 = some (a_const (nI 3) 26) ∧
  tX9_startWay 26 = some (a_iload 4 28) ∧
  tX9_startWay 28 = some (a_iast tT 29) ∧
  tX9_startWay 29 = some (a_aload 0 30) ∧
  tX9_startWay 30 = some (a_get tT 9 2 33) ∧
  tX9_startWay 33 = some (a_const (nI 4) 34) ∧
  tX9_startWay 34 = some (a_iload 5 36) := ⟨rfl, rfl, rfl, rfl, rfl, rfl, rfl, rfl, rfl, rfl, rfl, rfl, rfl, rfl, rfl, rfl, rfl, rfl, rfl, rfl, rfl, rfl, rfl, rfl⟩
theorem lX9_startWay_1 : tX9_startWay 36 = some (a_iast tT 37) ∧
  tX9_startWay 37 = some (a_aload 0 38) ∧
  tX9_startWay 38 = some (a_const (nI 0) 39) ∧
  tX9_startWay 39 = some (a_put tT 9 3 42) ∧
  tX9_startWay 42 = some (a_aload 0 43) ∧
  tX9_startWay 43 = some (a_get tT 9 3 46) ∧
  tX9_startWay 46 = some (a_const (nI 5) 47) ∧
  tX9_startWay 47 = some (a_cmp (fun x y => y ≤ x) 76 50) ∧
  tX9_startWay 50 = some (a_aload 0 51) ∧
  tX9_startWay 51 = some (a_get tT 9 2 54) ∧
  tX9_startWay 54 = some (a_aload 0 55) ∧
  tX9_startWay 55 = some (a_get tT 9 3 58) ∧
  tX9_startWay 58 = some (a_iald tT 59) ∧
  tX9_startWay 59 = some (a_const (-1) 60) ∧
  tX9_startWay 60 = some (a_cmp (fun x y => x = y) 76 63) ∧
  tX9_startWay 63 = some (a_aload 0 64) ∧
  tX9_startWay 64 = some (a_dup 65) ∧
  tX9_startWay 65 = some (a_get tT 9 3 68) ∧
  tX9_startWay 68 = some (a_const (nI 1) 69) ∧
  tX9_startWay 69 = some (a_bin (fun x y => x + y) 70) ∧
  tX9_startWay 70 = some (a_put tT 9 3 73) ∧
  tX9_startWay 73 = some (a_goto 42) ∧
  tX9_startWay 76 = some (a_ret) := ⟨rfl, rfl, rfl, rfl, rfl, rfl, rfl, rfl, rfl, rfl, rfl, rfl, rfl, rfl, rfl, rfl, rfl, rfl, rfl, rfl, rfl, rfl, rfl⟩
theorem lX9_startRound_0 : tX9_startRound 0 = some (a_aload 0 1) ∧
  tX9_startRound 1 = some (a_get tT 9 0 4) ∧
  tX9_startRound 4 = some (a_get tT 10 10 7) ∧
  tX9_startRound 7 = some (a_const (nI 0) 8) ∧
  tX9_startRound 8 = some (a_aload 0 9) ∧
  tX9_startRound 9 = some (a_get tT 9 2 12) ∧
  tX9_startRound 12 = some (a_const (nI 0) 13) ∧
  tX9_startRound 13 = some (a_const (nI 12) 15) ∧
  tX9_startRound 15 = some (a_copy tT 18) ∧
  tX9_startRound 18 = some (a_aload 0 19) ∧
  tX9_startRound 19 = some (a_aload 0 20) ∧
  tX9_startRound 20 = some (a_get tT 9 0 23) ∧
  tX9_startRound 23 = some (a_get tT 10 9 26) ∧
  tX9_startRound 26 = some (a_put tT 9 3 29) ∧
  tX9_startRound 29 = some (a_ret) := ⟨rfl, rfl, rfl, rfl, rfl, rfl, rfl, rfl, rfl, rfl, rfl, rfl, rfl, rfl, rfl⟩
theorem lX9_canBe_0 : tX9_canBe 0 = some (a_iload 1 1) ∧
  tX9_canBe 1 = some (a_istore 2 2) ∧
  tX9_canBe 2 = some (a_const (nI 0) 3) ∧
  tX9_canBe 3 = some (a_istore 3 4) ∧
  tX9_canBe 4 = some (a_iload 3 5) ∧
  tX9_canBe 5 = some (a_aload 0 6) ∧
  tX9_canBe 6 = some (a_get tT 9 3 9) ∧
  tX9_canBe 9 = some (a_cmp (fun x y => y ≤ x) 74 12) ∧
  tX9_canBe 12 = some (a_aload 0 13) ∧
  tX9_canBe 13 = some (a_get tT 9 0 16) ∧
  tX9_canBe 16 = some (a_aload 0 17) ∧
  tX9_canBe 17 = some (a_get tT 9 2 20) ∧
  tX9_canBe 20 = some (a_iload 3 21) ∧
  tX9_canBe 21 = some (a_iald tT 22) ∧
  tX9_canBe 22 = some (a_cvI tT mX10_isBridge 10 1 25) ∧
  tX9_canBe 25 = some (a_if (fun x => x = nI 0) 48 28) ∧
  tX9_canBe 28 = some (a_aload 0 29) ∧
  tX9_canBe 29 = some (a_get tT 9 0 32) ∧
  tX9_canBe 32 = some (a_get tT 10 12 35) ∧
  tX9_canBe 35 = some (a_aload 0 36) ∧
  tX9_canBe 36 = some (a_get tT 9 2 39) ∧
  tX9_canBe 39 = some (a_iload 3 40) ∧
  tX9_canBe 40 = some (a_iald tT 41) ∧
  tX9_canBe 41 = some (a_iload 2 42) := ⟨rfl, rfl, rfl, rfl, rfl, rfl, rfl, rfl, rfl, rfl, rfl, rfl, rfl, rfl, rfl, rfl, rfl, rfl, rfl, rfl, rfl, rfl, rfl, rfl⟩
theorem lX9_canBe_1 : tX9_canBe 42 = some (a_cvI tT mX2_touches 2 2 45) ∧
  tX9_canBe 45 = some (a_if (fun x => x = nI 0) 48 50) ∧
  tX9_canBe 48 = some (a_const (nI 0) 49) ∧
  tX9_canBe 49 = some (a_zret) ∧
  tX9_canBe 50 = some (a_aload 0 51) ∧
  tX9_canBe 51 = some (a_get tT 9 0 54) ∧
  tX9_canBe 54 = some (a_get tT 10 12 57) ∧
  tX9_canBe 57 = some (a_aload 0 58) ∧
  tX9_canBe 58 = some (a_get tT 9 2 61) ∧
  tX9_canBe 61 = some (a_iload 3 62) ∧
  tX9_canBe 62 = some (a_iald tT 63) ∧
  tX9_canBe 63 = some (a_iload 2 64) ∧
  tX9_canBe 64 = some (a_cvI tT mX2_across 2 2 67) ∧
  tX9_canBe 67 = some (a_istore 2 68) ∧
  tX9_canBe 68 = some (a_iinc 3 (nI 1) 71) ∧
  tX9_canBe 71 = some (a_goto 4) ∧
  tX9_canBe 74 = some (a_aload 0 75) ∧
  tX9_canBe 75 = some (a_get tT 9 3 78) ∧
  tX9_canBe 78 = some (a_if (fun x => x ≤ nI 0) 85 81) ∧
  tX9_canBe 81 = some (a_const (nI 1) 82) ∧
  tX9_canBe 82 = some (a_goto 86) ∧
  tX9_canBe 85 = some (a_const (nI 0) 86) ∧
  tX9_canBe 86 = some (a_zret) := ⟨rfl, rfl, rfl, rfl, rfl, rfl, rfl, rfl, rfl, rfl, rfl, rfl, rfl, rfl, rfl, rfl, rfl, rfl, rfl, rfl, rfl, rfl, rfl⟩
theorem lX9_go_0 : tX9_go 0 = some (a_aload 0 1) ∧
  tX9_go 1 = some (a_const (nI 0) 2) ∧
  tX9_go 2 = some (a_put tT 9 6 5) ∧
  tX9_go 5 = some (a_aload 0 6) ∧
  tX9_go 6 = some (a_get tT 9 6 9) ∧
  tX9_go 9 = some (a_aload 0 10) ∧
  tX9_go 10 = some (a_get tT 9 3 13) ∧
  tX9_go 13 = some (a_cmp (fun x y => y ≤ x) 103 16) ∧
  tX9_go 16 = some (a_aload 0 17) ∧
  tX9_go 17 = some (a_get tT 9 2 20) ∧
  tX9_go 20 = some (a_aload 0 21) ∧
  tX9_go 21 = some (a_get tT 9 6 24) ∧
  tX9_go 24 = some (a_iald tT 25) ∧
  tX9_go 25 = some (a_istore 2 26) ∧
  tX9_go 26 = some (a_aload 0 27) ∧
  tX9_go 27 = some (a_get tT 9 0 30) ∧
  tX9_go 30 = some (a_iload 1 31) ∧
  tX9_go 31 = some (a_iload 2 32) ∧
  tX9_go 32 = some (a_cvI tT mX10_standsAt 10 2 35) ∧
  tX9_go 35 = some (a_if (fun x => x = nI 0) 50 38) ∧
  tX9_go 38 = some (a_aload 0 39) ∧
  tX9_go 39 = some (a_get tT 9 1 42) ∧
  tX9_go 42 = some (a_iload 1 43) ∧
  tX9_go 43 = some (a_iload 2 44) := ⟨rfl, rfl, rfl, rfl, rfl, rfl, rfl, rfl, rfl, rfl, rfl, rfl, rfl, rfl, rfl, rfl, rfl, rfl, rfl, rfl, rfl, rfl, rfl, rfl⟩
theorem lX9_go_1 : tX9_go 44 = some (a_cvI tT mX7_due 7 2 47) ∧
  tX9_go 47 = some (a_goto 52) ∧
  tX9_go 50 = some (a_const (-2) 52) ∧
  tX9_go 52 = some (a_istore 3 53) ∧
  tX9_go 53 = some (a_iload 3 54) ∧
  tX9_go 54 = some (a_const (-2) 56) ∧
  tX9_go 56 = some (a_cmp (fun x y => x = y) 59 61) ∧
  tX9_go 59 = some (a_const (nI 0) 60) ∧
  tX9_go 60 = some (a_zret) ∧
  tX9_go 61 = some (a_aload 0 62) ∧
  tX9_go 62 = some (a_get tT 9 4 65) ∧
  tX9_go 65 = some (a_aload 0 66) ∧
  tX9_go 66 = some (a_get tT 9 6 69) ∧
  tX9_go 69 = some (a_iload 3 70) ∧
  tX9_go 70 = some (a_iast tT 71) ∧
  tX9_go 71 = some (a_aload 0 72) ∧
  tX9_go 72 = some (a_get tT 9 5 75) ∧
  tX9_go 75 = some (a_aload 0 76) ∧
  tX9_go 76 = some (a_get tT 9 6 79) ∧
  tX9_go 79 = some (a_aload 0 80) ∧
  tX9_go 80 = some (a_get tT 9 1 83) ∧
  tX9_go 83 = some (a_iload 1 84) ∧
  tX9_go 84 = some (a_iload 2 85) ∧
  tX9_go 85 = some (a_iload 3 86) := ⟨rfl, rfl, rfl, rfl, rfl, rfl, rfl, rfl, rfl, rfl, rfl, rfl, rfl, rfl, rfl, rfl, rfl, rfl, rfl, rfl, rfl, rfl, rfl, rfl⟩
theorem lX9_go_2 : tX9_go 86 = some (a_cvI tT mX7_pass 7 3 89) ∧
  tX9_go 89 = some (a_iast tT 90) ∧
  tX9_go 90 = some (a_aload 0 91) ∧
  tX9_go 91 = some (a_dup 92) ∧
  tX9_go 92 = some (a_get tT 9 6 95) ∧
  tX9_go 95 = some (a_const (nI 1) 96) ∧
  tX9_go 96 = some (a_bin (fun x y => x + y) 97) ∧
  tX9_go 97 = some (a_put tT 9 6 100) ∧
  tX9_go 100 = some (a_goto 5) ∧
  tX9_go 103 = some (a_const (nI 1) 104) ∧
  tX9_go 104 = some (a_zret) := ⟨rfl, rfl, rfl, rfl, rfl, rfl, rfl, rfl, rfl, rfl, rfl⟩
theorem lX9_back_0 : tX9_back 0 = some (a_aload 0 1) ∧
  tX9_back 1 = some (a_get tT 9 6 4) ∧
  tX9_back 4 = some (a_const (nI 1) 5) ∧
  tX9_back 5 = some (a_bin (fun x y => x - y) 6) ∧
  tX9_back 6 = some (a_istore 2 7) ∧
  tX9_back 7 = some (a_iload 2 8) ∧
  tX9_back 8 = some (a_if (fun x => x < nI 0) 43 11) ∧
  tX9_back 11 = some (a_aload 0 12) ∧
  tX9_back 12 = some (a_get tT 9 1 15) ∧
  tX9_back 15 = some (a_iload 1 16) ∧
  tX9_back 16 = some (a_aload 0 17) ∧
  tX9_back 17 = some (a_get tT 9 2 20) ∧
  tX9_back 20 = some (a_iload 2 21) ∧
  tX9_back 21 = some (a_iald tT 22) ∧
  tX9_back 22 = some (a_aload 0 23) ∧
  tX9_back 23 = some (a_get tT 9 4 26) ∧
  tX9_back 26 = some (a_iload 2 27) ∧
  tX9_back 27 = some (a_iald tT 28) ∧
  tX9_back 28 = some (a_aload 0 29) ∧
  tX9_back 29 = some (a_get tT 9 5 32) ∧
  tX9_back 32 = some (a_iload 2 33) ∧
  tX9_back 33 = some (a_iald tT 34) ∧
  tX9_back 34 = some (a_cvV tT mX7_back 7 4 37) ∧
  tX9_back 37 = some (a_iinc 2 (-1) 40) := ⟨rfl, rfl, rfl, rfl, rfl, rfl, rfl, rfl, rfl, rfl, rfl, rfl, rfl, rfl, rfl, rfl, rfl, rfl, rfl, rfl, rfl, rfl, rfl, rfl⟩
theorem lX9_back_1 : tX9_back 40 = some (a_goto 7) ∧
  tX9_back 43 = some (a_ret) := ⟨rfl, rfl⟩
theorem lX10_isName_0 : tX10_isName 0 = some (a_iload 1 1) ∧
  tX10_isName 1 = some (a_if (fun x => x < nI 0) 16 4) ∧
  tX10_isName 4 = some (a_iload 1 5) ∧
  tX10_isName 5 = some (a_aload 0 6) ∧
  tX10_isName 6 = some (a_get tT 10 4 9) ∧
  tX10_isName 9 = some (a_cmp (fun x y => y ≤ x) 16 12) ∧
  tX10_isName 12 = some (a_const (nI 1) 13) ∧
  tX10_isName 13 = some (a_goto 17) ∧
  tX10_isName 16 = some (a_const (nI 0) 17) ∧
  tX10_isName 17 = some (a_zret) := ⟨rfl, rfl, rfl, rfl, rfl, rfl, rfl, rfl, rfl, rfl⟩
theorem lX10_isPerson_0 : tX10_isPerson 0 = some (a_iload 1 1) ∧
  tX10_isPerson 1 = some (a_if (fun x => x < nI 0) 19 4) ∧
  tX10_isPerson 4 = some (a_iload 1 5) ∧
  tX10_isPerson 5 = some (a_aload 0 6) ∧
  tX10_isPerson 6 = some (a_get tT 10 11 9) ∧
  tX10_isPerson 9 = some (a_get tT 5 0 12) ∧
  tX10_isPerson 12 = some (a_cmp (fun x y => y ≤ x) 19 15) ∧
  tX10_isPerson 15 = some (a_const (nI 1) 16) ∧
  tX10_isPerson 16 = some (a_goto 20) ∧
  tX10_isPerson 19 = some (a_const (nI 0) 20) ∧
  tX10_isPerson 20 = some (a_zret) := ⟨rfl, rfl, rfl, rfl, rfl, rfl, rfl, rfl, rfl, rfl, rfl⟩
theorem lX10_isBridge_0 : tX10_isBridge 0 = some (a_iload 1 1) ∧
  tX10_isBridge 1 = some (a_if (fun x => x < nI 0) 19 4) ∧
  tX10_isBridge 4 = some (a_iload 1 5) ∧
  tX10_isBridge 5 = some (a_aload 0 6) ∧
  tX10_isBridge 6 = some (a_get tT 10 12 9) ∧
  tX10_isBridge 9 = some (a_get tT 2 0 12) ∧
  tX10_isBridge 12 = some (a_cmp (fun x y => y ≤ x) 19 15) ∧
  tX10_isBridge 15 = some (a_const (nI 1) 16) ∧
  tX10_isBridge 16 = some (a_goto 20) ∧
  tX10_isBridge 19 = some (a_const (nI 0) 20) ∧
  tX10_isBridge 20 = some (a_zret) := ⟨rfl, rfl, rfl, rfl, rfl, rfl, rfl, rfl, rfl, rfl, rfl⟩
theorem lX10_standsAt_0 : tX10_standsAt 0 = some (a_aload 0 1) ∧
  tX10_standsAt 1 = some (a_iload 2 2) ∧
  tX10_standsAt 2 = some (a_cvI tT mX10_isBridge 10 1 5) ∧
  tX10_standsAt 5 = some (a_if (fun x => x = nI 0) 32 8) ∧
  tX10_standsAt 8 = some (a_aload 0 9) ∧
  tX10_standsAt 9 = some (a_get tT 10 12 12) ∧
  tX10_standsAt 12 = some (a_iload 2 13) ∧
  tX10_standsAt 13 = some (a_aload 0 14) ∧
  tX10_standsAt 14 = some (a_get tT 10 11 17) ∧
  tX10_standsAt 17 = some (a_get tT 5 1 20) ∧
  tX10_standsAt 20 = some (a_iload 1 21) ∧
  tX10_standsAt 21 = some (a_iald tT 22) ∧
  tX10_standsAt 22 = some (a_cvI tT mX2_touches 2 2 25) ∧
  tX10_standsAt 25 = some (a_if (fun x => x = nI 0) 32 28) ∧
  tX10_standsAt 28 = some (a_const (nI 1) 29) ∧
  tX10_standsAt 29 = some (a_goto 33) ∧
  tX10_standsAt 32 = some (a_const (nI 0) 33) ∧
  tX10_standsAt 33 = some (a_zret) := ⟨rfl, rfl, rfl, rfl, rfl, rfl, rfl, rfl, rfl, rfl, rfl, rfl, rfl, rfl, rfl, rfl, rfl, rfl⟩
theorem lX10_standTogether_0 : tX10_standTogether 0 = some (a_const (-1) 1) ∧
  tX10_standTogether 1 = some (a_istore 3 2) ∧
  tX10_standTogether 2 = some (a_const (nI 0) 3) ∧
  tX10_standTogether 3 = some (a_istore 4 5) ∧
  tX10_standTogether 5 = some (a_iload 4 7) ∧
  tX10_standTogether 7 = some (a_aload 0 8) ∧
  tX10_standTogether 8 = some (a_get tT 10 11 11) ∧
  tX10_standTogether 11 = some (a_get tT 5 0 14) ∧
  tX10_standTogether 14 = some (a_cmp (fun x y => y ≤ x) 79 17) ∧
  tX10_standTogether 17 = some (a_iload 1 18) ∧
  tX10_standTogether 18 = some (a_iload 4 20) ∧
  tX10_standTogether 20 = some (a_bin (fun x y => x >>> (y &&& 31)) 21) ∧
  tX10_standTogether 21 = some (a_const (nI 1) 22) ∧
  tX10_standTogether 22 = some (a_bin (fun x y => x &&& y) 23) ∧
  tX10_standTogether 23 = some (a_if (fun x => x = nI 0) 26 29) ∧
  tX10_standTogether 26 = some (a_goto 73) ∧
  tX10_standTogether 29 = some (a_iload 3 30) ∧
  tX10_standTogether 30 = some (a_const (-1) 31) ∧
  tX10_standTogether 31 = some (a_cmp (fun x y => x = y) 34 45) ∧
  tX10_standTogether 34 = some (a_aload 0 35) ∧
  tX10_standTogether 35 = some (a_get tT 10 11 38) ∧
  tX10_standTogether 38 = some (a_get tT 5 1 41) ∧
  tX10_standTogether 41 = some (a_iload 4 43) ∧
  tX10_standTogether 43 = some (a_iald tT 44) := ⟨rfl, rfl, rfl, rfl, rfl, rfl, rfl, rfl, rfl, rfl, rfl, rfl, rfl, rfl, rfl, rfl, rfl, rfl, rfl, rfl, rfl, rfl, rfl, rfl⟩
theorem lX10_standTogether_1 : tX10_standTogether 44 = some (a_istore 3 45) ∧
  tX10_standTogether 45 = some (a_aload 0 46) ∧
  tX10_standTogether 46 = some (a_get tT 10 11 49) ∧
  tX10_standTogether 49 = some (a_get tT 5 1 52) ∧
  tX10_standTogether 52 = some (a_iload 4 54) ∧
  tX10_standTogether 54 = some (a_iald tT 55) ∧
  tX10_standTogether 55 = some (a_iload 3 56) ∧
  tX10_standTogether 56 = some (a_cmp (fun x y => x = y) 59 71) ∧
  tX10_standTogether 59 = some (a_aload 0 60) ∧
  tX10_standTogether 60 = some (a_get tT 10 12 63) ∧
  tX10_standTogether 63 = some (a_iload 2 64) ∧
  tX10_standTogether 64 = some (a_iload 3 65) ∧
  tX10_standTogether 65 = some (a_cvI tT mX2_touches 2 2 68) ∧
  tX10_standTogether 68 = some (a_if (fun x => x = nI 0) 71 73) ∧
  tX10_standTogether 71 = some (a_const (nI 0) 72) ∧
  tX10_standTogether 72 = some (a_zret) ∧
  tX10_standTogether 73 = some (a_iinc 4 (nI 1) 76) ∧
  tX10_standTogether 76 = some (a_goto 5) ∧
  tX10_standTogether 79 = some (a_const (nI 1) 80) ∧
  tX10_standTogether 80 = some (a_zret) := ⟨rfl, rfl, rfl, rfl, rfl, rfl, rfl, rfl, rfl, rfl, rfl, rfl, rfl, rfl, rfl, rfl, rfl, rfl, rfl, rfl⟩
theorem lX10_lettersOf_0 : tX10_lettersOf 0 = some (a_const (nI 0) 1) ∧
  tX10_lettersOf 1 = some (a_istore 2 2) ∧
  tX10_lettersOf 2 = some (a_const (nI 0) 3) ∧
  tX10_lettersOf 3 = some (a_istore 3 4) ∧
  tX10_lettersOf 4 = some (a_iload 3 5) ∧
  tX10_lettersOf 5 = some (a_aload 0 6) ∧
  tX10_lettersOf 6 = some (a_get tT 10 11 9) ∧
  tX10_lettersOf 9 = some (a_get tT 5 6 12) ∧
  tX10_lettersOf 12 = some (a_iload 1 13) ∧
  tX10_lettersOf 13 = some (a_iald tT 14) ∧
  tX10_lettersOf 14 = some (a_cmp (fun x y => y ≤ x) 40 17) ∧
  tX10_lettersOf 17 = some (a_iload 2 18) ∧
  tX10_lettersOf 18 = some (a_aload 0 19) ∧
  tX10_lettersOf 19 = some (a_get tT 10 6 22) ∧
  tX10_lettersOf 22 = some (a_aload 0 23) ∧
  tX10_lettersOf 23 = some (a_get tT 10 11 26) ∧
  tX10_lettersOf 26 = some (a_iload 1 27) ∧
  tX10_lettersOf 27 = some (a_iload 3 28) ∧
  tX10_lettersOf 28 = some (a_cvI tT mX5_nameAt 5 2 31) ∧
  tX10_lettersOf 31 = some (a_iald tT 32) ∧
  tX10_lettersOf 32 = some (a_bin (fun x y => x + y) 33) ∧
  tX10_lettersOf 33 = some (a_istore 2 34) ∧
  tX10_lettersOf 34 = some (a_iinc 3 (nI 1) 37) ∧
  tX10_lettersOf 37 = some (a_goto 4) := ⟨rfl, rfl, rfl, rfl, rfl, rfl, rfl, rfl, rfl, rfl, rfl, rfl, rfl, rfl, rfl, rfl, rfl, rfl, rfl, rfl, rfl, rfl, rfl, rfl⟩
theorem lX10_lettersOf_1 : tX10_lettersOf 40 = some (a_iload 2 41) ∧
  tX10_lettersOf 41 = some (a_iret) := ⟨rfl, rfl⟩
theorem lX10_enter_0 : tX10_enter 0 = some (a_aload 0 1) ∧
  tX10_enter 1 = some (a_get tT 10 7 4) ∧
  tX10_enter 4 = some (a_const (nI 100) 6) ∧
  tX10_enter 6 = some (a_cmp (fun x y => x < y) 11 9) ∧
  tX10_enter 9 = some (a_const (nI 0) 10) ∧
  tX10_enter 10 = some (a_zret) ∧
  tX10_enter 11 = some (a_aload 0 12) ∧
  tX10_enter 12 = some (a_get tT 10 7 15) ∧
  tX10_enter 15 = some (a_const (nI 4) 16) ∧
  tX10_enter 16 = some (a_bin (fun x y => x * y) 17) ∧
  tX10_enter 17 = some (a_istore 4 19) ∧
  tX10_enter 19 = some (a_aload 0 20) ∧
  tX10_enter 20 = some (a_get tT 10 8 23) ∧
  tX10_enter 23 = some (a_iload 4 25) ∧
  tX10_enter 25 = some (a_iload 1 26) ∧
  tX10_enter 26 = some (a_iast tT 27) ∧
  tX10_enter 27 = some (a_aload 0 28) ∧
  tX10_enter 28 = some (a_get tT 10 8 31) ∧
  tX10_enter 31 = some (a_iload 4 33) ∧
  tX10_enter 33 = some (a_const (nI 1) 34) ∧
  tX10_enter 34 = some (a_bin (fun x y => x + y) 35) ∧
  tX10_enter 35 = some (a_iload 2 36) ∧
  tX10_enter 36 = some (a_iast tT 37) ∧
  tX10_enter 37 = some (a_aload 0 38) := ⟨rfl, rfl, rfl, rfl, rfl, rfl, rfl, rfl, rfl, rfl, rfl, rfl, rfl, rfl, rfl, rfl, rfl, rfl, rfl, rfl, rfl, rfl, rfl, rfl⟩
theorem lX10_enter_1 : tX10_enter 38 = some (a_get tT 10 8 41) ∧
  tX10_enter 41 = some (a_iload 4 43) ∧
  tX10_enter 43 = some (a_const (nI 2) 44) ∧
  tX10_enter 44 = some (a_bin (fun x y => x + y) 45) ∧
  tX10_enter 45 = some (a_iload 3 46) ∧
  tX10_enter 46 = some (a_iast tT 47) ∧
  tX10_enter 47 = some (a_aload 0 48) ∧
  tX10_enter 48 = some (a_get tT 10 8 51) ∧
  tX10_enter 51 = some (a_iload 4 53) ∧
  tX10_enter 53 = some (a_const (nI 3) 54) ∧
  tX10_enter 54 = some (a_bin (fun x y => x + y) 55) ∧
  tX10_enter 55 = some (a_aload 0 56) ∧
  tX10_enter 56 = some (a_get tT 10 3 59) ∧
  tX10_enter 59 = some (a_iast tT 60) ∧
  tX10_enter 60 = some (a_aload 0 61) ∧
  tX10_enter 61 = some (a_dup 62) ∧
  tX10_enter 62 = some (a_get tT 10 7 65) ∧
  tX10_enter 65 = some (a_const (nI 1) 66) ∧
  tX10_enter 66 = some (a_bin (fun x y => x + y) 67) ∧
  tX10_enter 67 = some (a_put tT 10 7 70) ∧
  tX10_enter 70 = some (a_const (nI 1) 71) ∧
  tX10_enter 71 = some (a_zret) := ⟨rfl, rfl, rfl, rfl, rfl, rfl, rfl, rfl, rfl, rfl, rfl, rfl, rfl, rfl, rfl, rfl, rfl, rfl, rfl, rfl, rfl, rfl⟩
theorem lX10_growBack_0 : tX10_growBack 0 = some (a_aload 0 1) ∧
  tX10_growBack 1 = some (a_get tT 10 11 4) ∧
  tX10_growBack 4 = some (a_get tT 5 3 7) ∧
  tX10_growBack 7 = some (a_iload 1 8) ∧
  tX10_growBack 8 = some (a_iald tT 9) ∧
  tX10_growBack 9 = some (a_aload 0 10) ∧
  tX10_growBack 10 = some (a_get tT 10 11 13) ∧
  tX10_growBack 13 = some (a_get tT 5 5 16) ∧
  tX10_growBack 16 = some (a_iload 1 17) ∧
  tX10_growBack 17 = some (a_iald tT 18) ∧
  tX10_growBack 18 = some (a_const (-1) 19) ∧
  tX10_growBack 19 = some (a_bin (fun x y => x ^^^ y) 20) ∧
  tX10_growBack 20 = some (a_bin (fun x y => x &&& y) 21) ∧
  tX10_growBack 21 = some (a_istore 2 22) ∧
  tX10_growBack 22 = some (a_aload 0 23) ∧
  tX10_growBack 23 = some (a_get tT 10 1 26) ∧
  tX10_growBack 26 = some (a_if (fun x => x = nI 0) 47 29) ∧
  tX10_growBack 29 = some (a_iload 2 30) ∧
  tX10_growBack 30 = some (a_if (fun x => x = nI 0) 47 33) ∧
  tX10_growBack 33 = some (a_aload 0 34) ∧
  tX10_growBack 34 = some (a_get tT 10 11 37) ∧
  tX10_growBack 37 = some (a_get tT 5 6 40) ∧
  tX10_growBack 40 = some (a_iload 1 41) ∧
  tX10_growBack 41 = some (a_iald tT 42) := ⟨rfl, rfl, rfl, rfl, rfl, rfl, rfl, rfl, rfl, rfl, rfl, rfl, rfl, rfl, rfl, rfl, rfl, rfl, rfl, rfl, rfl, rfl, rfl, rfl⟩
theorem lX10_growBack_1 : tX10_growBack 42 = some (a_const (nI 9) 44) ∧
  tX10_growBack 44 = some (a_cmp (fun x y => x < y) 49 47) ∧
  tX10_growBack 47 = some (a_const (nI 0) 48) ∧
  tX10_growBack 48 = some (a_zret) ∧
  tX10_growBack 49 = some (a_aload 0 50) ∧
  tX10_growBack 50 = some (a_const (nI 1000) 53) ∧
  tX10_growBack 53 = some (a_cvI tT mX10_draw 10 1 56) ∧
  tX10_growBack 56 = some (a_aload 0 57) ∧
  tX10_growBack 57 = some (a_get tT 10 1 60) ∧
  tX10_growBack 60 = some (a_cmp (fun x y => x < y) 65 63) ∧
  tX10_growBack 63 = some (a_const (nI 0) 64) ∧
  tX10_growBack 64 = some (a_zret) ∧
  tX10_growBack 65 = some (a_aload 0 66) ∧
  tX10_growBack 66 = some (a_iload 2 67) ∧
  tX10_growBack 67 = some (a_csI mJ6_bitCount_0f7a4 1 70) ∧
  tX10_growBack 70 = some (a_cvI tT mX10_draw 10 1 73) ∧
  tX10_growBack 73 = some (a_istore 3 74) ∧
  tX10_growBack 74 = some (a_const (nI 0) 75) ∧
  tX10_growBack 75 = some (a_istore 4 77) ∧
  tX10_growBack 77 = some (a_iload 4 79) ∧
  tX10_growBack 79 = some (a_aload 0 80) ∧
  tX10_growBack 80 = some (a_get tT 10 4 83) ∧
  tX10_growBack 83 = some (a_cmp (fun x y => y ≤ x) 123 86) ∧
  tX10_growBack 86 = some (a_iload 2 87) := ⟨rfl, rfl, rfl, rfl, rfl, rfl, rfl, rfl, rfl, rfl, rfl, rfl, rfl, rfl, rfl, rfl, rfl, rfl, rfl, rfl, rfl, rfl, rfl, rfl⟩
theorem lX10_growBack_2 : tX10_growBack 87 = some (a_iload 4 89) ∧
  tX10_growBack 89 = some (a_bin (fun x y => x >>> (y &&& 31)) 90) ∧
  tX10_growBack 90 = some (a_const (nI 1) 91) ∧
  tX10_growBack 91 = some (a_bin (fun x y => x &&& y) 92) ∧
  tX10_growBack 92 = some (a_if (fun x => x = nI 0) 95 98) ∧
  tX10_growBack 95 = some (a_goto 117) ∧
  tX10_growBack 98 = some (a_iload 3 99) ∧
  tX10_growBack 99 = some (a_if (fun x => x = nI 0) 102 114) ∧
  tX10_growBack 102 = some (a_aload 0 103) ∧
  tX10_growBack 103 = some (a_get tT 10 11 106) ∧
  tX10_growBack 106 = some (a_iload 1 107) ∧
  tX10_growBack 107 = some (a_iload 4 109) ∧
  tX10_growBack 109 = some (a_cvV tT mX5_append 5 2 112) ∧
  tX10_growBack 112 = some (a_const (nI 1) 113) ∧
  tX10_growBack 113 = some (a_zret) ∧
  tX10_growBack 114 = some (a_iinc 3 (-1) 117) ∧
  tX10_growBack 117 = some (a_iinc 4 (nI 1) 120) ∧
  tX10_growBack 120 = some (a_goto 77) ∧
  tX10_growBack 123 = some (a_const (nI 0) 124) ∧
  tX10_growBack 124 = some (a_zret) := ⟨rfl, rfl, rfl, rfl, rfl, rfl, rfl, rfl, rfl, rfl, rfl, rfl, rfl, rfl, rfl, rfl, rfl, rfl, rfl, rfl⟩
theorem lX10_draw_0 : tX10_draw 0 = some (a_aload 0 1) ∧
  tX10_draw 1 = some (a_const (nI 1664525) 3) ∧
  tX10_draw 3 = some (a_aload 0 4) ∧
  tX10_draw 4 = some (a_get tT 10 0 7) ∧
  tX10_draw 7 = some (a_bin (fun x y => x * y) 8) ∧
  tX10_draw 8 = some (a_const (nI 1013904223) 10) ∧
  tX10_draw 10 = some (a_bin (fun x y => x + y) 11) ∧
  tX10_draw 11 = some (a_put tT 10 0 14) ∧
  tX10_draw 14 = some (a_iload 1 15) ∧
  tX10_draw 15 = some (a_const (nI 1) 16) ∧
  tX10_draw 16 = some (a_cmp (fun x y => y ≤ x) 23 19) ∧
  tX10_draw 19 = some (a_const (nI 0) 20) ∧
  tX10_draw 20 = some (a_goto 32) ∧
  tX10_draw 23 = some (a_aload 0 24) ∧
  tX10_draw 24 = some (a_get tT 10 0 27) ∧
  tX10_draw 27 = some (a_const (nI 8) 29) ∧
  tX10_draw 29 = some (a_bin am_ushr 30) ∧
  tX10_draw 30 = some (a_iload 1 31) ∧
  tX10_draw 31 = some (a_divr (fun x y => x - x / y * y) 32) ∧
  tX10_draw 32 = some (a_iret) := ⟨rfl, rfl, rfl, rfl, rfl, rfl, rfl, rfl, rfl, rfl, rfl, rfl, rfl, rfl, rfl, rfl, rfl, rfl, rfl, rfl⟩
theorem lX10_copyFrom_0 : tX10_copyFrom 0 = some (a_aload 0 1) ∧
  tX10_copyFrom 1 = some (a_aload 1 2) ∧
  tX10_copyFrom 2 = some (a_get tT 10 0 5) ∧
  tX10_copyFrom 5 = some (a_put tT 10 0 8) ∧
  tX10_copyFrom 8 = some (a_aload 0 9) ∧
  tX10_copyFrom 9 = some (a_aload 1 10) ∧
  tX10_copyFrom 10 = some (a_get tT 10 1 13) ∧
  tX10_copyFrom 13 = some (a_put tT 10 1 16) ∧
  tX10_copyFrom 16 = some (a_aload 0 17) ∧
  tX10_copyFrom 17 = some (a_aload 1 18) ∧
  tX10_copyFrom 18 = some (a_get tT 10 2 21) ∧
  tX10_copyFrom 21 = some (a_put tT 10 2 24) ∧
  tX10_copyFrom 24 = some (a_aload 0 25) ∧
  tX10_copyFrom 25 = some (a_aload 1 26) ∧
  tX10_copyFrom 26 = some (a_get tT 10 3 29) ∧
  tX10_copyFrom 29 = some (a_put tT 10 3 32) ∧
  tX10_copyFrom 32 = some (a_aload 0 33) ∧
  tX10_copyFrom 33 = some (a_aload 1 34) ∧
  tX10_copyFrom 34 = some (a_get tT 10 4 37) ∧
  tX10_copyFrom 37 = some (a_put tT 10 4 40) ∧
  tX10_copyFrom 40 = some (a_aload 1 41) ∧
  tX10_copyFrom 41 = some (a_get tT 10 5 44) ∧
  tX10_copyFrom 44 = some (a_const (nI 0) 45) ∧
  tX10_copyFrom 45 = some (a_aload 0 46) := ⟨rfl, rfl, rfl, rfl, rfl, rfl, rfl, rfl, rfl, rfl, rfl, rfl, rfl, rfl, rfl, rfl, rfl, rfl, rfl, rfl, rfl, rfl, rfl, rfl⟩
theorem lX10_copyFrom_1 : tX10_copyFrom 46 = some (a_get tT 10 5 49) ∧
  tX10_copyFrom 49 = some (a_const (nI 0) 50) ∧
  tX10_copyFrom 50 = some (a_const (nI 20) 52) ∧
  tX10_copyFrom 52 = some (a_copy tT 55) ∧
  tX10_copyFrom 55 = some (a_aload 1 56) ∧
  tX10_copyFrom 56 = some (a_get tT 10 6 59) ∧
  tX10_copyFrom 59 = some (a_const (nI 0) 60) ∧
  tX10_copyFrom 60 = some (a_aload 0 61) ∧
  tX10_copyFrom 61 = some (a_get tT 10 6 64) ∧
  tX10_copyFrom 64 = some (a_const (nI 0) 65) ∧
  tX10_copyFrom 65 = some (a_const (nI 20) 67) ∧
  tX10_copyFrom 67 = some (a_copy tT 70) ∧
  tX10_copyFrom 70 = some (a_aload 0 71) ∧
  tX10_copyFrom 71 = some (a_aload 1 72) ∧
  tX10_copyFrom 72 = some (a_get tT 10 7 75) ∧
  tX10_copyFrom 75 = some (a_put tT 10 7 78) ∧
  tX10_copyFrom 78 = some (a_aload 1 79) ∧
  tX10_copyFrom 79 = some (a_get tT 10 8 82) ∧
  tX10_copyFrom 82 = some (a_const (nI 0) 83) ∧
  tX10_copyFrom 83 = some (a_aload 0 84) ∧
  tX10_copyFrom 84 = some (a_get tT 10 8 87) ∧
  tX10_copyFrom 87 = some (a_const (nI 0) 88) ∧
  tX10_copyFrom 88 = some (a_const (nI 400) 91) ∧
  tX10_copyFrom 91 = some (a_copy tT 94) := ⟨rfl, rfl, rfl, rfl, rfl, rfl, rfl, rfl, rfl, rfl, rfl, rfl, rfl, rfl, rfl, rfl, rfl, rfl, rfl, rfl, rfl, rfl, rfl, rfl⟩
theorem lX10_copyFrom_2 : tX10_copyFrom 94 = some (a_aload 0 95) ∧
  tX10_copyFrom 95 = some (a_aload 1 96) ∧
  tX10_copyFrom 96 = some (a_get tT 10 9 99) ∧
  tX10_copyFrom 99 = some (a_put tT 10 9 102) ∧
  tX10_copyFrom 102 = some (a_aload 1 103) ∧
  tX10_copyFrom 103 = some (a_get tT 10 10 106) ∧
  tX10_copyFrom 106 = some (a_const (nI 0) 107) ∧
  tX10_copyFrom 107 = some (a_aload 0 108) ∧
  tX10_copyFrom 108 = some (a_get tT 10 10 111) ∧
  tX10_copyFrom 111 = some (a_const (nI 0) 112) ∧
  tX10_copyFrom 112 = some (a_const (nI 12) 114) ∧
  tX10_copyFrom 114 = some (a_copy tT 117) ∧
  tX10_copyFrom 117 = some (a_aload 0 118) ∧
  tX10_copyFrom 118 = some (a_get tT 10 11 121) ∧
  tX10_copyFrom 121 = some (a_aload 1 122) ∧
  tX10_copyFrom 122 = some (a_get tT 10 11 125) ∧
  tX10_copyFrom 125 = some (a_cvV tT mX5_copyFrom 5 1 128) ∧
  tX10_copyFrom 128 = some (a_aload 0 129) ∧
  tX10_copyFrom 129 = some (a_get tT 10 12 132) ∧
  tX10_copyFrom 132 = some (a_aload 1 133) ∧
  tX10_copyFrom 133 = some (a_get tT 10 12 136) ∧
  tX10_copyFrom 136 = some (a_cvV tT mX2_copyFrom 2 1 139) ∧
  tX10_copyFrom 139 = some (a_aload 0 140) ∧
  tX10_copyFrom 140 = some (a_get tT 10 13 143) := ⟨rfl, rfl, rfl, rfl, rfl, rfl, rfl, rfl, rfl, rfl, rfl, rfl, rfl, rfl, rfl, rfl, rfl, rfl, rfl, rfl, rfl, rfl, rfl, rfl⟩
theorem lX10_copyFrom_3 : tX10_copyFrom 143 = some (a_aload 1 144) ∧
  tX10_copyFrom 144 = some (a_get tT 10 13 147) ∧
  tX10_copyFrom 147 = some (a_cvV tT mX3_copyFrom 3 1 150) ∧
  tX10_copyFrom 150 = some (a_ret) := ⟨rfl, rfl, rfl, rfl⟩
theorem lX11_state_0 : tX11_state 0 = some (a_aload 0 1) ∧
  tX11_state 1 = some (a_get tT 11 0 4) ∧
  tX11_state 4 = some (a_get tT 10 0 7) ∧
  tX11_state 7 = some (a_istore 2 8) ∧
  tX11_state 8 = some (a_aload 0 9) ∧
  tX11_state 9 = some (a_get tT 11 0 12) ∧
  tX11_state 12 = some (a_iload 1 13) ∧
  tX11_state 13 = some (a_put tT 10 0 16) ∧
  tX11_state 16 = some (a_iload 2 17) ∧
  tX11_state 17 = some (a_iret) := ⟨rfl, rfl, rfl, rfl, rfl, rfl, rfl, rfl, rfl, rfl⟩
theorem lX11_name_0 : tX11_name 0 = some (a_iload 1 1) ∧
  tX11_name 1 = some (a_const (nI 0) 2) ∧
  tX11_name 2 = some (a_const (nI 3) 3) ∧
  tX11_name 3 = some (a_csI mX11_within 3 6) ∧
  tX11_name 6 = some (a_if (fun x => x = nI 0) 31 9) ∧
  tX11_name 9 = some (a_iload 2 10) ∧
  tX11_name 10 = some (a_const (nI 1) 11) ∧
  tX11_name 11 = some (a_const (nI 12) 13) ∧
  tX11_name 13 = some (a_csI mX11_within 3 16) ∧
  tX11_name 16 = some (a_if (fun x => x = nI 0) 31 19) ∧
  tX11_name 19 = some (a_aload 0 20) ∧
  tX11_name 20 = some (a_get tT 11 0 23) ∧
  tX11_name 23 = some (a_get tT 10 4 26) ∧
  tX11_name 26 = some (a_const (nI 20) 28) ∧
  tX11_name 28 = some (a_cmp (fun x y => x < y) 33 31) ∧
  tX11_name 31 = some (a_const (-1) 32) ∧
  tX11_name 32 = some (a_iret) ∧
  tX11_name 33 = some (a_aload 0 34) ∧
  tX11_name 34 = some (a_get tT 11 4 37) ∧
  tX11_name 37 = some (a_cvV tT mX8_forget 8 0 40) ∧
  tX11_name 40 = some (a_aload 0 41) ∧
  tX11_name 41 = some (a_get tT 11 0 44) ∧
  tX11_name 44 = some (a_get tT 10 4 47) ∧
  tX11_name 47 = some (a_istore 3 48) := ⟨rfl, rfl, rfl, rfl, rfl, rfl, rfl, rfl, rfl, rfl, rfl, rfl, rfl, rfl, rfl, rfl, rfl, rfl, rfl, rfl, rfl, rfl, rfl, rfl⟩
theorem lX11_name_1 : tX11_name 48 = some (a_aload 0 49) ∧
  tX11_name 49 = some (a_get tT 11 0 52) ∧
  tX11_name 52 = some (a_get tT 10 5 55) ∧
  tX11_name 55 = some (a_iload 3 56) ∧
  tX11_name 56 = some (a_iload 1 57) ∧
  tX11_name 57 = some (a_iast tT 58) ∧
  tX11_name 58 = some (a_aload 0 59) ∧
  tX11_name 59 = some (a_get tT 11 0 62) ∧
  tX11_name 62 = some (a_get tT 10 6 65) ∧
  tX11_name 65 = some (a_iload 3 66) ∧
  tX11_name 66 = some (a_iload 2 67) ∧
  tX11_name 67 = some (a_iast tT 68) ∧
  tX11_name 68 = some (a_aload 0 69) ∧
  tX11_name 69 = some (a_get tT 11 0 72) ∧
  tX11_name 72 = some (a_iload 3 73) ∧
  tX11_name 73 = some (a_const (nI 1) 74) ∧
  tX11_name 74 = some (a_bin (fun x y => x + y) 75) ∧
  tX11_name 75 = some (a_put tT 10 4 78) ∧
  tX11_name 78 = some (a_iload 3 79) ∧
  tX11_name 79 = some (a_iret) := ⟨rfl, rfl, rfl, rfl, rfl, rfl, rfl, rfl, rfl, rfl, rfl, rfl, rfl, rfl, rfl, rfl, rfl, rfl, rfl, rfl⟩
theorem lX11_person_0 : tX11_person 0 = some (a_iload 1 1) ∧
  tX11_person 1 = some (a_csI mX11_isPlace 1 4) ∧
  tX11_person 4 = some (a_if (fun x => x = nI 0) 33 7) ∧
  tX11_person 7 = some (a_iload 2 8) ∧
  tX11_person 8 = some (a_const (nI 0) 9) ∧
  tX11_person 9 = some (a_const (nI 9999) 12) ∧
  tX11_person 12 = some (a_csI mX11_within 3 15) ∧
  tX11_person 15 = some (a_if (fun x => x = nI 0) 33 18) ∧
  tX11_person 18 = some (a_aload 0 19) ∧
  tX11_person 19 = some (a_get tT 11 0 22) ∧
  tX11_person 22 = some (a_get tT 10 11 25) ∧
  tX11_person 25 = some (a_get tT 5 0 28) ∧
  tX11_person 28 = some (a_const (nI 8) 30) ∧
  tX11_person 30 = some (a_cmp (fun x y => x < y) 35 33) ∧
  tX11_person 33 = some (a_const (-1) 34) ∧
  tX11_person 34 = some (a_iret) ∧
  tX11_person 35 = some (a_aload 0 36) ∧
  tX11_person 36 = some (a_get tT 11 4 39) ∧
  tX11_person 39 = some (a_cvV tT mX8_forget 8 0 42) ∧
  tX11_person 42 = some (a_aload 0 43) ∧
  tX11_person 43 = some (a_get tT 11 0 46) ∧
  tX11_person 46 = some (a_get tT 10 11 49) ∧
  tX11_person 49 = some (a_iload 1 50) ∧
  tX11_person 50 = some (a_iload 2 51) := ⟨rfl, rfl, rfl, rfl, rfl, rfl, rfl, rfl, rfl, rfl, rfl, rfl, rfl, rfl, rfl, rfl, rfl, rfl, rfl, rfl, rfl, rfl, rfl, rfl⟩
theorem lX11_person_1 : tX11_person 51 = some (a_cvI tT mX5_add 5 2 54) ∧
  tX11_person 54 = some (a_iret) := ⟨rfl, rfl⟩
theorem lX11_bridge_0 : tX11_bridge 0 = some (a_iload 1 1) ∧
  tX11_bridge 1 = some (a_csI mX11_isPlace 1 4) ∧
  tX11_bridge 4 = some (a_if (fun x => x = nI 0) 34 7) ∧
  tX11_bridge 7 = some (a_iload 2 8) ∧
  tX11_bridge 8 = some (a_csI mX11_isPlace 1 11) ∧
  tX11_bridge 11 = some (a_if (fun x => x = nI 0) 34 14) ∧
  tX11_bridge 14 = some (a_iload 1 15) ∧
  tX11_bridge 15 = some (a_iload 2 16) ∧
  tX11_bridge 16 = some (a_cmp (fun x y => x = y) 34 19) ∧
  tX11_bridge 19 = some (a_aload 0 20) ∧
  tX11_bridge 20 = some (a_get tT 11 0 23) ∧
  tX11_bridge 23 = some (a_get tT 10 12 26) ∧
  tX11_bridge 26 = some (a_get tT 2 0 29) ∧
  tX11_bridge 29 = some (a_const (nI 12) 31) ∧
  tX11_bridge 31 = some (a_cmp (fun x y => x < y) 36 34) ∧
  tX11_bridge 34 = some (a_const (-1) 35) ∧
  tX11_bridge 35 = some (a_iret) ∧
  tX11_bridge 36 = some (a_aload 0 37) ∧
  tX11_bridge 37 = some (a_get tT 11 4 40) ∧
  tX11_bridge 40 = some (a_cvV tT mX8_forget 8 0 43) ∧
  tX11_bridge 43 = some (a_aload 0 44) ∧
  tX11_bridge 44 = some (a_get tT 11 0 47) ∧
  tX11_bridge 47 = some (a_get tT 10 12 50) ∧
  tX11_bridge 50 = some (a_iload 1 51) := ⟨rfl, rfl, rfl, rfl, rfl, rfl, rfl, rfl, rfl, rfl, rfl, rfl, rfl, rfl, rfl, rfl, rfl, rfl, rfl, rfl, rfl, rfl, rfl, rfl⟩
theorem lX11_bridge_1 : tX11_bridge 51 = some (a_iload 2 52) ∧
  tX11_bridge 52 = some (a_cvI tT mX2_add 2 2 55) ∧
  tX11_bridge 55 = some (a_iret) := ⟨rfl, rfl, rfl⟩
theorem lX11_christen_0 : tX11_christen 0 = some (a_aload 0 1) ∧
  tX11_christen 1 = some (a_get tT 11 0 4) ∧
  tX11_christen 4 = some (a_iload 1 5) ∧
  tX11_christen 5 = some (a_cvI tT mX10_isPerson 10 1 8) ∧
  tX11_christen 8 = some (a_if (fun x => x = nI 0) 37 11) ∧
  tX11_christen 11 = some (a_aload 0 12) ∧
  tX11_christen 12 = some (a_get tT 11 0 15) ∧
  tX11_christen 15 = some (a_iload 2 16) ∧
  tX11_christen 16 = some (a_cvI tT mX10_isName 10 1 19) ∧
  tX11_christen 19 = some (a_if (fun x => x = nI 0) 37 22) ∧
  tX11_christen 22 = some (a_aload 0 23) ∧
  tX11_christen 23 = some (a_get tT 11 0 26) ∧
  tX11_christen 26 = some (a_get tT 10 11 29) ∧
  tX11_christen 29 = some (a_iload 1 30) ∧
  tX11_christen 30 = some (a_iload 2 31) ∧
  tX11_christen 31 = some (a_cvI tT mX5_canGain 5 2 34) ∧
  tX11_christen 34 = some (a_if (fun x => x = nI 0) 37 39) ∧
  tX11_christen 37 = some (a_const (nI 0) 38) ∧
  tX11_christen 38 = some (a_zret) ∧
  tX11_christen 39 = some (a_aload 0 40) ∧
  tX11_christen 40 = some (a_get tT 11 4 43) ∧
  tX11_christen 43 = some (a_cvV tT mX8_forget 8 0 46) ∧
  tX11_christen 46 = some (a_aload 0 47) ∧
  tX11_christen 47 = some (a_get tT 11 0 50) := ⟨rfl, rfl, rfl, rfl, rfl, rfl, rfl, rfl, rfl, rfl, rfl, rfl, rfl, rfl, rfl, rfl, rfl, rfl, rfl, rfl, rfl, rfl, rfl, rfl⟩
theorem lX11_christen_1 : tX11_christen 50 = some (a_get tT 10 11 53) ∧
  tX11_christen 53 = some (a_iload 1 54) ∧
  tX11_christen 54 = some (a_iload 2 55) ∧
  tX11_christen 55 = some (a_cvV tT mX5_append 5 2 58) ∧
  tX11_christen 58 = some (a_aload 0 59) ∧
  tX11_christen 59 = some (a_get tT 11 0 62) ∧
  tX11_christen 62 = some (a_get tT 10 11 65) ∧
  tX11_christen 65 = some (a_get tT 5 3 68) ∧
  tX11_christen 68 = some (a_iload 1 69) ∧
  tX11_christen 69 = some (a_dup2 70) ∧
  tX11_christen 70 = some (a_iald tT 71) ∧
  tX11_christen 71 = some (a_const (nI 1) 72) ∧
  tX11_christen 72 = some (a_iload 2 73) ∧
  tX11_christen 73 = some (a_bin (fun x y => x <<< (y &&& 31)) 74) ∧
  tX11_christen 74 = some (a_bin (fun x y => x ||| y) 75) ∧
  tX11_christen 75 = some (a_iast tT 76) ∧
  tX11_christen 76 = some (a_const (nI 1) 77) ∧
  tX11_christen 77 = some (a_zret) := ⟨rfl, rfl, rfl, rfl, rfl, rfl, rfl, rfl, rfl, rfl, rfl, rfl, rfl, rfl, rfl, rfl, rfl, rfl⟩
theorem lX11_set_0 : tX11_set 0 = some (a_iload 1 1) ∧
  tX11_set 1 = some (a_if (fun x => x = nI 0) 9 4) ∧
  tX11_set 4 = some (a_iload 1 5) ∧
  tX11_set 5 = some (a_const (nI 1) 6) ∧
  tX11_set 6 = some (a_cmp (fun x y => x = y) 9 18) ∧
  tX11_set 9 = some (a_aload 0 10) ∧
  tX11_set 10 = some (a_iload 1 11) ∧
  tX11_set 11 = some (a_iload 3 12) ∧
  tX11_set 12 = some (a_cvI tT mX11_setForAll 11 2 15) ∧
  tX11_set 15 = some (a_goto 25) ∧
  tX11_set 18 = some (a_aload 0 19) ∧
  tX11_set 19 = some (a_iload 1 20) ∧
  tX11_set 20 = some (a_iload 2 21) ∧
  tX11_set 21 = some (a_iload 3 22) ∧
  tX11_set 22 = some (a_cvI tT mX11_setOfPerson 11 3 25) ∧
  tX11_set 25 = some (a_istore 4 27) ∧
  tX11_set 27 = some (a_iload 4 29) ∧
  tX11_set 29 = some (a_if (fun x => x = nI 0) 39 32) ∧
  tX11_set 32 = some (a_aload 0 33) ∧
  tX11_set 33 = some (a_get tT 11 4 36) ∧
  tX11_set 36 = some (a_cvV tT mX8_forget 8 0 39) ∧
  tX11_set 39 = some (a_iload 4 41) ∧
  tX11_set 41 = some (a_zret) := ⟨rfl, rfl, rfl, rfl, rfl, rfl, rfl, rfl, rfl, rfl, rfl, rfl, rfl, rfl, rfl, rfl, rfl, rfl, rfl, rfl, rfl, rfl, rfl⟩
theorem lX11_feed_0 : tX11_feed 0 = some (a_aload 0 1) ∧
  tX11_feed 1 = some (a_get tT 11 3 4) ∧
  tX11_feed 4 = some (a_cvI tT mX4_hasRoom 4 0 7) ∧
  tX11_feed 7 = some (a_if (fun x => x = nI 0) 10 12) ∧
  tX11_feed 10 = some (a_const (-1) 11) ∧
  tX11_feed 11 = some (a_iret) ∧
  tX11_feed 12 = some (a_aload 0 13) ∧
  tX11_feed 13 = some (a_get tT 11 3 16) ∧
  tX11_feed 16 = some (a_iload 1 17) ∧
  tX11_feed 17 = some (a_cvV tT mX4_put 4 1 20) ∧
  tX11_feed 20 = some (a_aload 0 21) ∧
  tX11_feed 21 = some (a_get tT 11 3 24) ∧
  tX11_feed 24 = some (a_iload 2 25) ∧
  tX11_feed 25 = some (a_cvV tT mX4_put 4 1 28) ∧
  tX11_feed 28 = some (a_aload 0 29) ∧
  tX11_feed 29 = some (a_get tT 11 3 32) ∧
  tX11_feed 32 = some (a_iload 3 33) ∧
  tX11_feed 33 = some (a_cvV tT mX4_put 4 1 36) ∧
  tX11_feed 36 = some (a_aload 0 37) ∧
  tX11_feed 37 = some (a_get tT 11 3 40) ∧
  tX11_feed 40 = some (a_iload 4 42) ∧
  tX11_feed 42 = some (a_cvV tT mX4_put 4 1 45) ∧
  tX11_feed 45 = some (a_aload 0 46) ∧
  tX11_feed 46 = some (a_get tT 11 3 49) := ⟨rfl, rfl, rfl, rfl, rfl, rfl, rfl, rfl, rfl, rfl, rfl, rfl, rfl, rfl, rfl, rfl, rfl, rfl, rfl, rfl, rfl, rfl, rfl, rfl⟩
theorem lX11_feed_1 : tX11_feed 49 = some (a_iload 5 51) ∧
  tX11_feed 51 = some (a_cvV tT mX4_put 4 1 54) ∧
  tX11_feed 54 = some (a_aload 0 55) ∧
  tX11_feed 55 = some (a_get tT 11 3 58) ∧
  tX11_feed 58 = some (a_get tT 4 0 61) ∧
  tX11_feed 61 = some (a_iret) := ⟨rfl, rfl, rfl, rfl, rfl, rfl⟩
theorem lX11_end_0 : tX11_end 0 = some (a_iload 1 1) ∧
  tX11_end 1 = some (a_const (nI 0) 2) ∧
  tX11_end 2 = some (a_aload 0 3) ∧
  tX11_end 3 = some (a_get tT 11 3 6) ∧
  tX11_end 6 = some (a_get tT 4 0 9) ∧
  tX11_end 9 = some (a_csI mX11_within 3 12) ∧
  tX11_end 12 = some (a_if (fun x => x = nI 0) 15 17) ∧
  tX11_end 15 = some (a_const (nI 0) 16) ∧
  tX11_end 16 = some (a_zret) ∧
  tX11_end 17 = some (a_aload 0 18) ∧
  tX11_end 18 = some (a_get tT 11 3 21) ∧
  tX11_end 21 = some (a_iload 1 22) ∧
  tX11_end 22 = some (a_put tT 4 0 25) ∧
  tX11_end 25 = some (a_const (nI 1) 26) ∧
  tX11_end 26 = some (a_zret) := ⟨rfl, rfl, rfl, rfl, rfl, rfl, rfl, rfl, rfl, rfl, rfl, rfl, rfl, rfl, rfl⟩
theorem lX11_text_0 : tX11_text 0 = some (a_aload 0 1) ∧
  tX11_text 1 = some (a_get tT 11 3 4) ∧
  tX11_text 4 = some (a_cvI tT mX4_read 4 0 7) ∧
  tX11_text 7 = some (a_istore 1 8) ∧
  tX11_text 8 = some (a_aload 0 9) ∧
  tX11_text 9 = some (a_get tT 11 3 12) ∧
  tX11_text 12 = some (a_const (nI 0) 13) ∧
  tX11_text 13 = some (a_put tT 4 0 16) ∧
  tX11_text 16 = some (a_iload 1 17) ∧
  tX11_text 17 = some (a_if (fun x => x = nI 0) 20 22) ∧
  tX11_text 20 = some (a_const (-1) 21) ∧
  tX11_text 21 = some (a_iret) ∧
  tX11_text 22 = some (a_aload 0 23) ∧
  tX11_text 23 = some (a_get tT 11 0 26) ∧
  tX11_text 26 = some (a_get tT 10 13 29) ∧
  tX11_text 29 = some (a_aload 0 30) ∧
  tX11_text 30 = some (a_get tT 11 3 33) ∧
  tX11_text 33 = some (a_get tT 4 3 36) ∧
  tX11_text 36 = some (a_cvV tT mX3_copyFrom 3 1 39) ∧
  tX11_text 39 = some (a_aload 0 40) ∧
  tX11_text 40 = some (a_get tT 11 0 43) ∧
  tX11_text 43 = some (a_get tT 10 13 46) ∧
  tX11_text 46 = some (a_get tT 3 0 49) ∧
  tX11_text 49 = some (a_iret) := ⟨rfl, rfl, rfl, rfl, rfl, rfl, rfl, rfl, rfl, rfl, rfl, rfl, rfl, rfl, rfl, rfl, rfl, rfl, rfl, rfl, rfl, rfl, rfl, rfl⟩
theorem lX11_fault_0 : tX11_fault 0 = some (a_iload 1 1) ∧
  tX11_fault 1 = some (a_if (fun x => x = nI 0) 4 12) ∧
  tX11_fault 4 = some (a_aload 0 5) ∧
  tX11_fault 5 = some (a_get tT 11 3 8) ∧
  tX11_fault 8 = some (a_get tT 4 1 11) ∧
  tX11_fault 11 = some (a_iret) ∧
  tX11_fault 12 = some (a_iload 1 13) ∧
  tX11_fault 13 = some (a_const (nI 1) 14) ∧
  tX11_fault 14 = some (a_cmp (fun x y => x = y) 17 27) ∧
  tX11_fault 17 = some (a_aload 0 18) ∧
  tX11_fault 18 = some (a_get tT 11 3 21) ∧
  tX11_fault 21 = some (a_get tT 4 2 24) ∧
  tX11_fault 24 = some (a_goto 28) ∧
  tX11_fault 27 = some (a_const (-1) 28) ∧
  tX11_fault 28 = some (a_iret) := ⟨rfl, rfl, rfl, rfl, rfl, rfl, rfl, rfl, rfl, rfl, rfl, rfl, rfl, rfl, rfl⟩
theorem lX11_cross_0 : tX11_cross 0 = some (a_aload 0 1) ∧
  tX11_cross 1 = some (a_get tT 11 0 4) ∧
  tX11_cross 4 = some (a_iload 1 5) ∧
  tX11_cross 5 = some (a_cvI tT mX10_isPerson 10 1 8) ∧
  tX11_cross 8 = some (a_if (fun x => x = nI 0) 23 11) ∧
  tX11_cross 11 = some (a_aload 0 12) ∧
  tX11_cross 12 = some (a_get tT 11 0 15) ∧
  tX11_cross 15 = some (a_iload 1 16) ∧
  tX11_cross 16 = some (a_iload 2 17) ∧
  tX11_cross 17 = some (a_cvI tT mX10_standsAt 10 2 20) ∧
  tX11_cross 20 = some (a_if (fun x => x = nI 0) 23 25) ∧
  tX11_cross 23 = some (a_const (-1) 24) ∧
  tX11_cross 24 = some (a_iret) ∧
  tX11_cross 25 = some (a_aload 0 26) ∧
  tX11_cross 26 = some (a_get tT 11 5 29) ∧
  tX11_cross 29 = some (a_iload 1 30) ∧
  tX11_cross 30 = some (a_iload 2 31) ∧
  tX11_cross 31 = some (a_cvI tT mX7_due 7 2 34) ∧
  tX11_cross 34 = some (a_istore 3 35) ∧
  tX11_cross 35 = some (a_iload 3 36) ∧
  tX11_cross 36 = some (a_const (-2) 38) ∧
  tX11_cross 38 = some (a_cmp (fun x y => x = y) 41 44) ∧
  tX11_cross 41 = some (a_const (-2) 43) ∧
  tX11_cross 43 = some (a_iret) := ⟨rfl, rfl, rfl, rfl, rfl, rfl, rfl, rfl, rfl, rfl, rfl, rfl, rfl, rfl, rfl, rfl, rfl, rfl, rfl, rfl, rfl, rfl, rfl, rfl⟩
theorem lX11_cross_1 : tX11_cross 44 = some (a_aload 0 45) ∧
  tX11_cross 45 = some (a_get tT 11 0 48) ∧
  tX11_cross 48 = some (a_get tT 10 11 51) ∧
  tX11_cross 51 = some (a_get tT 5 4 54) ∧
  tX11_cross 54 = some (a_iload 1 55) ∧
  tX11_cross 55 = some (a_iald tT 56) ∧
  tX11_cross 56 = some (a_istore 4 58) ∧
  tX11_cross 58 = some (a_aload 0 59) ∧
  tX11_cross 59 = some (a_get tT 11 5 62) ∧
  tX11_cross 62 = some (a_iload 1 63) ∧
  tX11_cross 63 = some (a_iload 2 64) ∧
  tX11_cross 64 = some (a_iload 3 65) ∧
  tX11_cross 65 = some (a_cvI tT mX7_pass 7 3 68) ∧
  tX11_cross 68 = some (a_istore 5 70) ∧
  tX11_cross 70 = some (a_const (nI 0) 71) ∧
  tX11_cross 71 = some (a_istore 6 73) ∧
  tX11_cross 73 = some (a_iload 3 74) ∧
  tX11_cross 74 = some (a_const (nI 100) 76) ∧
  tX11_cross 76 = some (a_cmp (fun x y => x = y) 111 79) ∧
  tX11_cross 79 = some (a_aload 0 80) ∧
  tX11_cross 80 = some (a_get tT 11 0 83) ∧
  tX11_cross 83 = some (a_get tT 10 11 86) ∧
  tX11_cross 86 = some (a_get tT 5 4 89) ∧
  tX11_cross 89 = some (a_iload 1 90) := ⟨rfl, rfl, rfl, rfl, rfl, rfl, rfl, rfl, rfl, rfl, rfl, rfl, rfl, rfl, rfl, rfl, rfl, rfl, rfl, rfl, rfl, rfl, rfl, rfl⟩
theorem lX11_cross_2 : tX11_cross 90 = some (a_dup2 91) ∧
  tX11_cross 91 = some (a_iald tT 92) ∧
  tX11_cross 92 = some (a_const (nI 1) 93) ∧
  tX11_cross 93 = some (a_iload 5 95) ∧
  tX11_cross 95 = some (a_bin (fun x y => x <<< (y &&& 31)) 96) ∧
  tX11_cross 96 = some (a_bin (fun x y => x ||| y) 97) ∧
  tX11_cross 97 = some (a_iast tT 98) ∧
  tX11_cross 98 = some (a_aload 0 99) ∧
  tX11_cross 99 = some (a_get tT 11 0 102) ∧
  tX11_cross 102 = some (a_iload 1 103) ∧
  tX11_cross 103 = some (a_iload 2 104) ∧
  tX11_cross 104 = some (a_iload 5 106) ∧
  tX11_cross 106 = some (a_cvI tT mX10_enter 10 3 109) ∧
  tX11_cross 109 = some (a_istore 6 111) ∧
  tX11_cross 111 = some (a_aload 0 112) ∧
  tX11_cross 112 = some (a_get tT 11 4 115) ∧
  tX11_cross 115 = some (a_iload 1 116) ∧
  tX11_cross 116 = some (a_iload 2 117) ∧
  tX11_cross 117 = some (a_iload 3 118) ∧
  tX11_cross 118 = some (a_iload 5 120) ∧
  tX11_cross 120 = some (a_iload 4 122) ∧
  tX11_cross 122 = some (a_iload 6 124) ∧
  tX11_cross 124 = some (a_cvV tT mX8_add 8 6 127) ∧
  tX11_cross 127 = some (a_iload 5 129) := ⟨rfl, rfl, rfl, rfl, rfl, rfl, rfl, rfl, rfl, rfl, rfl, rfl, rfl, rfl, rfl, rfl, rfl, rfl, rfl, rfl, rfl, rfl, rfl, rfl⟩
theorem lX11_cross_3 : tX11_cross 129 = some (a_iret) := rfl
theorem lX11_take_0 : tX11_take 0 = some (a_aload 0 1) ∧
  tX11_take 1 = some (a_get tT 11 0 4) ∧
  tX11_take 4 = some (a_iload 1 5) ∧
  tX11_take 5 = some (a_cvI tT mX10_isPerson 10 1 8) ∧
  tX11_take 8 = some (a_if (fun x => x = nI 0) 34 11) ∧
  tX11_take 11 = some (a_aload 0 12) ∧
  tX11_take 12 = some (a_get tT 11 0 15) ∧
  tX11_take 15 = some (a_iload 3 16) ∧
  tX11_take 16 = some (a_cvI tT mX10_isName 10 1 19) ∧
  tX11_take 19 = some (a_if (fun x => x = nI 0) 34 22) ∧
  tX11_take 22 = some (a_aload 0 23) ∧
  tX11_take 23 = some (a_get tT 11 0 26) ∧
  tX11_take 26 = some (a_iload 1 27) ∧
  tX11_take 27 = some (a_iload 2 28) ∧
  tX11_take 28 = some (a_cvI tT mX10_standsAt 10 2 31) ∧
  tX11_take 31 = some (a_if (fun x => x = nI 0) 34 36) ∧
  tX11_take 34 = some (a_const (nI 0) 35) ∧
  tX11_take 35 = some (a_zret) ∧
  tX11_take 36 = some (a_aload 0 37) ∧
  tX11_take 37 = some (a_get tT 11 0 40) ∧
  tX11_take 40 = some (a_get tT 10 12 43) ∧
  tX11_take 43 = some (a_iload 2 44) ∧
  tX11_take 44 = some (a_iload 3 45) ∧
  tX11_take 45 = some (a_cvI tT mX2_keptOf 2 2 48) := ⟨rfl, rfl, rfl, rfl, rfl, rfl, rfl, rfl, rfl, rfl, rfl, rfl, rfl, rfl, rfl, rfl, rfl, rfl, rfl, rfl, rfl, rfl, rfl, rfl⟩
theorem lX11_take_1 : tX11_take 48 = some (a_const (nI 1) 49) ∧
  tX11_take 49 = some (a_cmp (fun x y => x < y) 67 52) ∧
  tX11_take 52 = some (a_aload 0 53) ∧
  tX11_take 53 = some (a_get tT 11 0 56) ∧
  tX11_take 56 = some (a_get tT 10 11 59) ∧
  tX11_take 59 = some (a_iload 1 60) ∧
  tX11_take 60 = some (a_iload 3 61) ∧
  tX11_take 61 = some (a_cvI tT mX5_canGain 5 2 64) ∧
  tX11_take 64 = some (a_if (fun x => x = nI 0) 67 69) ∧
  tX11_take 67 = some (a_const (nI 0) 68) ∧
  tX11_take 68 = some (a_zret) ∧
  tX11_take 69 = some (a_aload 0 70) ∧
  tX11_take 70 = some (a_get tT 11 4 73) ∧
  tX11_take 73 = some (a_cvV tT mX8_forget 8 0 76) ∧
  tX11_take 76 = some (a_aload 0 77) ∧
  tX11_take 77 = some (a_get tT 11 0 80) ∧
  tX11_take 80 = some (a_get tT 10 12 83) ∧
  tX11_take 83 = some (a_iload 2 84) ∧
  tX11_take 84 = some (a_iload 3 85) ∧
  tX11_take 85 = some (a_const (-1) 86) ∧
  tX11_take 86 = some (a_cvV tT mX2_changeKept 2 3 89) ∧
  tX11_take 89 = some (a_aload 0 90) ∧
  tX11_take 90 = some (a_get tT 11 0 93) ∧
  tX11_take 93 = some (a_get tT 10 11 96) := ⟨rfl, rfl, rfl, rfl, rfl, rfl, rfl, rfl, rfl, rfl, rfl, rfl, rfl, rfl, rfl, rfl, rfl, rfl, rfl, rfl, rfl, rfl, rfl, rfl⟩
theorem lX11_take_2 : tX11_take 96 = some (a_iload 1 97) ∧
  tX11_take 97 = some (a_iload 3 98) ∧
  tX11_take 98 = some (a_cvV tT mX5_append 5 2 101) ∧
  tX11_take 101 = some (a_const (nI 1) 102) ∧
  tX11_take 102 = some (a_zret) := ⟨rfl, rfl, rfl, rfl, rfl⟩
theorem lX11_day_0 : tX11_day 0 = some (a_aload 0 1) ∧
  tX11_day 1 = some (a_get tT 11 0 4) ∧
  tX11_day 4 = some (a_get tT 10 3 7) ∧
  tX11_day 7 = some (a_const (nI 9999) 10) ∧
  tX11_day 10 = some (a_cmp (fun x y => x < y) 15 13) ∧
  tX11_day 13 = some (a_const (-1) 14) ∧
  tX11_day 14 = some (a_iret) ∧
  tX11_day 15 = some (a_aload 0 16) ∧
  tX11_day 16 = some (a_get tT 11 4 19) ∧
  tX11_day 19 = some (a_cvV tT mX8_forget 8 0 22) ∧
  tX11_day 22 = some (a_aload 0 23) ∧
  tX11_day 23 = some (a_get tT 11 0 26) ∧
  tX11_day 26 = some (a_dup 27) ∧
  tX11_day 27 = some (a_get tT 10 3 30) ∧
  tX11_day 30 = some (a_const (nI 1) 31) ∧
  tX11_day 31 = some (a_bin (fun x y => x + y) 32) ∧
  tX11_day 32 = some (a_put tT 10 3 35) ∧
  tX11_day 35 = some (a_const (nI 0) 36) ∧
  tX11_day 36 = some (a_istore 1 37) ∧
  tX11_day 37 = some (a_const (nI 0) 38) ∧
  tX11_day 38 = some (a_istore 2 39) ∧
  tX11_day 39 = some (a_iload 2 40) ∧
  tX11_day 40 = some (a_aload 0 41) ∧
  tX11_day 41 = some (a_get tT 11 0 44) := ⟨rfl, rfl, rfl, rfl, rfl, rfl, rfl, rfl, rfl, rfl, rfl, rfl, rfl, rfl, rfl, rfl, rfl, rfl, rfl, rfl, rfl, rfl, rfl, rfl⟩
theorem lX11_day_1 : tX11_day 44 = some (a_get tT 10 11 47) ∧
  tX11_day 47 = some (a_get tT 5 0 50) ∧
  tX11_day 50 = some (a_cmp (fun x y => y ≤ x) 73 53) ∧
  tX11_day 53 = some (a_aload 0 54) ∧
  tX11_day 54 = some (a_get tT 11 0 57) ∧
  tX11_day 57 = some (a_iload 2 58) ∧
  tX11_day 58 = some (a_cvI tT mX10_growBack 10 1 61) ∧
  tX11_day 61 = some (a_if (fun x => x = nI 0) 67 64) ∧
  tX11_day 64 = some (a_iinc 1 (nI 1) 67) ∧
  tX11_day 67 = some (a_iinc 2 (nI 1) 70) ∧
  tX11_day 70 = some (a_goto 39) ∧
  tX11_day 73 = some (a_iload 1 74) ∧
  tX11_day 74 = some (a_iret) := ⟨rfl, rfl, rfl, rfl, rfl, rfl, rfl, rfl, rfl, rfl, rfl, rfl, rfl⟩
theorem lX11_of_0 : tX11_of 0 = some (a_aload 0 1) ∧
  tX11_of 1 = some (a_get tT 11 0 4) ∧
  tX11_of 4 = some (a_iload 1 5) ∧
  tX11_of 5 = some (a_cvI tT mX10_isPerson 10 1 8) ∧
  tX11_of 8 = some (a_if (fun x => x = nI 0) 11 13) ∧
  tX11_of 11 = some (a_const (-1) 12) ∧
  tX11_of 12 = some (a_iret) ∧
  tX11_of 13 = some (a_aload 0 14) ∧
  tX11_of 14 = some (a_get tT 11 0 17) ∧
  tX11_of 17 = some (a_get tT 10 11 20) ∧
  tX11_of 20 = some (a_astore 3 21) ∧
  tX11_of 21 = some (a_iload 2 22) ∧
  tX11_of 22 = some (a_sw [(nI 0, 64), (nI 1, 71), (nI 2, 78), (nI 3, 85), (nI 4, 94), (nI 5, 101), (nI 6, 108)] 115) ∧
  tX11_of 64 = some (a_aload 3 65) ∧
  tX11_of 65 = some (a_get tT 5 1 68) ∧
  tX11_of 68 = some (a_iload 1 69) ∧
  tX11_of 69 = some (a_iald tT 70) ∧
  tX11_of 70 = some (a_iret) ∧
  tX11_of 71 = some (a_aload 3 72) ∧
  tX11_of 72 = some (a_get tT 5 2 75) ∧
  tX11_of 75 = some (a_iload 1 76) ∧
  tX11_of 76 = some (a_iald tT 77) ∧
  tX11_of 77 = some (a_iret) ∧
  tX11_of 78 = some (a_aload 3 79) := ⟨rfl, rfl, rfl, rfl, rfl, rfl, rfl, rfl, rfl, rfl, rfl, rfl, rfl, rfl, rfl, rfl, rfl, rfl, rfl, rfl, rfl, rfl, rfl, rfl⟩
theorem lX11_of_1 : tX11_of 79 = some (a_get tT 5 6 82) ∧
  tX11_of 82 = some (a_iload 1 83) ∧
  tX11_of 83 = some (a_iald tT 84) ∧
  tX11_of 84 = some (a_iret) ∧
  tX11_of 85 = some (a_aload 0 86) ∧
  tX11_of 86 = some (a_get tT 11 0 89) ∧
  tX11_of 89 = some (a_iload 1 90) ∧
  tX11_of 90 = some (a_cvI tT mX10_lettersOf 10 1 93) ∧
  tX11_of 93 = some (a_iret) ∧
  tX11_of 94 = some (a_aload 3 95) ∧
  tX11_of 95 = some (a_get tT 5 3 98) ∧
  tX11_of 98 = some (a_iload 1 99) ∧
  tX11_of 99 = some (a_iald tT 100) ∧
  tX11_of 100 = some (a_iret) ∧
  tX11_of 101 = some (a_aload 3 102) ∧
  tX11_of 102 = some (a_get tT 5 4 105) ∧
  tX11_of 105 = some (a_iload 1 106) ∧
  tX11_of 106 = some (a_iald tT 107) ∧
  tX11_of 107 = some (a_iret) ∧
  tX11_of 108 = some (a_aload 3 109) ∧
  tX11_of 109 = some (a_get tT 5 5 112) ∧
  tX11_of 112 = some (a_iload 1 113) ∧
  tX11_of 113 = some (a_iald tT 114) ∧
  tX11_of 114 = some (a_iret) := ⟨rfl, rfl, rfl, rfl, rfl, rfl, rfl, rfl, rfl, rfl, rfl, rfl, rfl, rfl, rfl, rfl, rfl, rfl, rfl, rfl, rfl, rfl, rfl, rfl⟩
theorem lX11_of_2 : tX11_of 115 = some (a_iload 2 116) ∧
  tX11_of 116 = some (a_aload 3 117) ∧
  tX11_of 117 = some (a_get tT 5 6 120) ∧
  tX11_of 120 = some (a_iload 1 121) ∧
  tX11_of 121 = some (a_iald tT 122) ∧
  tX11_of 122 = some (a_csI mX11_isPart 2 125) ∧
  tX11_of 125 = some (a_if (fun x => x = nI 0) 140 128) ∧
  tX11_of 128 = some (a_aload 3 129) ∧
  tX11_of 129 = some (a_iload 1 130) ∧
  tX11_of 130 = some (a_iload 2 131) ∧
  tX11_of 131 = some (a_const (nI 10) 133) ∧
  tX11_of 133 = some (a_bin (fun x y => x - y) 134) ∧
  tX11_of 134 = some (a_cvI tT mX5_nameAt 5 2 137) ∧
  tX11_of 137 = some (a_goto 141) ∧
  tX11_of 140 = some (a_const (-1) 141) ∧
  tX11_of 141 = some (a_iret) := ⟨rfl, rfl, rfl, rfl, rfl, rfl, rfl, rfl, rfl, rfl, rfl, rfl, rfl, rfl, rfl, rfl⟩
theorem lX11_kept_0 : tX11_kept 0 = some (a_aload 0 1) ∧
  tX11_kept 1 = some (a_get tT 11 0 4) ∧
  tX11_kept 4 = some (a_iload 1 5) ∧
  tX11_kept 5 = some (a_cvI tT mX10_isBridge 10 1 8) ∧
  tX11_kept 8 = some (a_if (fun x => x = nI 0) 37 11) ∧
  tX11_kept 11 = some (a_aload 0 12) ∧
  tX11_kept 12 = some (a_get tT 11 0 15) ∧
  tX11_kept 15 = some (a_iload 2 16) ∧
  tX11_kept 16 = some (a_cvI tT mX10_isName 10 1 19) ∧
  tX11_kept 19 = some (a_if (fun x => x = nI 0) 37 22) ∧
  tX11_kept 22 = some (a_aload 0 23) ∧
  tX11_kept 23 = some (a_get tT 11 0 26) ∧
  tX11_kept 26 = some (a_get tT 10 12 29) ∧
  tX11_kept 29 = some (a_iload 1 30) ∧
  tX11_kept 30 = some (a_iload 2 31) ∧
  tX11_kept 31 = some (a_cvI tT mX2_keptOf 2 2 34) ∧
  tX11_kept 34 = some (a_goto 38) ∧
  tX11_kept 37 = some (a_const (-1) 38) ∧
  tX11_kept 38 = some (a_iret) := ⟨rfl, rfl, rfl, rfl, rfl, rfl, rfl, rfl, rfl, rfl, rfl, rfl, rfl, rfl, rfl, rfl, rfl, rfl, rfl⟩
theorem lX11_book_0 : tX11_book 0 = some (a_iload 1 1) ∧
  tX11_book 1 = some (a_const (nI 0) 2) ∧
  tX11_book 2 = some (a_aload 0 3) ∧
  tX11_book 3 = some (a_get tT 11 0 6) ∧
  tX11_book 6 = some (a_get tT 10 7 9) ∧
  tX11_book 9 = some (a_const (nI 1) 10) ∧
  tX11_book 10 = some (a_bin (fun x y => x - y) 11) ∧
  tX11_book 11 = some (a_csI mX11_within 3 14) ∧
  tX11_book 14 = some (a_if (fun x => x = nI 0) 26 17) ∧
  tX11_book 17 = some (a_iload 2 18) ∧
  tX11_book 18 = some (a_const (nI 0) 19) ∧
  tX11_book 19 = some (a_const (nI 3) 20) ∧
  tX11_book 20 = some (a_csI mX11_within 3 23) ∧
  tX11_book 23 = some (a_if (fun x => x = nI 0) 26 28) ∧
  tX11_book 26 = some (a_const (-1) 27) ∧
  tX11_book 27 = some (a_iret) ∧
  tX11_book 28 = some (a_aload 0 29) ∧
  tX11_book 29 = some (a_get tT 11 0 32) ∧
  tX11_book 32 = some (a_get tT 10 8 35) ∧
  tX11_book 35 = some (a_iload 1 36) ∧
  tX11_book 36 = some (a_const (nI 4) 37) ∧
  tX11_book 37 = some (a_bin (fun x y => x * y) 38) ∧
  tX11_book 38 = some (a_iload 2 39) ∧
  tX11_book 39 = some (a_bin (fun x y => x + y) 40) := ⟨rfl, rfl, rfl, rfl, rfl, rfl, rfl, rfl, rfl, rfl, rfl, rfl, rfl, rfl, rfl, rfl, rfl, rfl, rfl, rfl, rfl, rfl, rfl, rfl⟩
theorem lX11_book_1 : tX11_book 40 = some (a_iald tT 41) ∧
  tX11_book 41 = some (a_iret) := ⟨rfl, rfl⟩
theorem lX11_called_0 : tX11_called 0 = some (a_iload 1 1) ∧
  tX11_called 1 = some (a_csI mX11_isPlace 1 4) ∧
  tX11_called 4 = some (a_if (fun x => x = nI 0) 18 7) ∧
  tX11_called 7 = some (a_aload 0 8) ∧
  tX11_called 8 = some (a_get tT 11 0 11) ∧
  tX11_called 11 = some (a_iload 2 12) ∧
  tX11_called 12 = some (a_cvI tT mX10_isName 10 1 15) ∧
  tX11_called 15 = some (a_if (fun x => x = nI 0) 18 20) ∧
  tX11_called 18 = some (a_const (-1) 19) ∧
  tX11_called 19 = some (a_iret) ∧
  tX11_called 20 = some (a_const (nI 0) 21) ∧
  tX11_called 21 = some (a_istore 3 22) ∧
  tX11_called 22 = some (a_const (nI 0) 23) ∧
  tX11_called 23 = some (a_istore 4 25) ∧
  tX11_called 25 = some (a_iload 4 27) ∧
  tX11_called 27 = some (a_aload 0 28) ∧
  tX11_called 28 = some (a_get tT 11 0 31) ∧
  tX11_called 31 = some (a_get tT 10 11 34) ∧
  tX11_called 34 = some (a_get tT 5 0 37) ∧
  tX11_called 37 = some (a_cmp (fun x y => y ≤ x) 86 40) ∧
  tX11_called 40 = some (a_aload 0 41) ∧
  tX11_called 41 = some (a_get tT 11 0 44) ∧
  tX11_called 44 = some (a_get tT 10 11 47) ∧
  tX11_called 47 = some (a_get tT 5 1 50) := ⟨rfl, rfl, rfl, rfl, rfl, rfl, rfl, rfl, rfl, rfl, rfl, rfl, rfl, rfl, rfl, rfl, rfl, rfl, rfl, rfl, rfl, rfl, rfl, rfl⟩
theorem lX11_called_1 : tX11_called 50 = some (a_iload 4 52) ∧
  tX11_called 52 = some (a_iald tT 53) ∧
  tX11_called 53 = some (a_iload 1 54) ∧
  tX11_called 54 = some (a_cmp (fun x y => x = y) 57 80) ∧
  tX11_called 57 = some (a_aload 0 58) ∧
  tX11_called 58 = some (a_get tT 11 0 61) ∧
  tX11_called 61 = some (a_get tT 10 11 64) ∧
  tX11_called 64 = some (a_iload 4 66) ∧
  tX11_called 66 = some (a_iload 2 67) ∧
  tX11_called 67 = some (a_cvI tT mX5_hasName 5 2 70) ∧
  tX11_called 70 = some (a_if (fun x => x = nI 0) 80 73) ∧
  tX11_called 73 = some (a_iload 3 74) ∧
  tX11_called 74 = some (a_const (nI 1) 75) ∧
  tX11_called 75 = some (a_iload 4 77) ∧
  tX11_called 77 = some (a_bin (fun x y => x <<< (y &&& 31)) 78) ∧
  tX11_called 78 = some (a_bin (fun x y => x ||| y) 79) ∧
  tX11_called 79 = some (a_istore 3 80) ∧
  tX11_called 80 = some (a_iinc 4 (nI 1) 83) ∧
  tX11_called 83 = some (a_goto 25) ∧
  tX11_called 86 = some (a_iload 3 87) ∧
  tX11_called 87 = some (a_iret) := ⟨rfl, rfl, rfl, rfl, rfl, rfl, rfl, rfl, rfl, rfl, rfl, rfl, rfl, rfl, rfl, rfl, rfl, rfl, rfl, rfl, rfl⟩
theorem lX11_alone_0 : tX11_alone 0 = some (a_iload 1 1) ∧
  tX11_alone 1 = some (a_csI mX11_isPlace 1 4) ∧
  tX11_alone 4 = some (a_if (fun x => x = nI 0) 31 7) ∧
  tX11_alone 7 = some (a_aload 0 8) ∧
  tX11_alone 8 = some (a_get tT 11 0 11) ∧
  tX11_alone 11 = some (a_get tT 10 11 14) ∧
  tX11_alone 14 = some (a_aload 0 15) ∧
  tX11_alone 15 = some (a_get tT 11 0 18) ∧
  tX11_alone 18 = some (a_get tT 10 11 21) ∧
  tX11_alone 21 = some (a_iload 1 22) ∧
  tX11_alone 22 = some (a_cvI tT mX5_at 5 1 25) ∧
  tX11_alone 25 = some (a_cvI tT mX5_aloneAmong 5 1 28) ∧
  tX11_alone 28 = some (a_goto 32) ∧
  tX11_alone 31 = some (a_const (-1) 32) ∧
  tX11_alone 32 = some (a_iret) := ⟨rfl, rfl, rfl, rfl, rfl, rfl, rfl, rfl, rfl, rfl, rfl, rfl, rfl, rfl, rfl⟩
theorem lX11_cousins_0 : tX11_cousins 0 = some (a_aload 0 1) ∧
  tX11_cousins 1 = some (a_get tT 11 0 4) ∧
  tX11_cousins 4 = some (a_iload 1 5) ∧
  tX11_cousins 5 = some (a_cvI tT mX10_isPerson 10 1 8) ∧
  tX11_cousins 8 = some (a_if (fun x => x = nI 0) 25 11) ∧
  tX11_cousins 11 = some (a_aload 0 12) ∧
  tX11_cousins 12 = some (a_get tT 11 0 15) ∧
  tX11_cousins 15 = some (a_get tT 10 11 18) ∧
  tX11_cousins 18 = some (a_iload 1 19) ∧
  tX11_cousins 19 = some (a_cvI tT mX5_cousinsOf 5 1 22) ∧
  tX11_cousins 22 = some (a_goto 26) ∧
  tX11_cousins 25 = some (a_const (-1) 26) ∧
  tX11_cousins 26 = some (a_iret) := ⟨rfl, rfl, rfl, rfl, rfl, rfl, rfl, rfl, rfl, rfl, rfl, rfl, rfl⟩
theorem lX11_estate_0 : tX11_estate 0 = some (a_aload 0 1) ∧
  tX11_estate 1 = some (a_get tT 11 0 4) ∧
  tX11_estate 4 = some (a_iload 1 5) ∧
  tX11_estate 5 = some (a_cvI tT mX10_isPerson 10 1 8) ∧
  tX11_estate 8 = some (a_if (fun x => x = nI 0) 11 13) ∧
  tX11_estate 11 = some (a_const (-1) 12) ∧
  tX11_estate 12 = some (a_iret) ∧
  tX11_estate 13 = some (a_aload 0 14) ∧
  tX11_estate 14 = some (a_get tT 11 0 17) ∧
  tX11_estate 17 = some (a_get tT 10 11 20) ∧
  tX11_estate 20 = some (a_iload 1 21) ∧
  tX11_estate 21 = some (a_cvI tT mX5_cousinsOf 5 1 24) ∧
  tX11_estate 24 = some (a_csI mJ6_bitCount_0f7a4 1 27) ∧
  tX11_estate 27 = some (a_istore 2 28) ∧
  tX11_estate 28 = some (a_iload 2 29) ∧
  tX11_estate 29 = some (a_if (fun x => x = nI 0) 32 36) ∧
  tX11_estate 32 = some (a_const (-1) 33) ∧
  tX11_estate 33 = some (a_goto 50) ∧
  tX11_estate 36 = some (a_aload 0 37) ∧
  tX11_estate 37 = some (a_get tT 11 0 40) ∧
  tX11_estate 40 = some (a_get tT 10 11 43) ∧
  tX11_estate 43 = some (a_get tT 5 2 46) ∧
  tX11_estate 46 = some (a_iload 1 47) ∧
  tX11_estate 47 = some (a_iald tT 48) := ⟨rfl, rfl, rfl, rfl, rfl, rfl, rfl, rfl, rfl, rfl, rfl, rfl, rfl, rfl, rfl, rfl, rfl, rfl, rfl, rfl, rfl, rfl, rfl, rfl⟩
theorem lX11_estate_1 : tX11_estate 48 = some (a_iload 2 49) ∧
  tX11_estate 49 = some (a_divr (fun x y => x / y) 50) ∧
  tX11_estate 50 = some (a_iret) := ⟨rfl, rfl, rfl⟩
theorem lX11_behind_0 : tX11_behind 0 = some (a_aload 0 1) ∧
  tX11_behind 1 = some (a_get tT 11 0 4) ∧
  tX11_behind 4 = some (a_iload 1 5) ∧
  tX11_behind 5 = some (a_cvI tT mX10_isPerson 10 1 8) ∧
  tX11_behind 8 = some (a_if (fun x => x = nI 0) 11 13) ∧
  tX11_behind 11 = some (a_const (-1) 12) ∧
  tX11_behind 12 = some (a_iret) ∧
  tX11_behind 13 = some (a_aload 0 14) ∧
  tX11_behind 14 = some (a_get tT 11 6 17) ∧
  tX11_behind 17 = some (a_iload 2 18) ∧
  tX11_behind 18 = some (a_iload 3 19) ∧
  tX11_behind 19 = some (a_iload 4 21) ∧
  tX11_behind 21 = some (a_iload 5 23) ∧
  tX11_behind 23 = some (a_iload 6 25) ∧
  tX11_behind 25 = some (a_cvV tT mX9_startWay 9 5 28) ∧
  tX11_behind 28 = some (a_aload 0 29) ∧
  tX11_behind 29 = some (a_get tT 11 6 32) ∧
  tX11_behind 32 = some (a_aload 0 33) ∧
  tX11_behind 33 = some (a_get tT 11 0 36) ∧
  tX11_behind 36 = some (a_get tT 10 11 39) ∧
  tX11_behind 39 = some (a_get tT 5 1 42) ∧
  tX11_behind 42 = some (a_iload 1 43) ∧
  tX11_behind 43 = some (a_iald tT 44) ∧
  tX11_behind 44 = some (a_cvI tT mX9_canBe 9 1 47) := ⟨rfl, rfl, rfl, rfl, rfl, rfl, rfl, rfl, rfl, rfl, rfl, rfl, rfl, rfl, rfl, rfl, rfl, rfl, rfl, rfl, rfl, rfl, rfl, rfl⟩
theorem lX11_behind_1 : tX11_behind 47 = some (a_if (fun x => x = nI 0) 50 52) ∧
  tX11_behind 50 = some (a_const (-1) 51) ∧
  tX11_behind 51 = some (a_iret) ∧
  tX11_behind 52 = some (a_aload 0 53) ∧
  tX11_behind 53 = some (a_get tT 11 6 56) ∧
  tX11_behind 56 = some (a_iload 1 57) ∧
  tX11_behind 57 = some (a_cvI tT mX9_go 9 1 60) ∧
  tX11_behind 60 = some (a_istore 7 62) ∧
  tX11_behind 62 = some (a_aload 0 63) ∧
  tX11_behind 63 = some (a_get tT 11 0 66) ∧
  tX11_behind 66 = some (a_get tT 10 11 69) ∧
  tX11_behind 69 = some (a_get tT 5 5 72) ∧
  tX11_behind 72 = some (a_iload 1 73) ∧
  tX11_behind 73 = some (a_iald tT 74) ∧
  tX11_behind 74 = some (a_istore 8 76) ∧
  tX11_behind 76 = some (a_aload 0 77) ∧
  tX11_behind 77 = some (a_get tT 11 6 80) ∧
  tX11_behind 80 = some (a_iload 1 81) ∧
  tX11_behind 81 = some (a_cvV tT mX9_back 9 1 84) ∧
  tX11_behind 84 = some (a_iload 7 86) ∧
  tX11_behind 86 = some (a_if (fun x => x = nI 0) 94 89) ∧
  tX11_behind 89 = some (a_iload 8 91) ∧
  tX11_behind 91 = some (a_goto 96) ∧
  tX11_behind 94 = some (a_const (-2) 96) := ⟨rfl, rfl, rfl, rfl, rfl, rfl, rfl, rfl, rfl, rfl, rfl, rfl, rfl, rfl, rfl, rfl, rfl, rfl, rfl, rfl, rfl, rfl, rfl, rfl⟩
theorem lX11_behind_2 : tX11_behind 96 = some (a_iret) := rfl
theorem lX11_best_0 : tX11_best 0 = some (a_aload 0 1) ∧
  tX11_best 1 = some (a_get tT 11 0 4) ∧
  tX11_best 4 = some (a_iload 1 5) ∧
  tX11_best 5 = some (a_cvI tT mX10_isPerson 10 1 8) ∧
  tX11_best 8 = some (a_if (fun x => x = nI 0) 34 11) ∧
  tX11_best 11 = some (a_iload 2 12) ∧
  tX11_best 12 = some (a_csI mX11_isPlace 1 15) ∧
  tX11_best 15 = some (a_if (fun x => x = nI 0) 34 18) ∧
  tX11_best 18 = some (a_aload 0 19) ∧
  tX11_best 19 = some (a_get tT 11 0 22) ∧
  tX11_best 22 = some (a_get tT 10 11 25) ∧
  tX11_best 25 = some (a_get tT 5 1 28) ∧
  tX11_best 28 = some (a_iload 1 29) ∧
  tX11_best 29 = some (a_iald tT 30) ∧
  tX11_best 30 = some (a_iload 2 31) ∧
  tX11_best 31 = some (a_cmp (fun x y => x = y) 34 36) ∧
  tX11_best 34 = some (a_const (-1) 35) ∧
  tX11_best 35 = some (a_iret) ∧
  tX11_best 36 = some (a_aload 0 37) ∧
  tX11_best 37 = some (a_get tT 11 7 40) ∧
  tX11_best 40 = some (a_iload 1 41) ∧
  tX11_best 41 = some (a_iload 2 42) ∧
  tX11_best 42 = some (a_cvI tT mX1_find 1 2 45) ∧
  tX11_best 45 = some (a_if (fun x => x = nI 0) 48 50) := ⟨rfl, rfl, rfl, rfl, rfl, rfl, rfl, rfl, rfl, rfl, rfl, rfl, rfl, rfl, rfl, rfl, rfl, rfl, rfl, rfl, rfl, rfl, rfl, rfl⟩
theorem lX11_best_1 : tX11_best 48 = some (a_const (-1) 49) ∧
  tX11_best 49 = some (a_iret) ∧
  tX11_best 50 = some (a_iload 3 51) ∧
  tX11_best 51 = some (a_if (fun x => x = nI 0) 54 62) ∧
  tX11_best 54 = some (a_aload 0 55) ∧
  tX11_best 55 = some (a_get tT 11 7 58) ∧
  tX11_best 58 = some (a_get tT 1 4 61) ∧
  tX11_best 61 = some (a_iret) ∧
  tX11_best 62 = some (a_iload 3 63) ∧
  tX11_best 63 = some (a_const (nI 1) 64) ∧
  tX11_best 64 = some (a_cmp (fun x y => x = y) 67 75) ∧
  tX11_best 67 = some (a_aload 0 68) ∧
  tX11_best 68 = some (a_get tT 11 7 71) ∧
  tX11_best 71 = some (a_get tT 1 5 74) ∧
  tX11_best 74 = some (a_iret) ∧
  tX11_best 75 = some (a_iload 3 76) ∧
  tX11_best 76 = some (a_aload 0 77) ∧
  tX11_best 77 = some (a_get tT 11 7 80) ∧
  tX11_best 80 = some (a_get tT 1 5 83) ∧
  tX11_best 83 = some (a_csI mX11_isPart 2 86) ∧
  tX11_best 86 = some (a_if (fun x => x = nI 0) 104 89) ∧
  tX11_best 89 = some (a_aload 0 90) ∧
  tX11_best 90 = some (a_get tT 11 7 93) ∧
  tX11_best 93 = some (a_get tT 1 6 96) := ⟨rfl, rfl, rfl, rfl, rfl, rfl, rfl, rfl, rfl, rfl, rfl, rfl, rfl, rfl, rfl, rfl, rfl, rfl, rfl, rfl, rfl, rfl, rfl, rfl⟩
theorem lX11_best_2 : tX11_best 96 = some (a_iload 3 97) ∧
  tX11_best 97 = some (a_const (nI 10) 99) ∧
  tX11_best 99 = some (a_bin (fun x y => x - y) 100) ∧
  tX11_best 100 = some (a_iald tT 101) ∧
  tX11_best 101 = some (a_goto 105) ∧
  tX11_best 104 = some (a_const (-1) 105) ∧
  tX11_best 105 = some (a_iret) := ⟨rfl, rfl, rfl, rfl, rfl, rfl, rfl⟩
theorem lX11_round_0 : tX11_round 0 = some (a_iload 1 1) ∧
  tX11_round 1 = some (a_const (-1) 2) ∧
  tX11_round 2 = some (a_cmp (fun x y => x = y) 5 15) ∧
  tX11_round 5 = some (a_aload 0 6) ∧
  tX11_round 6 = some (a_get tT 11 0 9) ∧
  tX11_round 9 = some (a_const (nI 0) 10) ∧
  tX11_round 10 = some (a_put tT 10 9 13) ∧
  tX11_round 13 = some (a_const (nI 0) 14) ∧
  tX11_round 14 = some (a_iret) ∧
  tX11_round 15 = some (a_aload 0 16) ∧
  tX11_round 16 = some (a_get tT 11 0 19) ∧
  tX11_round 19 = some (a_iload 1 20) ∧
  tX11_round 20 = some (a_cvI tT mX10_isBridge 10 1 23) ∧
  tX11_round 23 = some (a_if (fun x => x = nI 0) 38 26) ∧
  tX11_round 26 = some (a_aload 0 27) ∧
  tX11_round 27 = some (a_get tT 11 0 30) ∧
  tX11_round 30 = some (a_get tT 10 9 33) ∧
  tX11_round 33 = some (a_const (nI 12) 35) ∧
  tX11_round 35 = some (a_cmp (fun x y => x < y) 40 38) ∧
  tX11_round 38 = some (a_const (-1) 39) ∧
  tX11_round 39 = some (a_iret) ∧
  tX11_round 40 = some (a_aload 0 41) ∧
  tX11_round 41 = some (a_get tT 11 0 44) ∧
  tX11_round 44 = some (a_get tT 10 10 47) := ⟨rfl, rfl, rfl, rfl, rfl, rfl, rfl, rfl, rfl, rfl, rfl, rfl, rfl, rfl, rfl, rfl, rfl, rfl, rfl, rfl, rfl, rfl, rfl, rfl⟩
theorem lX11_round_1 : tX11_round 47 = some (a_aload 0 48) ∧
  tX11_round 48 = some (a_get tT 11 0 51) ∧
  tX11_round 51 = some (a_get tT 10 9 54) ∧
  tX11_round 54 = some (a_iload 1 55) ∧
  tX11_round 55 = some (a_iast tT 56) ∧
  tX11_round 56 = some (a_aload 0 57) ∧
  tX11_round 57 = some (a_get tT 11 0 60) ∧
  tX11_round 60 = some (a_dup 61) ∧
  tX11_round 61 = some (a_get tT 10 9 64) ∧
  tX11_round 64 = some (a_const (nI 1) 65) ∧
  tX11_round 65 = some (a_bin (fun x y => x + y) 66) ∧
  tX11_round 66 = some (a_put tT 10 9 69) ∧
  tX11_round 69 = some (a_aload 0 70) ∧
  tX11_round 70 = some (a_get tT 11 0 73) ∧
  tX11_round 73 = some (a_get tT 10 9 76) ∧
  tX11_round 76 = some (a_iret) := ⟨rfl, rfl, rfl, rfl, rfl, rfl, rfl, rfl, rfl, rfl, rfl, rfl, rfl, rfl, rfl, rfl⟩
theorem lX11_plan_0 : tX11_plan 0 = some (a_aload 0 1) ∧
  tX11_plan 1 = some (a_get tT 11 0 4) ∧
  tX11_plan 4 = some (a_iload 1 5) ∧
  tX11_plan 5 = some (a_cvI tT mX10_isPerson 10 1 8) ∧
  tX11_plan 8 = some (a_if (fun x => x = nI 0) 23 11) ∧
  tX11_plan 11 = some (a_iload 2 12) ∧
  tX11_plan 12 = some (a_if (fun x => x = nI 0) 25 15) ∧
  tX11_plan 15 = some (a_iload 2 16) ∧
  tX11_plan 16 = some (a_const (nI 3) 17) ∧
  tX11_plan 17 = some (a_csI mX11_isPart 2 20) ∧
  tX11_plan 20 = some (a_if (fun x => x = nI 0) 23 25) ∧
  tX11_plan 23 = some (a_const (-1) 24) ∧
  tX11_plan 24 = some (a_iret) ∧
  tX11_plan 25 = some (a_aload 0 26) ∧
  tX11_plan 26 = some (a_get tT 11 6 29) ∧
  tX11_plan 29 = some (a_cvV tT mX9_startRound 9 0 32) ∧
  tX11_plan 32 = some (a_aload 0 33) ∧
  tX11_plan 33 = some (a_get tT 11 6 36) ∧
  tX11_plan 36 = some (a_aload 0 37) ∧
  tX11_plan 37 = some (a_get tT 11 0 40) ∧
  tX11_plan 40 = some (a_get tT 10 11 43) ∧
  tX11_plan 43 = some (a_get tT 5 1 46) ∧
  tX11_plan 46 = some (a_iload 1 47) ∧
  tX11_plan 47 = some (a_iald tT 48) := ⟨rfl, rfl, rfl, rfl, rfl, rfl, rfl, rfl, rfl, rfl, rfl, rfl, rfl, rfl, rfl, rfl, rfl, rfl, rfl, rfl, rfl, rfl, rfl, rfl⟩
theorem lX11_plan_1 : tX11_plan 48 = some (a_cvI tT mX9_canBe 9 1 51) ∧
  tX11_plan 51 = some (a_if (fun x => x = nI 0) 54 56) ∧
  tX11_plan 54 = some (a_const (-1) 55) ∧
  tX11_plan 55 = some (a_iret) ∧
  tX11_plan 56 = some (a_aload 0 57) ∧
  tX11_plan 57 = some (a_get tT 11 5 60) ∧
  tX11_plan 60 = some (a_cvV tT mX7_remember 7 0 63) ∧
  tX11_plan 63 = some (a_aload 0 64) ∧
  tX11_plan 64 = some (a_get tT 11 8 67) ∧
  tX11_plan 67 = some (a_iload 1 68) ∧
  tX11_plan 68 = some (a_cvI tT mX6_find 6 1 71) ∧
  tX11_plan 71 = some (a_istore 3 72) ∧
  tX11_plan 72 = some (a_aload 0 73) ∧
  tX11_plan 73 = some (a_get tT 11 5 76) ∧
  tX11_plan 76 = some (a_cvV tT mX7_forget 7 0 79) ∧
  tX11_plan 79 = some (a_iload 2 80) ∧
  tX11_plan 80 = some (a_if (fun x => x = nI 0) 83 85) ∧
  tX11_plan 83 = some (a_iload 3 84) ∧
  tX11_plan 84 = some (a_iret) ∧
  tX11_plan 85 = some (a_iload 2 86) ∧
  tX11_plan 86 = some (a_iload 3 87) ∧
  tX11_plan 87 = some (a_csI mX11_isPart 2 90) ∧
  tX11_plan 90 = some (a_if (fun x => x = nI 0) 108 93) ∧
  tX11_plan 93 = some (a_aload 0 94) := ⟨rfl, rfl, rfl, rfl, rfl, rfl, rfl, rfl, rfl, rfl, rfl, rfl, rfl, rfl, rfl, rfl, rfl, rfl, rfl, rfl, rfl, rfl, rfl, rfl⟩
theorem lX11_plan_2 : tX11_plan 94 = some (a_get tT 11 8 97) ∧
  tX11_plan 97 = some (a_get tT 6 2 100) ∧
  tX11_plan 100 = some (a_iload 2 101) ∧
  tX11_plan 101 = some (a_const (nI 10) 103) ∧
  tX11_plan 103 = some (a_bin (fun x y => x - y) 104) ∧
  tX11_plan 104 = some (a_iald tT 105) ∧
  tX11_plan 105 = some (a_goto 109) ∧
  tX11_plan 108 = some (a_const (-1) 109) ∧
  tX11_plan 109 = some (a_iret) := ⟨rfl, rfl, rfl, rfl, rfl, rfl, rfl, rfl, rfl⟩
theorem lX11_night_0 : tX11_night 0 = some (a_aload 0 1) ∧
  tX11_night 1 = some (a_get tT 11 0 4) ∧
  tX11_night 4 = some (a_iload 1 5) ∧
  tX11_night 5 = some (a_cvI tT mX10_isPerson 10 1 8) ∧
  tX11_night 8 = some (a_if (fun x => x = nI 0) 27 11) ∧
  tX11_night 11 = some (a_aload 0 12) ∧
  tX11_night 12 = some (a_get tT 11 0 15) ∧
  tX11_night 15 = some (a_iload 2 16) ∧
  tX11_night 16 = some (a_cvI tT mX10_isPerson 10 1 19) ∧
  tX11_night 19 = some (a_if (fun x => x = nI 0) 27 22) ∧
  tX11_night 22 = some (a_iload 1 23) ∧
  tX11_night 23 = some (a_iload 2 24) ∧
  tX11_night 24 = some (a_cmp (fun x y => x = y) 27 29) ∧
  tX11_night 27 = some (a_const (-1) 28) ∧
  tX11_night 28 = some (a_iret) ∧
  tX11_night 29 = some (a_aload 0 30) ∧
  tX11_night 30 = some (a_get tT 11 0 33) ∧
  tX11_night 33 = some (a_get tT 10 11 36) ∧
  tX11_night 36 = some (a_get tT 5 5 39) ∧
  tX11_night 39 = some (a_iload 2 40) ∧
  tX11_night 40 = some (a_iald tT 41) ∧
  tX11_night 41 = some (a_aload 0 42) ∧
  tX11_night 42 = some (a_get tT 11 0 45) ∧
  tX11_night 45 = some (a_get tT 10 11 48) := ⟨rfl, rfl, rfl, rfl, rfl, rfl, rfl, rfl, rfl, rfl, rfl, rfl, rfl, rfl, rfl, rfl, rfl, rfl, rfl, rfl, rfl, rfl, rfl, rfl⟩
theorem lX11_night_1 : tX11_night 48 = some (a_get tT 5 5 51) ∧
  tX11_night 51 = some (a_iload 1 52) ∧
  tX11_night 52 = some (a_iald tT 53) ∧
  tX11_night 53 = some (a_const (-1) 54) ∧
  tX11_night 54 = some (a_bin (fun x y => x ^^^ y) 55) ∧
  tX11_night 55 = some (a_bin (fun x y => x &&& y) 56) ∧
  tX11_night 56 = some (a_istore 3 57) ∧
  tX11_night 57 = some (a_iload 3 58) ∧
  tX11_night 58 = some (a_csI mJ6_bitCount_0f7a4 1 61) ∧
  tX11_night 61 = some (a_istore 4 63) ∧
  tX11_night 63 = some (a_aload 0 64) ∧
  tX11_night 64 = some (a_get tT 11 0 67) ∧
  tX11_night 67 = some (a_get tT 10 11 70) ∧
  tX11_night 70 = some (a_get tT 5 6 73) ∧
  tX11_night 73 = some (a_iload 1 74) ∧
  tX11_night 74 = some (a_iald tT 75) ∧
  tX11_night 75 = some (a_iload 4 77) ∧
  tX11_night 77 = some (a_bin (fun x y => x + y) 78) ∧
  tX11_night 78 = some (a_const (nI 9) 80) ∧
  tX11_night 80 = some (a_cmp (fun x y => x ≤ y) 85 83) ∧
  tX11_night 83 = some (a_const (-1) 84) ∧
  tX11_night 84 = some (a_iret) ∧
  tX11_night 85 = some (a_const (nI 0) 86) ∧
  tX11_night 86 = some (a_istore 5 88) := ⟨rfl, rfl, rfl, rfl, rfl, rfl, rfl, rfl, rfl, rfl, rfl, rfl, rfl, rfl, rfl, rfl, rfl, rfl, rfl, rfl, rfl, rfl, rfl, rfl⟩
theorem lX11_night_2 : tX11_night 88 = some (a_iload 5 90) ∧
  tX11_night 90 = some (a_aload 0 91) ∧
  tX11_night 91 = some (a_get tT 11 0 94) ∧
  tX11_night 94 = some (a_get tT 10 4 97) ∧
  tX11_night 97 = some (a_cmp (fun x y => y ≤ x) 132 100) ∧
  tX11_night 100 = some (a_iload 3 101) ∧
  tX11_night 101 = some (a_iload 5 103) ∧
  tX11_night 103 = some (a_bin (fun x y => x >>> (y &&& 31)) 104) ∧
  tX11_night 104 = some (a_const (nI 1) 105) ∧
  tX11_night 105 = some (a_bin (fun x y => x &&& y) 106) ∧
  tX11_night 106 = some (a_if (fun x => x = nI 0) 126 109) ∧
  tX11_night 109 = some (a_aload 0 110) ∧
  tX11_night 110 = some (a_get tT 11 0 113) ∧
  tX11_night 113 = some (a_get tT 10 12 116) ∧
  tX11_night 116 = some (a_iload 5 118) ∧
  tX11_night 118 = some (a_cvI tT mX2_someKeeps 2 1 121) ∧
  tX11_night 121 = some (a_if (fun x => x = nI 0) 124 126) ∧
  tX11_night 124 = some (a_const (-1) 125) ∧
  tX11_night 125 = some (a_iret) ∧
  tX11_night 126 = some (a_iinc 5 (nI 1) 129) ∧
  tX11_night 129 = some (a_goto 88) ∧
  tX11_night 132 = some (a_iload 4 134) ∧
  tX11_night 134 = some (a_iret) := ⟨rfl, rfl, rfl, rfl, rfl, rfl, rfl, rfl, rfl, rfl, rfl, rfl, rfl, rfl, rfl, rfl, rfl, rfl, rfl, rfl, rfl, rfl, rfl⟩
theorem lX11_order_0 : tX11_order 0 = some (a_iload 1 1) ∧
  tX11_order 1 = some (a_aload 0 2) ∧
  tX11_order 2 = some (a_get tT 11 0 5) ∧
  tX11_order 5 = some (a_get tT 10 11 8) ∧
  tX11_order 8 = some (a_get tT 5 0 11) ∧
  tX11_order 11 = some (a_bin am_ushr 12) ∧
  tX11_order 12 = some (a_if (fun x => x = nI 0) 15 26) ∧
  tX11_order 15 = some (a_aload 0 16) ∧
  tX11_order 16 = some (a_get tT 11 0 19) ∧
  tX11_order 19 = some (a_iload 2 20) ∧
  tX11_order 20 = some (a_cvI tT mX10_isBridge 10 1 23) ∧
  tX11_order 23 = some (a_if (fun x => x = nI 0) 26 28) ∧
  tX11_order 26 = some (a_const (-1) 27) ∧
  tX11_order 27 = some (a_iret) ∧
  tX11_order 28 = some (a_iload 1 29) ∧
  tX11_order 29 = some (a_csI mJ6_bitCount_0f7a4 1 32) ∧
  tX11_order 32 = some (a_istore 4 34) ∧
  tX11_order 34 = some (a_iload 4 36) ∧
  tX11_order 36 = some (a_const (nI 1) 37) ∧
  tX11_order 37 = some (a_const (nI 6) 39) ∧
  tX11_order 39 = some (a_csI mX11_within 3 42) ∧
  tX11_order 42 = some (a_if (fun x => x = nI 0) 58 45) ∧
  tX11_order 45 = some (a_iload 3 46) ∧
  tX11_order 46 = some (a_if (fun x => x = nI 0) 60 49) := ⟨rfl, rfl, rfl, rfl, rfl, rfl, rfl, rfl, rfl, rfl, rfl, rfl, rfl, rfl, rfl, rfl, rfl, rfl, rfl, rfl, rfl, rfl, rfl, rfl⟩
theorem lX11_order_1 : tX11_order 49 = some (a_iload 3 50) ∧
  tX11_order 50 = some (a_iload 4 52) ∧
  tX11_order 52 = some (a_csI mX11_isPart 2 55) ∧
  tX11_order 55 = some (a_if (fun x => x = nI 0) 58 60) ∧
  tX11_order 58 = some (a_const (-1) 59) ∧
  tX11_order 59 = some (a_iret) ∧
  tX11_order 60 = some (a_aload 0 61) ∧
  tX11_order 61 = some (a_get tT 11 0 64) ∧
  tX11_order 64 = some (a_iload 1 65) ∧
  tX11_order 65 = some (a_iload 2 66) ∧
  tX11_order 66 = some (a_cvI tT mX10_standTogether 10 2 69) ∧
  tX11_order 69 = some (a_if (fun x => x = nI 0) 84 72) ∧
  tX11_order 72 = some (a_aload 0 73) ∧
  tX11_order 73 = some (a_get tT 11 9 76) ∧
  tX11_order 76 = some (a_iload 1 77) ∧
  tX11_order 77 = some (a_iload 2 78) ∧
  tX11_order 78 = some (a_cvI tT mX0_find 0 2 81) ∧
  tX11_order 81 = some (a_if (fun x => x = nI 0) 84 86) ∧
  tX11_order 84 = some (a_const (-1) 85) ∧
  tX11_order 85 = some (a_iret) ∧
  tX11_order 86 = some (a_iload 3 87) ∧
  tX11_order 87 = some (a_if (fun x => x = nI 0) 90 100) ∧
  tX11_order 90 = some (a_aload 0 91) ∧
  tX11_order 91 = some (a_get tT 11 9 94) := ⟨rfl, rfl, rfl, rfl, rfl, rfl, rfl, rfl, rfl, rfl, rfl, rfl, rfl, rfl, rfl, rfl, rfl, rfl, rfl, rfl, rfl, rfl, rfl, rfl⟩
theorem lX11_order_2 : tX11_order 94 = some (a_get tT 0 5 97) ∧
  tX11_order 97 = some (a_goto 112) ∧
  tX11_order 100 = some (a_aload 0 101) ∧
  tX11_order 101 = some (a_get tT 11 9 104) ∧
  tX11_order 104 = some (a_get tT 0 6 107) ∧
  tX11_order 107 = some (a_iload 3 108) ∧
  tX11_order 108 = some (a_const (nI 10) 110) ∧
  tX11_order 110 = some (a_bin (fun x y => x - y) 111) ∧
  tX11_order 111 = some (a_iald tT 112) ∧
  tX11_order 112 = some (a_iret) := ⟨rfl, rfl, rfl, rfl, rfl, rfl, rfl, rfl, rfl, rfl⟩
theorem lX11_undo_0 : tX11_undo 0 = some (a_aload 0 1) ∧
  tX11_undo 1 = some (a_get tT 11 4 4) ∧
  tX11_undo 4 = some (a_get tT 8 0 7) ∧
  tX11_undo 7 = some (a_const (nI 1) 8) ∧
  tX11_undo 8 = some (a_cmp (fun x y => y ≤ x) 13 11) ∧
  tX11_undo 11 = some (a_const (nI 0) 12) ∧
  tX11_undo 12 = some (a_zret) ∧
  tX11_undo 13 = some (a_aload 0 14) ∧
  tX11_undo 14 = some (a_get tT 11 4 17) ∧
  tX11_undo 17 = some (a_dup 18) ∧
  tX11_undo 18 = some (a_get tT 8 0 21) ∧
  tX11_undo 21 = some (a_const (nI 1) 22) ∧
  tX11_undo 22 = some (a_bin (fun x y => x - y) 23) ∧
  tX11_undo 23 = some (a_put tT 8 0 26) ∧
  tX11_undo 26 = some (a_aload 0 27) ∧
  tX11_undo 27 = some (a_get tT 11 4 30) ∧
  tX11_undo 30 = some (a_const (nI 0) 31) ∧
  tX11_undo 31 = some (a_cvI tT mX8_part 8 1 34) ∧
  tX11_undo 34 = some (a_istore 1 35) ∧
  tX11_undo 35 = some (a_aload 0 36) ∧
  tX11_undo 36 = some (a_get tT 11 5 39) ∧
  tX11_undo 39 = some (a_iload 1 40) ∧
  tX11_undo 40 = some (a_aload 0 41) ∧
  tX11_undo 41 = some (a_get tT 11 4 44) := ⟨rfl, rfl, rfl, rfl, rfl, rfl, rfl, rfl, rfl, rfl, rfl, rfl, rfl, rfl, rfl, rfl, rfl, rfl, rfl, rfl, rfl, rfl, rfl, rfl⟩
theorem lX11_undo_1 : tX11_undo 44 = some (a_const (nI 1) 45) ∧
  tX11_undo 45 = some (a_cvI tT mX8_part 8 1 48) ∧
  tX11_undo 48 = some (a_aload 0 49) ∧
  tX11_undo 49 = some (a_get tT 11 4 52) ∧
  tX11_undo 52 = some (a_const (nI 2) 53) ∧
  tX11_undo 53 = some (a_cvI tT mX8_part 8 1 56) ∧
  tX11_undo 56 = some (a_aload 0 57) ∧
  tX11_undo 57 = some (a_get tT 11 4 60) ∧
  tX11_undo 60 = some (a_const (nI 3) 61) ∧
  tX11_undo 61 = some (a_cvI tT mX8_part 8 1 64) ∧
  tX11_undo 64 = some (a_cvV tT mX7_back 7 4 67) ∧
  tX11_undo 67 = some (a_aload 0 68) ∧
  tX11_undo 68 = some (a_get tT 11 0 71) ∧
  tX11_undo 71 = some (a_get tT 10 11 74) ∧
  tX11_undo 74 = some (a_get tT 5 4 77) ∧
  tX11_undo 77 = some (a_iload 1 78) ∧
  tX11_undo 78 = some (a_aload 0 79) ∧
  tX11_undo 79 = some (a_get tT 11 4 82) ∧
  tX11_undo 82 = some (a_const (nI 4) 83) ∧
  tX11_undo 83 = some (a_cvI tT mX8_part 8 1 86) ∧
  tX11_undo 86 = some (a_iast tT 87) ∧
  tX11_undo 87 = some (a_aload 0 88) ∧
  tX11_undo 88 = some (a_get tT 11 4 91) ∧
  tX11_undo 91 = some (a_const (nI 5) 92) := ⟨rfl, rfl, rfl, rfl, rfl, rfl, rfl, rfl, rfl, rfl, rfl, rfl, rfl, rfl, rfl, rfl, rfl, rfl, rfl, rfl, rfl, rfl, rfl, rfl⟩
theorem lX11_undo_2 : tX11_undo 92 = some (a_cvI tT mX8_part 8 1 95) ∧
  tX11_undo 95 = some (a_if (fun x => x = nI 0) 121 98) ∧
  tX11_undo 98 = some (a_aload 0 99) ∧
  tX11_undo 99 = some (a_get tT 11 0 102) ∧
  tX11_undo 102 = some (a_get tT 10 7 105) ∧
  tX11_undo 105 = some (a_if (fun x => x ≤ nI 0) 121 108) ∧
  tX11_undo 108 = some (a_aload 0 109) ∧
  tX11_undo 109 = some (a_get tT 11 0 112) ∧
  tX11_undo 112 = some (a_dup 113) ∧
  tX11_undo 113 = some (a_get tT 10 7 116) ∧
  tX11_undo 116 = some (a_const (nI 1) 117) ∧
  tX11_undo 117 = some (a_bin (fun x y => x - y) 118) ∧
  tX11_undo 118 = some (a_put tT 10 7 121) ∧
  tX11_undo 121 = some (a_const (nI 1) 122) ∧
  tX11_undo 122 = some (a_zret) := ⟨rfl, rfl, rfl, rfl, rfl, rfl, rfl, rfl, rfl, rfl, rfl, rfl, rfl, rfl, rfl⟩
theorem lX11_image_0 : tX11_image 0 = some (a_iload 1 1) ∧
  tX11_image 1 = some (a_if (fun x => x = nI 0) 22 4) ∧
  tX11_image 4 = some (a_aload 0 5) ∧
  tX11_image 5 = some (a_get tT 11 1 8) ∧
  tX11_image 8 = some (a_aload 0 9) ∧
  tX11_image 9 = some (a_get tT 11 0 12) ∧
  tX11_image 12 = some (a_cvV tT mX10_copyFrom 10 1 15) ∧
  tX11_image 15 = some (a_aload 0 16) ∧
  tX11_image 16 = some (a_const (nI 1) 17) ∧
  tX11_image 17 = some (a_putz tT 11 2 20) ∧
  tX11_image 20 = some (a_const (nI 1) 21) ∧
  tX11_image 21 = some (a_zret) ∧
  tX11_image 22 = some (a_aload 0 23) ∧
  tX11_image 23 = some (a_get tT 11 2 26) ∧
  tX11_image 26 = some (a_if (fun x => x = nI 0) 29 31) ∧
  tX11_image 29 = some (a_const (nI 0) 30) ∧
  tX11_image 30 = some (a_zret) ∧
  tX11_image 31 = some (a_aload 0 32) ∧
  tX11_image 32 = some (a_get tT 11 0 35) ∧
  tX11_image 35 = some (a_aload 0 36) ∧
  tX11_image 36 = some (a_get tT 11 1 39) ∧
  tX11_image 39 = some (a_cvV tT mX10_copyFrom 10 1 42) ∧
  tX11_image 42 = some (a_aload 0 43) ∧
  tX11_image 43 = some (a_get tT 11 4 46) := ⟨rfl, rfl, rfl, rfl, rfl, rfl, rfl, rfl, rfl, rfl, rfl, rfl, rfl, rfl, rfl, rfl, rfl, rfl, rfl, rfl, rfl, rfl, rfl, rfl⟩
theorem lX11_image_1 : tX11_image 46 = some (a_cvV tT mX8_forget 8 0 49) ∧
  tX11_image 49 = some (a_const (nI 1) 50) ∧
  tX11_image 50 = some (a_zret) := ⟨rfl, rfl, rfl⟩
theorem lX11_look_0 : tX11_look 0 = some (a_iload 1 1) ∧
  tX11_look 1 = some (a_sw [(nI 0, 60), (nI 1, 68), (nI 2, 79), (nI 3, 90), (nI 4, 98), (nI 5, 106), (nI 6, 114), (nI 7, 122), (nI 8, 130), (nI 9, 141), (nI 10, 149)] 157) ∧
  tX11_look 60 = some (a_aload 0 61) ∧
  tX11_look 61 = some (a_get tT 11 0 64) ∧
  tX11_look 64 = some (a_get tT 10 4 67) ∧
  tX11_look 67 = some (a_iret) ∧
  tX11_look 68 = some (a_aload 0 69) ∧
  tX11_look 69 = some (a_get tT 11 0 72) ∧
  tX11_look 72 = some (a_get tT 10 11 75) ∧
  tX11_look 75 = some (a_get tT 5 0 78) ∧
  tX11_look 78 = some (a_iret) ∧
  tX11_look 79 = some (a_aload 0 80) ∧
  tX11_look 80 = some (a_get tT 11 0 83) ∧
  tX11_look 83 = some (a_get tT 10 12 86) ∧
  tX11_look 86 = some (a_get tT 2 0 89) ∧
  tX11_look 89 = some (a_iret) ∧
  tX11_look 90 = some (a_aload 0 91) ∧
  tX11_look 91 = some (a_get tT 11 0 94) ∧
  tX11_look 94 = some (a_get tT 10 3 97) ∧
  tX11_look 97 = some (a_iret) ∧
  tX11_look 98 = some (a_aload 0 99) ∧
  tX11_look 99 = some (a_get tT 11 0 102) ∧
  tX11_look 102 = some (a_get tT 10 7 105) ∧
  tX11_look 105 = some (a_iret) := ⟨rfl, rfl, rfl, rfl, rfl, rfl, rfl, rfl, rfl, rfl, rfl, rfl, rfl, rfl, rfl, rfl, rfl, rfl, rfl, rfl, rfl, rfl, rfl, rfl⟩
theorem lX11_look_1 : tX11_look 106 = some (a_aload 0 107) ∧
  tX11_look 107 = some (a_get tT 11 0 110) ∧
  tX11_look 110 = some (a_get tT 10 0 113) ∧
  tX11_look 113 = some (a_iret) ∧
  tX11_look 114 = some (a_aload 0 115) ∧
  tX11_look 115 = some (a_get tT 11 0 118) ∧
  tX11_look 118 = some (a_get tT 10 1 121) ∧
  tX11_look 121 = some (a_iret) ∧
  tX11_look 122 = some (a_aload 0 123) ∧
  tX11_look 123 = some (a_get tT 11 0 126) ∧
  tX11_look 126 = some (a_get tT 10 2 129) ∧
  tX11_look 129 = some (a_iret) ∧
  tX11_look 130 = some (a_aload 0 131) ∧
  tX11_look 131 = some (a_get tT 11 0 134) ∧
  tX11_look 134 = some (a_get tT 10 13 137) ∧
  tX11_look 137 = some (a_get tT 3 0 140) ∧
  tX11_look 140 = some (a_iret) ∧
  tX11_look 141 = some (a_aload 0 142) ∧
  tX11_look 142 = some (a_get tT 11 0 145) ∧
  tX11_look 145 = some (a_get tT 10 9 148) ∧
  tX11_look 148 = some (a_iret) ∧
  tX11_look 149 = some (a_aload 0 150) ∧
  tX11_look 150 = some (a_get tT 11 4 153) ∧
  tX11_look 153 = some (a_get tT 8 0 156) := ⟨rfl, rfl, rfl, rfl, rfl, rfl, rfl, rfl, rfl, rfl, rfl, rfl, rfl, rfl, rfl, rfl, rfl, rfl, rfl, rfl, rfl, rfl, rfl, rfl⟩
theorem lX11_look_2 : tX11_look 156 = some (a_iret) ∧
  tX11_look 157 = some (a_aload 0 158) ∧
  tX11_look 158 = some (a_iload 1 159) ∧
  tX11_look 159 = some (a_cvI tT mX11_lookAtParts 11 1 162) ∧
  tX11_look 162 = some (a_iret) := ⟨rfl, rfl, rfl, rfl, rfl⟩
theorem lX11_lookAtParts_0 : tX11_lookAtParts 0 = some (a_iload 1 1) ∧
  tX11_lookAtParts 1 = some (a_const (nI 20) 3) ∧
  tX11_lookAtParts 3 = some (a_const (nI 20) 5) ∧
  tX11_lookAtParts 5 = some (a_aload 0 6) ∧
  tX11_lookAtParts 6 = some (a_get tT 11 0 9) ∧
  tX11_lookAtParts 9 = some (a_get tT 10 4 12) ∧
  tX11_lookAtParts 12 = some (a_bin (fun x y => x + y) 13) ∧
  tX11_lookAtParts 13 = some (a_const (nI 1) 14) ∧
  tX11_lookAtParts 14 = some (a_bin (fun x y => x - y) 15) ∧
  tX11_lookAtParts 15 = some (a_csI mX11_within 3 18) ∧
  tX11_lookAtParts 18 = some (a_if (fun x => x = nI 0) 34 21) ∧
  tX11_lookAtParts 21 = some (a_aload 0 22) ∧
  tX11_lookAtParts 22 = some (a_get tT 11 0 25) ∧
  tX11_lookAtParts 25 = some (a_get tT 10 5 28) ∧
  tX11_lookAtParts 28 = some (a_iload 1 29) ∧
  tX11_lookAtParts 29 = some (a_const (nI 20) 31) ∧
  tX11_lookAtParts 31 = some (a_bin (fun x y => x - y) 32) ∧
  tX11_lookAtParts 32 = some (a_iald tT 33) ∧
  tX11_lookAtParts 33 = some (a_iret) ∧
  tX11_lookAtParts 34 = some (a_iload 1 35) ∧
  tX11_lookAtParts 35 = some (a_const (nI 40) 37) ∧
  tX11_lookAtParts 37 = some (a_const (nI 40) 39) ∧
  tX11_lookAtParts 39 = some (a_aload 0 40) ∧
  tX11_lookAtParts 40 = some (a_get tT 11 0 43) := ⟨rfl, rfl, rfl, rfl, rfl, rfl, rfl, rfl, rfl, rfl, rfl, rfl, rfl, rfl, rfl, rfl, rfl, rfl, rfl, rfl, rfl, rfl, rfl, rfl⟩
theorem lX11_lookAtParts_1 : tX11_lookAtParts 43 = some (a_get tT 10 4 46) ∧
  tX11_lookAtParts 46 = some (a_bin (fun x y => x + y) 47) ∧
  tX11_lookAtParts 47 = some (a_const (nI 1) 48) ∧
  tX11_lookAtParts 48 = some (a_bin (fun x y => x - y) 49) ∧
  tX11_lookAtParts 49 = some (a_csI mX11_within 3 52) ∧
  tX11_lookAtParts 52 = some (a_if (fun x => x = nI 0) 68 55) ∧
  tX11_lookAtParts 55 = some (a_aload 0 56) ∧
  tX11_lookAtParts 56 = some (a_get tT 11 0 59) ∧
  tX11_lookAtParts 59 = some (a_get tT 10 6 62) ∧
  tX11_lookAtParts 62 = some (a_iload 1 63) ∧
  tX11_lookAtParts 63 = some (a_const (nI 40) 65) ∧
  tX11_lookAtParts 65 = some (a_bin (fun x y => x - y) 66) ∧
  tX11_lookAtParts 66 = some (a_iald tT 67) ∧
  tX11_lookAtParts 67 = some (a_iret) ∧
  tX11_lookAtParts 68 = some (a_iload 1 69) ∧
  tX11_lookAtParts 69 = some (a_const (nI 60) 71) ∧
  tX11_lookAtParts 71 = some (a_const (nI 60) 73) ∧
  tX11_lookAtParts 73 = some (a_const (nI 2) 74) ∧
  tX11_lookAtParts 74 = some (a_aload 0 75) ∧
  tX11_lookAtParts 75 = some (a_get tT 11 0 78) ∧
  tX11_lookAtParts 78 = some (a_get tT 10 12 81) ∧
  tX11_lookAtParts 81 = some (a_get tT 2 0 84) ∧
  tX11_lookAtParts 84 = some (a_bin (fun x y => x * y) 85) ∧
  tX11_lookAtParts 85 = some (a_bin (fun x y => x + y) 86) := ⟨rfl, rfl, rfl, rfl, rfl, rfl, rfl, rfl, rfl, rfl, rfl, rfl, rfl, rfl, rfl, rfl, rfl, rfl, rfl, rfl, rfl, rfl, rfl, rfl⟩
theorem lX11_lookAtParts_2 : tX11_lookAtParts 86 = some (a_const (nI 1) 87) ∧
  tX11_lookAtParts 87 = some (a_bin (fun x y => x - y) 88) ∧
  tX11_lookAtParts 88 = some (a_csI mX11_within 3 91) ∧
  tX11_lookAtParts 91 = some (a_if (fun x => x = nI 0) 110 94) ∧
  tX11_lookAtParts 94 = some (a_aload 0 95) ∧
  tX11_lookAtParts 95 = some (a_get tT 11 0 98) ∧
  tX11_lookAtParts 98 = some (a_get tT 10 12 101) ∧
  tX11_lookAtParts 101 = some (a_get tT 2 1 104) ∧
  tX11_lookAtParts 104 = some (a_iload 1 105) ∧
  tX11_lookAtParts 105 = some (a_const (nI 60) 107) ∧
  tX11_lookAtParts 107 = some (a_bin (fun x y => x - y) 108) ∧
  tX11_lookAtParts 108 = some (a_iald tT 109) ∧
  tX11_lookAtParts 109 = some (a_iret) ∧
  tX11_lookAtParts 110 = some (a_const (-1) 111) ∧
  tX11_lookAtParts 111 = some (a_iret) := ⟨rfl, rfl, rfl, rfl, rfl, rfl, rfl, rfl, rfl, rfl, rfl, rfl, rfl, rfl, rfl⟩
theorem lX11_setForAll_0 : tX11_setForAll 0 = some (a_iload 1 1) ∧
  tX11_setForAll 1 = some (a_if (fun x => x = nI 0) 4 25) ∧
  tX11_setForAll 4 = some (a_iload 2 5) ∧
  tX11_setForAll 5 = some (a_const (nI 0) 6) ∧
  tX11_setForAll 6 = some (a_const (nI 1000) 9) ∧
  tX11_setForAll 9 = some (a_csI mX11_within 3 12) ∧
  tX11_setForAll 12 = some (a_if (fun x => x = nI 0) 25 15) ∧
  tX11_setForAll 15 = some (a_aload 0 16) ∧
  tX11_setForAll 16 = some (a_get tT 11 0 19) ∧
  tX11_setForAll 19 = some (a_iload 2 20) ∧
  tX11_setForAll 20 = some (a_put tT 10 1 23) ∧
  tX11_setForAll 23 = some (a_const (nI 1) 24) ∧
  tX11_setForAll 24 = some (a_zret) ∧
  tX11_setForAll 25 = some (a_iload 1 26) ∧
  tX11_setForAll 26 = some (a_const (nI 1) 27) ∧
  tX11_setForAll 27 = some (a_cmp (fun x y => x = y) 30 50) ∧
  tX11_setForAll 30 = some (a_iload 2 31) ∧
  tX11_setForAll 31 = some (a_const (nI 0) 32) ∧
  tX11_setForAll 32 = some (a_const (nI 99) 34) ∧
  tX11_setForAll 34 = some (a_csI mX11_within 3 37) ∧
  tX11_setForAll 37 = some (a_if (fun x => x = nI 0) 50 40) ∧
  tX11_setForAll 40 = some (a_aload 0 41) ∧
  tX11_setForAll 41 = some (a_get tT 11 0 44) ∧
  tX11_setForAll 44 = some (a_iload 2 45) := ⟨rfl, rfl, rfl, rfl, rfl, rfl, rfl, rfl, rfl, rfl, rfl, rfl, rfl, rfl, rfl, rfl, rfl, rfl, rfl, rfl, rfl, rfl, rfl, rfl⟩
theorem lX11_setForAll_1 : tX11_setForAll 45 = some (a_put tT 10 2 48) ∧
  tX11_setForAll 48 = some (a_const (nI 1) 49) ∧
  tX11_setForAll 49 = some (a_zret) ∧
  tX11_setForAll 50 = some (a_const (nI 0) 51) ∧
  tX11_setForAll 51 = some (a_zret) := ⟨rfl, rfl, rfl, rfl, rfl⟩
theorem lX11_setOfPerson_0 : tX11_setOfPerson 0 = some (a_aload 0 1) ∧
  tX11_setOfPerson 1 = some (a_get tT 11 0 4) ∧
  tX11_setOfPerson 4 = some (a_iload 2 5) ∧
  tX11_setOfPerson 5 = some (a_cvI tT mX10_isPerson 10 1 8) ∧
  tX11_setOfPerson 8 = some (a_if (fun x => x = nI 0) 11 13) ∧
  tX11_setOfPerson 11 = some (a_const (nI 0) 12) ∧
  tX11_setOfPerson 12 = some (a_zret) ∧
  tX11_setOfPerson 13 = some (a_iload 1 14) ∧
  tX11_setOfPerson 14 = some (a_const (nI 2) 15) ∧
  tX11_setOfPerson 15 = some (a_cmp (fun x y => x = y) 18 44) ∧
  tX11_setOfPerson 18 = some (a_iload 3 19) ∧
  tX11_setOfPerson 19 = some (a_const (nI 0) 20) ∧
  tX11_setOfPerson 20 = some (a_const (nI 9999) 23) ∧
  tX11_setOfPerson 23 = some (a_csI mX11_within 3 26) ∧
  tX11_setOfPerson 26 = some (a_if (fun x => x = nI 0) 44 29) ∧
  tX11_setOfPerson 29 = some (a_aload 0 30) ∧
  tX11_setOfPerson 30 = some (a_get tT 11 0 33) ∧
  tX11_setOfPerson 33 = some (a_get tT 10 11 36) ∧
  tX11_setOfPerson 36 = some (a_get tT 5 2 39) ∧
  tX11_setOfPerson 39 = some (a_iload 2 40) ∧
  tX11_setOfPerson 40 = some (a_iload 3 41) ∧
  tX11_setOfPerson 41 = some (a_iast tT 42) ∧
  tX11_setOfPerson 42 = some (a_const (nI 1) 43) ∧
  tX11_setOfPerson 43 = some (a_zret) := ⟨rfl, rfl, rfl, rfl, rfl, rfl, rfl, rfl, rfl, rfl, rfl, rfl, rfl, rfl, rfl, rfl, rfl, rfl, rfl, rfl, rfl, rfl, rfl, rfl⟩
theorem lX11_setOfPerson_1 : tX11_setOfPerson 44 = some (a_iload 1 45) ∧
  tX11_setOfPerson 45 = some (a_const (nI 3) 46) ∧
  tX11_setOfPerson 46 = some (a_cmp (fun x y => x = y) 49 71) ∧
  tX11_setOfPerson 49 = some (a_iload 3 50) ∧
  tX11_setOfPerson 50 = some (a_csI mX11_isPlace 1 53) ∧
  tX11_setOfPerson 53 = some (a_if (fun x => x = nI 0) 71 56) ∧
  tX11_setOfPerson 56 = some (a_aload 0 57) ∧
  tX11_setOfPerson 57 = some (a_get tT 11 0 60) ∧
  tX11_setOfPerson 60 = some (a_get tT 10 11 63) ∧
  tX11_setOfPerson 63 = some (a_get tT 5 1 66) ∧
  tX11_setOfPerson 66 = some (a_iload 2 67) ∧
  tX11_setOfPerson 67 = some (a_iload 3 68) ∧
  tX11_setOfPerson 68 = some (a_iast tT 69) ∧
  tX11_setOfPerson 69 = some (a_const (nI 1) 70) ∧
  tX11_setOfPerson 70 = some (a_zret) ∧
  tX11_setOfPerson 71 = some (a_const (nI 0) 72) ∧
  tX11_setOfPerson 72 = some (a_zret) := ⟨rfl, rfl, rfl, rfl, rfl, rfl, rfl, rfl, rfl, rfl, rfl, rfl, rfl, rfl, rfl, rfl, rfl⟩
theorem lX11_within_0 : tX11_within 0 = some (a_iload 0 1) ∧
  tX11_within 1 = some (a_iload 1 2) ∧
  tX11_within 2 = some (a_cmp (fun x y => x < y) 14 5) ∧
  tX11_within 5 = some (a_iload 0 6) ∧
  tX11_within 6 = some (a_iload 2 7) ∧
  tX11_within 7 = some (a_cmp (fun x y => y < x) 14 10) ∧
  tX11_within 10 = some (a_const (nI 1) 11) ∧
  tX11_within 11 = some (a_goto 15) ∧
  tX11_within 14 = some (a_const (nI 0) 15) ∧
  tX11_within 15 = some (a_zret) := ⟨rfl, rfl, rfl, rfl, rfl, rfl, rfl, rfl, rfl, rfl⟩
theorem lX11_isPlace_0 : tX11_isPlace 0 = some (a_iload 0 1) ∧
  tX11_isPlace 1 = some (a_const (nI 0) 2) ∧
  tX11_isPlace 2 = some (a_const (nI 7) 4) ∧
  tX11_isPlace 4 = some (a_csI mX11_within 3 7) ∧
  tX11_isPlace 7 = some (a_zret) := ⟨rfl, rfl, rfl, rfl, rfl⟩
theorem lX11_isPart_0 : tX11_isPart 0 = some (a_iload 0 1) ∧
  tX11_isPart 1 = some (a_const (nI 10) 3) ∧
  tX11_isPart 3 = some (a_const (nI 10) 5) ∧
  tX11_isPart 5 = some (a_iload 1 6) ∧
  tX11_isPart 6 = some (a_bin (fun x y => x + y) 7) ∧
  tX11_isPart 7 = some (a_const (nI 1) 8) ∧
  tX11_isPart 8 = some (a_bin (fun x y => x - y) 9) ∧
  tX11_isPart 9 = some (a_csI mX11_within 3 12) ∧
  tX11_isPart 12 = some (a_zret) := ⟨rfl, rfl, rfl, rfl, rfl, rfl, rfl, rfl, rfl⟩
theorem lX11_isFact_0 : tX11_isFact 0 = some (a_iload 0 1) ∧
  tX11_isFact 1 = some (a_const (nI 10006) 4) ∧
  tX11_isFact 4 = some (a_cmp (fun x y => x < y) 18 7) ∧
  tX11_isFact 7 = some (a_iload 0 8) ∧
  tX11_isFact 8 = some (a_const (nI 10014) 11) ∧
  tX11_isFact 11 = some (a_cmp (fun x y => y ≤ x) 18 14) ∧
  tX11_isFact 14 = some (a_const (nI 1) 15) ∧
  tX11_isFact 15 = some (a_goto 19) ∧
  tX11_isFact 18 = some (a_const (nI 0) 19) ∧
  tX11_isFact 19 = some (a_zret) := ⟨rfl, rfl, rfl, rfl, rfl, rfl, rfl, rfl, rfl, rfl⟩
theorem lX12_isIn_0 : tX12_isIn 0 = some (a_iload 0 1) ∧
  tX12_isIn 1 = some (a_iload 1 2) ∧
  tX12_isIn 2 = some (a_cmp (fun x y => x < y) 14 5) ∧
  tX12_isIn 5 = some (a_iload 0 6) ∧
  tX12_isIn 6 = some (a_iload 2 7) ∧
  tX12_isIn 7 = some (a_cmp (fun x y => y < x) 14 10) ∧
  tX12_isIn 10 = some (a_const (nI 1) 11) ∧
  tX12_isIn 11 = some (a_goto 15) ∧
  tX12_isIn 14 = some (a_const (nI 0) 15) ∧
  tX12_isIn 15 = some (a_zret) := ⟨rfl, rfl, rfl, rfl, rfl, rfl, rfl, rfl, rfl, rfl⟩
theorem lX12_isName_0 : tX12_isName 0 = some (a_iload 1 1) ∧
  tX12_isName 1 = some (a_const (nI 0) 2) ∧
  tX12_isName 2 = some (a_aload 0 3) ∧
  tX12_isName 3 = some (a_get tT 12 0 6) ∧
  tX12_isName 6 = some (a_const (nI 0) 7) ∧
  tX12_isName 7 = some (a_iald tT 8) ∧
  tX12_isName 8 = some (a_const (nI 1) 9) ∧
  tX12_isName 9 = some (a_bin (fun x y => x - y) 10) ∧
  tX12_isName 10 = some (a_csI mX12_isIn 3 13) ∧
  tX12_isName 13 = some (a_zret) := ⟨rfl, rfl, rfl, rfl, rfl, rfl, rfl, rfl, rfl, rfl⟩
theorem lX12_isPlace_0 : tX12_isPlace 0 = some (a_iload 0 1) ∧
  tX12_isPlace 1 = some (a_const (nI 0) 2) ∧
  tX12_isPlace 2 = some (a_const (nI 7) 4) ∧
  tX12_isPlace 4 = some (a_csI mX12_isIn 3 7) ∧
  tX12_isPlace 7 = some (a_zret) := ⟨rfl, rfl, rfl, rfl, rfl⟩
theorem lX12_isPerson_0 : tX12_isPerson 0 = some (a_iload 1 1) ∧
  tX12_isPerson 1 = some (a_const (nI 0) 2) ∧
  tX12_isPerson 2 = some (a_aload 0 3) ∧
  tX12_isPerson 3 = some (a_get tT 12 0 6) ∧
  tX12_isPerson 6 = some (a_const (nI 1) 7) ∧
  tX12_isPerson 7 = some (a_iald tT 8) ∧
  tX12_isPerson 8 = some (a_const (nI 1) 9) ∧
  tX12_isPerson 9 = some (a_bin (fun x y => x - y) 10) ∧
  tX12_isPerson 10 = some (a_csI mX12_isIn 3 13) ∧
  tX12_isPerson 13 = some (a_zret) := ⟨rfl, rfl, rfl, rfl, rfl, rfl, rfl, rfl, rfl, rfl⟩
theorem lX12_isBridge_0 : tX12_isBridge 0 = some (a_iload 1 1) ∧
  tX12_isBridge 1 = some (a_const (nI 0) 2) ∧
  tX12_isBridge 2 = some (a_aload 0 3) ∧
  tX12_isBridge 3 = some (a_get tT 12 0 6) ∧
  tX12_isBridge 6 = some (a_const (nI 2) 7) ∧
  tX12_isBridge 7 = some (a_iald tT 8) ∧
  tX12_isBridge 8 = some (a_const (nI 1) 9) ∧
  tX12_isBridge 9 = some (a_bin (fun x y => x - y) 10) ∧
  tX12_isBridge 10 = some (a_csI mX12_isIn 3 13) ∧
  tX12_isBridge 13 = some (a_zret) := ⟨rfl, rfl, rfl, rfl, rfl, rfl, rfl, rfl, rfl, rfl⟩
theorem lX12_own_0 : tX12_own 0 = some (a_aload 0 1) ∧
  tX12_own 1 = some (a_get tT 12 0 4) ∧
  tX12_own 4 = some (a_const (nI 90) 6) ∧
  tX12_own 6 = some (a_const (nI 16) 8) ∧
  tX12_own 8 = some (a_iload 1 9) ∧
  tX12_own 9 = some (a_bin (fun x y => x * y) 10) ∧
  tX12_own 10 = some (a_bin (fun x y => x + y) 11) ∧
  tX12_own 11 = some (a_iload 2 12) ∧
  tX12_own 12 = some (a_bin (fun x y => x + y) 13) ∧
  tX12_own 13 = some (a_iald tT 14) ∧
  tX12_own 14 = some (a_iret) := ⟨rfl, rfl, rfl, rfl, rfl, rfl, rfl, rfl, rfl, rfl, rfl⟩
theorem lX12_gives_0 : tX12_gives 0 = some (a_aload 0 1) ∧
  tX12_gives 1 = some (a_get tT 12 0 4) ∧
  tX12_gives 4 = some (a_const (nI 90) 6) ∧
  tX12_gives 6 = some (a_const (nI 16) 8) ∧
  tX12_gives 8 = some (a_iload 1 9) ∧
  tX12_gives 9 = some (a_bin (fun x y => x * y) 10) ∧
  tX12_gives 10 = some (a_bin (fun x y => x + y) 11) ∧
  tX12_gives 11 = some (a_iload 2 12) ∧
  tX12_gives 12 = some (a_bin (fun x y => x + y) 13) ∧
  tX12_gives 13 = some (a_iload 3 14) ∧
  tX12_gives 14 = some (a_iast tT 15) ∧
  tX12_gives 15 = some (a_ret) := ⟨rfl, rfl, rfl, rfl, rfl, rfl, rfl, rfl, rfl, rfl, rfl, rfl⟩
theorem lX12_state_0 : tX12_state 0 = some (a_aload 0 1) ∧
  tX12_state 1 = some (a_get tT 12 0 4) ∧
  tX12_state 4 = some (a_const (nI 5) 5) ∧
  tX12_state 5 = some (a_iald tT 6) ∧
  tX12_state 6 = some (a_istore 2 7) ∧
  tX12_state 7 = some (a_aload 0 8) ∧
  tX12_state 8 = some (a_get tT 12 0 11) ∧
  tX12_state 11 = some (a_const (nI 5) 12) ∧
  tX12_state 12 = some (a_iload 1 13) ∧
  tX12_state 13 = some (a_iast tT 14) ∧
  tX12_state 14 = some (a_iload 2 15) ∧
  tX12_state 15 = some (a_iret) := ⟨rfl, rfl, rfl, rfl, rfl, rfl, rfl, rfl, rfl, rfl, rfl, rfl⟩
theorem lX12_draw_0 : tX12_draw 0 = some (a_aload 0 1) ∧
  tX12_draw 1 = some (a_get tT 12 0 4) ∧
  tX12_draw 4 = some (a_const (nI 5) 5) ∧
  tX12_draw 5 = some (a_const (nI 1664525) 7) ∧
  tX12_draw 7 = some (a_aload 0 8) ∧
  tX12_draw 8 = some (a_get tT 12 0 11) ∧
  tX12_draw 11 = some (a_const (nI 5) 12) ∧
  tX12_draw 12 = some (a_iald tT 13) ∧
  tX12_draw 13 = some (a_bin (fun x y => x * y) 14) ∧
  tX12_draw 14 = some (a_const (nI 1013904223) 16) ∧
  tX12_draw 16 = some (a_bin (fun x y => x + y) 17) ∧
  tX12_draw 17 = some (a_iast tT 18) ∧
  tX12_draw 18 = some (a_aload 0 19) ∧
  tX12_draw 19 = some (a_get tT 12 0 22) ∧
  tX12_draw 22 = some (a_const (nI 5) 23) ∧
  tX12_draw 23 = some (a_iald tT 24) ∧
  tX12_draw 24 = some (a_const (nI 8) 26) ∧
  tX12_draw 26 = some (a_bin am_ushr 27) ∧
  tX12_draw 27 = some (a_iload 1 28) ∧
  tX12_draw 28 = some (a_divr (fun x y => x - x / y * y) 29) ∧
  tX12_draw 29 = some (a_iret) := ⟨rfl, rfl, rfl, rfl, rfl, rfl, rfl, rfl, rfl, rfl, rfl, rfl, rfl, rfl, rfl, rfl, rfl, rfl, rfl, rfl, rfl⟩
theorem lX12_forgets_0 : tX12_forgets 0 = some (a_aload 0 1) ∧
  tX12_forgets 1 = some (a_const (nI 0) 2) ∧
  tX12_forgets 2 = some (a_put tT 12 4 5) ∧
  tX12_forgets 5 = some (a_ret) := ⟨rfl, rfl, rfl, rfl⟩
theorem lX12_name_0 : tX12_name 0 = some (a_iload 1 1) ∧
  tX12_name 1 = some (a_const (nI 0) 2) ∧
  tX12_name 2 = some (a_const (nI 3) 3) ∧
  tX12_name 3 = some (a_csI mX12_isIn 3 6) ∧
  tX12_name 6 = some (a_if (fun x => x = nI 0) 30 9) ∧
  tX12_name 9 = some (a_iload 2 10) ∧
  tX12_name 10 = some (a_const (nI 1) 11) ∧
  tX12_name 11 = some (a_const (nI 12) 13) ∧
  tX12_name 13 = some (a_csI mX12_isIn 3 16) ∧
  tX12_name 16 = some (a_if (fun x => x = nI 0) 30 19) ∧
  tX12_name 19 = some (a_aload 0 20) ∧
  tX12_name 20 = some (a_get tT 12 0 23) ∧
  tX12_name 23 = some (a_const (nI 0) 24) ∧
  tX12_name 24 = some (a_iald tT 25) ∧
  tX12_name 25 = some (a_const (nI 20) 27) ∧
  tX12_name 27 = some (a_cmp (fun x y => x = y) 30 32) ∧
  tX12_name 30 = some (a_const (-1) 31) ∧
  tX12_name 31 = some (a_iret) ∧
  tX12_name 32 = some (a_aload 0 33) ∧
  tX12_name 33 = some (a_get tT 12 0 36) ∧
  tX12_name 36 = some (a_const (nI 10) 38) ∧
  tX12_name 38 = some (a_aload 0 39) ∧
  tX12_name 39 = some (a_get tT 12 0 42) ∧
  tX12_name 42 = some (a_const (nI 0) 43) := ⟨rfl, rfl, rfl, rfl, rfl, rfl, rfl, rfl, rfl, rfl, rfl, rfl, rfl, rfl, rfl, rfl, rfl, rfl, rfl, rfl, rfl, rfl, rfl, rfl⟩
theorem lX12_name_1 : tX12_name 43 = some (a_iald tT 44) ∧
  tX12_name 44 = some (a_bin (fun x y => x + y) 45) ∧
  tX12_name 45 = some (a_iload 1 46) ∧
  tX12_name 46 = some (a_iast tT 47) ∧
  tX12_name 47 = some (a_aload 0 48) ∧
  tX12_name 48 = some (a_get tT 12 0 51) ∧
  tX12_name 51 = some (a_const (nI 30) 53) ∧
  tX12_name 53 = some (a_aload 0 54) ∧
  tX12_name 54 = some (a_get tT 12 0 57) ∧
  tX12_name 57 = some (a_const (nI 0) 58) ∧
  tX12_name 58 = some (a_iald tT 59) ∧
  tX12_name 59 = some (a_bin (fun x y => x + y) 60) ∧
  tX12_name 60 = some (a_iload 2 61) ∧
  tX12_name 61 = some (a_iast tT 62) ∧
  tX12_name 62 = some (a_aload 0 63) ∧
  tX12_name 63 = some (a_get tT 12 0 66) ∧
  tX12_name 66 = some (a_const (nI 0) 67) ∧
  tX12_name 67 = some (a_dup2 68) ∧
  tX12_name 68 = some (a_iald tT 69) ∧
  tX12_name 69 = some (a_const (nI 1) 70) ∧
  tX12_name 70 = some (a_bin (fun x y => x + y) 71) ∧
  tX12_name 71 = some (a_iast tT 72) ∧
  tX12_name 72 = some (a_aload 0 73) ∧
  tX12_name 73 = some (a_cvV tT mX12_forgets 12 0 76) := ⟨rfl, rfl, rfl, rfl, rfl, rfl, rfl, rfl, rfl, rfl, rfl, rfl, rfl, rfl, rfl, rfl, rfl, rfl, rfl, rfl, rfl, rfl, rfl, rfl⟩
theorem lX12_name_2 : tX12_name 76 = some (a_aload 0 77) ∧
  tX12_name 77 = some (a_get tT 12 0 80) ∧
  tX12_name 80 = some (a_const (nI 0) 81) ∧
  tX12_name 81 = some (a_iald tT 82) ∧
  tX12_name 82 = some (a_const (nI 1) 83) ∧
  tX12_name 83 = some (a_bin (fun x y => x - y) 84) ∧
  tX12_name 84 = some (a_iret) := ⟨rfl, rfl, rfl, rfl, rfl, rfl, rfl⟩
theorem lX12_person_0 : tX12_person 0 = some (a_iload 1 1) ∧
  tX12_person 1 = some (a_csI mX12_isPlace 1 4) ∧
  tX12_person 4 = some (a_if (fun x => x = nI 0) 29 7) ∧
  tX12_person 7 = some (a_iload 2 8) ∧
  tX12_person 8 = some (a_const (nI 0) 9) ∧
  tX12_person 9 = some (a_const (nI 9999) 12) ∧
  tX12_person 12 = some (a_csI mX12_isIn 3 15) ∧
  tX12_person 15 = some (a_if (fun x => x = nI 0) 29 18) ∧
  tX12_person 18 = some (a_aload 0 19) ∧
  tX12_person 19 = some (a_get tT 12 0 22) ∧
  tX12_person 22 = some (a_const (nI 1) 23) ∧
  tX12_person 23 = some (a_iald tT 24) ∧
  tX12_person 24 = some (a_const (nI 8) 26) ∧
  tX12_person 26 = some (a_cmp (fun x y => x = y) 29 31) ∧
  tX12_person 29 = some (a_const (-1) 30) ∧
  tX12_person 30 = some (a_iret) ∧
  tX12_person 31 = some (a_aload 0 32) ∧
  tX12_person 32 = some (a_get tT 12 0 35) ∧
  tX12_person 35 = some (a_const (nI 1) 36) ∧
  tX12_person 36 = some (a_iald tT 37) ∧
  tX12_person 37 = some (a_istore 3 38) ∧
  tX12_person 38 = some (a_const (nI 0) 39) ∧
  tX12_person 39 = some (a_istore 4 41) ∧
  tX12_person 41 = some (a_iload 4 43) := ⟨rfl, rfl, rfl, rfl, rfl, rfl, rfl, rfl, rfl, rfl, rfl, rfl, rfl, rfl, rfl, rfl, rfl, rfl, rfl, rfl, rfl, rfl, rfl, rfl⟩
theorem lX12_person_1 : tX12_person 43 = some (a_const (nI 16) 45) ∧
  tX12_person 45 = some (a_cmp (fun x y => y ≤ x) 62 48) ∧
  tX12_person 48 = some (a_aload 0 49) ∧
  tX12_person 49 = some (a_iload 3 50) ∧
  tX12_person 50 = some (a_iload 4 52) ∧
  tX12_person 52 = some (a_const (nI 0) 53) ∧
  tX12_person 53 = some (a_cvV tT mX12_gives 12 3 56) ∧
  tX12_person 56 = some (a_iinc 4 (nI 1) 59) ∧
  tX12_person 59 = some (a_goto 41) ∧
  tX12_person 62 = some (a_aload 0 63) ∧
  tX12_person 63 = some (a_iload 3 64) ∧
  tX12_person 64 = some (a_const (nI 0) 65) ∧
  tX12_person 65 = some (a_iload 1 66) ∧
  tX12_person 66 = some (a_cvV tT mX12_gives 12 3 69) ∧
  tX12_person 69 = some (a_aload 0 70) ∧
  tX12_person 70 = some (a_iload 3 71) ∧
  tX12_person 71 = some (a_const (nI 1) 72) ∧
  tX12_person 72 = some (a_iload 2 73) ∧
  tX12_person 73 = some (a_cvV tT mX12_gives 12 3 76) ∧
  tX12_person 76 = some (a_aload 0 77) ∧
  tX12_person 77 = some (a_get tT 12 0 80) ∧
  tX12_person 80 = some (a_const (nI 1) 81) ∧
  tX12_person 81 = some (a_dup2 82) ∧
  tX12_person 82 = some (a_iald tT 83) := ⟨rfl, rfl, rfl, rfl, rfl, rfl, rfl, rfl, rfl, rfl, rfl, rfl, rfl, rfl, rfl, rfl, rfl, rfl, rfl, rfl, rfl, rfl, rfl, rfl⟩
theorem lX12_person_2 : tX12_person 83 = some (a_const (nI 1) 84) ∧
  tX12_person 84 = some (a_bin (fun x y => x + y) 85) ∧
  tX12_person 85 = some (a_iast tT 86) ∧
  tX12_person 86 = some (a_aload 0 87) ∧
  tX12_person 87 = some (a_cvV tT mX12_forgets 12 0 90) ∧
  tX12_person 90 = some (a_iload 3 91) ∧
  tX12_person 91 = some (a_iret) := ⟨rfl, rfl, rfl, rfl, rfl, rfl, rfl⟩
theorem lX12_bridge_0 : tX12_bridge 0 = some (a_iload 1 1) ∧
  tX12_bridge 1 = some (a_csI mX12_isPlace 1 4) ∧
  tX12_bridge 4 = some (a_if (fun x => x = nI 0) 30 7) ∧
  tX12_bridge 7 = some (a_iload 2 8) ∧
  tX12_bridge 8 = some (a_csI mX12_isPlace 1 11) ∧
  tX12_bridge 11 = some (a_if (fun x => x = nI 0) 30 14) ∧
  tX12_bridge 14 = some (a_iload 1 15) ∧
  tX12_bridge 15 = some (a_iload 2 16) ∧
  tX12_bridge 16 = some (a_cmp (fun x y => x = y) 30 19) ∧
  tX12_bridge 19 = some (a_aload 0 20) ∧
  tX12_bridge 20 = some (a_get tT 12 0 23) ∧
  tX12_bridge 23 = some (a_const (nI 2) 24) ∧
  tX12_bridge 24 = some (a_iald tT 25) ∧
  tX12_bridge 25 = some (a_const (nI 12) 27) ∧
  tX12_bridge 27 = some (a_cmp (fun x y => x = y) 30 32) ∧
  tX12_bridge 30 = some (a_const (-1) 31) ∧
  tX12_bridge 31 = some (a_iret) ∧
  tX12_bridge 32 = some (a_aload 0 33) ∧
  tX12_bridge 33 = some (a_get tT 12 0 36) ∧
  tX12_bridge 36 = some (a_const (nI 50) 38) ∧
  tX12_bridge 38 = some (a_const (nI 2) 39) ∧
  tX12_bridge 39 = some (a_aload 0 40) ∧
  tX12_bridge 40 = some (a_get tT 12 0 43) ∧
  tX12_bridge 43 = some (a_const (nI 2) 44) := ⟨rfl, rfl, rfl, rfl, rfl, rfl, rfl, rfl, rfl, rfl, rfl, rfl, rfl, rfl, rfl, rfl, rfl, rfl, rfl, rfl, rfl, rfl, rfl, rfl⟩
theorem lX12_bridge_1 : tX12_bridge 44 = some (a_iald tT 45) ∧
  tX12_bridge 45 = some (a_bin (fun x y => x * y) 46) ∧
  tX12_bridge 46 = some (a_bin (fun x y => x + y) 47) ∧
  tX12_bridge 47 = some (a_iload 1 48) ∧
  tX12_bridge 48 = some (a_iast tT 49) ∧
  tX12_bridge 49 = some (a_aload 0 50) ∧
  tX12_bridge 50 = some (a_get tT 12 0 53) ∧
  tX12_bridge 53 = some (a_const (nI 50) 55) ∧
  tX12_bridge 55 = some (a_const (nI 2) 56) ∧
  tX12_bridge 56 = some (a_aload 0 57) ∧
  tX12_bridge 57 = some (a_get tT 12 0 60) ∧
  tX12_bridge 60 = some (a_const (nI 2) 61) ∧
  tX12_bridge 61 = some (a_iald tT 62) ∧
  tX12_bridge 62 = some (a_bin (fun x y => x * y) 63) ∧
  tX12_bridge 63 = some (a_bin (fun x y => x + y) 64) ∧
  tX12_bridge 64 = some (a_const (nI 1) 65) ∧
  tX12_bridge 65 = some (a_bin (fun x y => x + y) 66) ∧
  tX12_bridge 66 = some (a_iload 2 67) ∧
  tX12_bridge 67 = some (a_iast tT 68) ∧
  tX12_bridge 68 = some (a_aload 0 69) ∧
  tX12_bridge 69 = some (a_get tT 12 0 72) ∧
  tX12_bridge 72 = some (a_const (nI 2) 73) ∧
  tX12_bridge 73 = some (a_dup2 74) ∧
  tX12_bridge 74 = some (a_iald tT 75) := ⟨rfl, rfl, rfl, rfl, rfl, rfl, rfl, rfl, rfl, rfl, rfl, rfl, rfl, rfl, rfl, rfl, rfl, rfl, rfl, rfl, rfl, rfl, rfl, rfl⟩
theorem lX12_bridge_2 : tX12_bridge 75 = some (a_const (nI 1) 76) ∧
  tX12_bridge 76 = some (a_bin (fun x y => x + y) 77) ∧
  tX12_bridge 77 = some (a_iast tT 78) ∧
  tX12_bridge 78 = some (a_aload 0 79) ∧
  tX12_bridge 79 = some (a_cvV tT mX12_forgets 12 0 82) ∧
  tX12_bridge 82 = some (a_aload 0 83) ∧
  tX12_bridge 83 = some (a_get tT 12 0 86) ∧
  tX12_bridge 86 = some (a_const (nI 2) 87) ∧
  tX12_bridge 87 = some (a_iald tT 88) ∧
  tX12_bridge 88 = some (a_const (nI 1) 89) ∧
  tX12_bridge 89 = some (a_bin (fun x y => x - y) 90) ∧
  tX12_bridge 90 = some (a_iret) := ⟨rfl, rfl, rfl, rfl, rfl, rfl, rfl, rfl, rfl, rfl, rfl, rfl⟩
theorem lX12_has_0 : tX12_has 0 = some (a_const (nI 0) 1) ∧
  tX12_has 1 = some (a_istore 3 2) ∧
  tX12_has 2 = some (a_iload 3 3) ∧
  tX12_has 3 = some (a_aload 0 4) ∧
  tX12_has 4 = some (a_iload 1 5) ∧
  tX12_has 5 = some (a_const (nI 2) 6) ∧
  tX12_has 6 = some (a_cvI tT mX12_own 12 2 9) ∧
  tX12_has 9 = some (a_cmp (fun x y => y ≤ x) 32 12) ∧
  tX12_has 12 = some (a_aload 0 13) ∧
  tX12_has 13 = some (a_iload 1 14) ∧
  tX12_has 14 = some (a_const (nI 5) 15) ∧
  tX12_has 15 = some (a_iload 3 16) ∧
  tX12_has 16 = some (a_bin (fun x y => x + y) 17) ∧
  tX12_has 17 = some (a_cvI tT mX12_own 12 2 20) ∧
  tX12_has 20 = some (a_iload 2 21) ∧
  tX12_has 21 = some (a_cmp (fun x y => x = y) 24 26) ∧
  tX12_has 24 = some (a_const (nI 1) 25) ∧
  tX12_has 25 = some (a_zret) ∧
  tX12_has 26 = some (a_iinc 3 (nI 1) 29) ∧
  tX12_has 29 = some (a_goto 2) ∧
  tX12_has 32 = some (a_const (nI 0) 33) ∧
  tX12_has 33 = some (a_zret) := ⟨rfl, rfl, rfl, rfl, rfl, rfl, rfl, rfl, rfl, rfl, rfl, rfl, rfl, rfl, rfl, rfl, rfl, rfl, rfl, rfl, rfl, rfl⟩
theorem lX12_comes_0 : tX12_comes 0 = some (a_aload 0 1) ∧
  tX12_comes 1 = some (a_iload 1 2) ∧
  tX12_comes 2 = some (a_const (nI 5) 3) ∧
  tX12_comes 3 = some (a_aload 0 4) ∧
  tX12_comes 4 = some (a_iload 1 5) ∧
  tX12_comes 5 = some (a_const (nI 2) 6) ∧
  tX12_comes 6 = some (a_cvI tT mX12_own 12 2 9) ∧
  tX12_comes 9 = some (a_bin (fun x y => x + y) 10) ∧
  tX12_comes 10 = some (a_iload 2 11) ∧
  tX12_comes 11 = some (a_cvV tT mX12_gives 12 3 14) ∧
  tX12_comes 14 = some (a_aload 0 15) ∧
  tX12_comes 15 = some (a_iload 1 16) ∧
  tX12_comes 16 = some (a_const (nI 2) 17) ∧
  tX12_comes 17 = some (a_aload 0 18) ∧
  tX12_comes 18 = some (a_iload 1 19) ∧
  tX12_comes 19 = some (a_const (nI 2) 20) ∧
  tX12_comes 20 = some (a_cvI tT mX12_own 12 2 23) ∧
  tX12_comes 23 = some (a_const (nI 1) 24) ∧
  tX12_comes 24 = some (a_bin (fun x y => x + y) 25) ∧
  tX12_comes 25 = some (a_cvV tT mX12_gives 12 3 28) ∧
  tX12_comes 28 = some (a_ret) := ⟨rfl, rfl, rfl, rfl, rfl, rfl, rfl, rfl, rfl, rfl, rfl, rfl, rfl, rfl, rfl, rfl, rfl, rfl, rfl, rfl, rfl⟩
theorem lX12_canHave_0 : tX12_canHave 0 = some (a_aload 0 1) ∧
  tX12_canHave 1 = some (a_iload 1 2) ∧
  tX12_canHave 2 = some (a_const (nI 2) 3) ∧
  tX12_canHave 3 = some (a_cvI tT mX12_own 12 2 6) ∧
  tX12_canHave 6 = some (a_const (nI 9) 8) ∧
  tX12_canHave 8 = some (a_cmp (fun x y => y ≤ x) 24 11) ∧
  tX12_canHave 11 = some (a_aload 0 12) ∧
  tX12_canHave 12 = some (a_iload 1 13) ∧
  tX12_canHave 13 = some (a_iload 2 14) ∧
  tX12_canHave 14 = some (a_cvI tT mX12_has 12 2 17) ∧
  tX12_canHave 17 = some (a_if (fun x => x = nI 0) 20 24) ∧
  tX12_canHave 20 = some (a_const (nI 1) 21) ∧
  tX12_canHave 21 = some (a_goto 25) ∧
  tX12_canHave 24 = some (a_const (nI 0) 25) ∧
  tX12_canHave 25 = some (a_zret) := ⟨rfl, rfl, rfl, rfl, rfl, rfl, rfl, rfl, rfl, rfl, rfl, rfl, rfl, rfl, rfl⟩
theorem lX12_christen_0 : tX12_christen 0 = some (a_aload 0 1) ∧
  tX12_christen 1 = some (a_iload 1 2) ∧
  tX12_christen 2 = some (a_cvI tT mX12_isPerson 12 1 5) ∧
  tX12_christen 5 = some (a_if (fun x => x = nI 0) 25 8) ∧
  tX12_christen 8 = some (a_aload 0 9) ∧
  tX12_christen 9 = some (a_iload 2 10) ∧
  tX12_christen 10 = some (a_cvI tT mX12_isName 12 1 13) ∧
  tX12_christen 13 = some (a_if (fun x => x = nI 0) 25 16) ∧
  tX12_christen 16 = some (a_aload 0 17) ∧
  tX12_christen 17 = some (a_iload 1 18) ∧
  tX12_christen 18 = some (a_iload 2 19) ∧
  tX12_christen 19 = some (a_cvI tT mX12_canHave 12 2 22) ∧
  tX12_christen 22 = some (a_if (fun x => x = nI 0) 25 27) ∧
  tX12_christen 25 = some (a_const (nI 0) 26) ∧
  tX12_christen 26 = some (a_zret) ∧
  tX12_christen 27 = some (a_aload 0 28) ∧
  tX12_christen 28 = some (a_iload 1 29) ∧
  tX12_christen 29 = some (a_iload 2 30) ∧
  tX12_christen 30 = some (a_cvV tT mX12_comes 12 2 33) ∧
  tX12_christen 33 = some (a_aload 0 34) ∧
  tX12_christen 34 = some (a_iload 1 35) ∧
  tX12_christen 35 = some (a_const (nI 3) 36) ∧
  tX12_christen 36 = some (a_aload 0 37) ∧
  tX12_christen 37 = some (a_iload 1 38) := ⟨rfl, rfl, rfl, rfl, rfl, rfl, rfl, rfl, rfl, rfl, rfl, rfl, rfl, rfl, rfl, rfl, rfl, rfl, rfl, rfl, rfl, rfl, rfl, rfl⟩
theorem lX12_christen_1 : tX12_christen 38 = some (a_const (nI 3) 39) ∧
  tX12_christen 39 = some (a_cvI tT mX12_own 12 2 42) ∧
  tX12_christen 42 = some (a_const (nI 1) 43) ∧
  tX12_christen 43 = some (a_iload 2 44) ∧
  tX12_christen 44 = some (a_bin (fun x y => x <<< (y &&& 31)) 45) ∧
  tX12_christen 45 = some (a_bin (fun x y => x ||| y) 46) ∧
  tX12_christen 46 = some (a_cvV tT mX12_gives 12 3 49) ∧
  tX12_christen 49 = some (a_aload 0 50) ∧
  tX12_christen 50 = some (a_cvV tT mX12_forgets 12 0 53) ∧
  tX12_christen 53 = some (a_const (nI 1) 54) ∧
  tX12_christen 54 = some (a_zret) := ⟨rfl, rfl, rfl, rfl, rfl, rfl, rfl, rfl, rfl, rfl, rfl⟩
theorem lX12_set_0 : tX12_set 0 = some (a_iload 1 1) ∧
  tX12_set 1 = some (a_if (fun x => x = nI 0) 4 26) ∧
  tX12_set 4 = some (a_iload 3 5) ∧
  tX12_set 5 = some (a_const (nI 0) 6) ∧
  tX12_set 6 = some (a_const (nI 1000) 9) ∧
  tX12_set 9 = some (a_csI mX12_isIn 3 12) ∧
  tX12_set 12 = some (a_if (fun x => x = nI 0) 26 15) ∧
  tX12_set 15 = some (a_aload 0 16) ∧
  tX12_set 16 = some (a_get tT 12 0 19) ∧
  tX12_set 19 = some (a_const (nI 6) 21) ∧
  tX12_set 21 = some (a_iload 3 22) ∧
  tX12_set 22 = some (a_iast tT 23) ∧
  tX12_set 23 = some (a_goto 118) ∧
  tX12_set 26 = some (a_iload 1 27) ∧
  tX12_set 27 = some (a_const (nI 1) 28) ∧
  tX12_set 28 = some (a_cmp (fun x y => x = y) 31 52) ∧
  tX12_set 31 = some (a_iload 3 32) ∧
  tX12_set 32 = some (a_const (nI 0) 33) ∧
  tX12_set 33 = some (a_const (nI 99) 35) ∧
  tX12_set 35 = some (a_csI mX12_isIn 3 38) ∧
  tX12_set 38 = some (a_if (fun x => x = nI 0) 52 41) ∧
  tX12_set 41 = some (a_aload 0 42) ∧
  tX12_set 42 = some (a_get tT 12 0 45) ∧
  tX12_set 45 = some (a_const (nI 7) 47) := ⟨rfl, rfl, rfl, rfl, rfl, rfl, rfl, rfl, rfl, rfl, rfl, rfl, rfl, rfl, rfl, rfl, rfl, rfl, rfl, rfl, rfl, rfl, rfl, rfl⟩
theorem lX12_set_1 : tX12_set 47 = some (a_iload 3 48) ∧
  tX12_set 48 = some (a_iast tT 49) ∧
  tX12_set 49 = some (a_goto 118) ∧
  tX12_set 52 = some (a_iload 1 53) ∧
  tX12_set 53 = some (a_const (nI 2) 54) ∧
  tX12_set 54 = some (a_cmp (fun x y => x = y) 57 86) ∧
  tX12_set 57 = some (a_aload 0 58) ∧
  tX12_set 58 = some (a_iload 2 59) ∧
  tX12_set 59 = some (a_cvI tT mX12_isPerson 12 1 62) ∧
  tX12_set 62 = some (a_if (fun x => x = nI 0) 86 65) ∧
  tX12_set 65 = some (a_iload 3 66) ∧
  tX12_set 66 = some (a_const (nI 0) 67) ∧
  tX12_set 67 = some (a_const (nI 9999) 70) ∧
  tX12_set 70 = some (a_csI mX12_isIn 3 73) ∧
  tX12_set 73 = some (a_if (fun x => x = nI 0) 86 76) ∧
  tX12_set 76 = some (a_aload 0 77) ∧
  tX12_set 77 = some (a_iload 2 78) ∧
  tX12_set 78 = some (a_const (nI 1) 79) ∧
  tX12_set 79 = some (a_iload 3 80) ∧
  tX12_set 80 = some (a_cvV tT mX12_gives 12 3 83) ∧
  tX12_set 83 = some (a_goto 118) ∧
  tX12_set 86 = some (a_iload 1 87) ∧
  tX12_set 87 = some (a_const (nI 3) 88) ∧
  tX12_set 88 = some (a_cmp (fun x y => x = y) 91 116) := ⟨rfl, rfl, rfl, rfl, rfl, rfl, rfl, rfl, rfl, rfl, rfl, rfl, rfl, rfl, rfl, rfl, rfl, rfl, rfl, rfl, rfl, rfl, rfl, rfl⟩
theorem lX12_set_2 : tX12_set 91 = some (a_aload 0 92) ∧
  tX12_set 92 = some (a_iload 2 93) ∧
  tX12_set 93 = some (a_cvI tT mX12_isPerson 12 1 96) ∧
  tX12_set 96 = some (a_if (fun x => x = nI 0) 116 99) ∧
  tX12_set 99 = some (a_iload 3 100) ∧
  tX12_set 100 = some (a_csI mX12_isPlace 1 103) ∧
  tX12_set 103 = some (a_if (fun x => x = nI 0) 116 106) ∧
  tX12_set 106 = some (a_aload 0 107) ∧
  tX12_set 107 = some (a_iload 2 108) ∧
  tX12_set 108 = some (a_const (nI 0) 109) ∧
  tX12_set 109 = some (a_iload 3 110) ∧
  tX12_set 110 = some (a_cvV tT mX12_gives 12 3 113) ∧
  tX12_set 113 = some (a_goto 118) ∧
  tX12_set 116 = some (a_const (nI 0) 117) ∧
  tX12_set 117 = some (a_zret) ∧
  tX12_set 118 = some (a_aload 0 119) ∧
  tX12_set 119 = some (a_cvV tT mX12_forgets 12 0 122) ∧
  tX12_set 122 = some (a_const (nI 1) 123) ∧
  tX12_set 123 = some (a_zret) := ⟨rfl, rfl, rfl, rfl, rfl, rfl, rfl, rfl, rfl, rfl, rfl, rfl, rfl, rfl, rfl, rfl, rfl, rfl, rfl⟩
theorem lX12_feed_0 : tX12_feed 0 = some (a_aload 0 1) ∧
  tX12_feed 1 = some (a_get tT 12 13 4) ∧
  tX12_feed 4 = some (a_const (nI 20) 6) ∧
  tX12_feed 6 = some (a_bin (fun x y => x + y) 7) ∧
  tX12_feed 7 = some (a_const (nI 400) 10) ∧
  tX12_feed 10 = some (a_cmp (fun x y => x ≤ y) 15 13) ∧
  tX12_feed 13 = some (a_const (-1) 14) ∧
  tX12_feed 14 = some (a_iret) ∧
  tX12_feed 15 = some (a_const (nI 0) 16) ∧
  tX12_feed 16 = some (a_istore 6 18) ∧
  tX12_feed 18 = some (a_iload 6 20) ∧
  tX12_feed 20 = some (a_const (nI 20) 22) ∧
  tX12_feed 22 = some (a_cmp (fun x y => y ≤ x) 115 25) ∧
  tX12_feed 25 = some (a_iload 6 27) ∧
  tX12_feed 27 = some (a_const (nI 4) 28) ∧
  tX12_feed 28 = some (a_cmp (fun x y => y ≤ x) 35 31) ∧
  tX12_feed 31 = some (a_iload 1 32) ∧
  tX12_feed 32 = some (a_goto 71) ∧
  tX12_feed 35 = some (a_iload 6 37) ∧
  tX12_feed 37 = some (a_const (nI 8) 39) ∧
  tX12_feed 39 = some (a_cmp (fun x y => y ≤ x) 46 42) ∧
  tX12_feed 42 = some (a_iload 2 43) ∧
  tX12_feed 43 = some (a_goto 71) ∧
  tX12_feed 46 = some (a_iload 6 48) := ⟨rfl, rfl, rfl, rfl, rfl, rfl, rfl, rfl, rfl, rfl, rfl, rfl, rfl, rfl, rfl, rfl, rfl, rfl, rfl, rfl, rfl, rfl, rfl, rfl⟩
theorem lX12_feed_1 : tX12_feed 48 = some (a_const (nI 12) 50) ∧
  tX12_feed 50 = some (a_cmp (fun x y => y ≤ x) 57 53) ∧
  tX12_feed 53 = some (a_iload 3 54) ∧
  tX12_feed 54 = some (a_goto 71) ∧
  tX12_feed 57 = some (a_iload 6 59) ∧
  tX12_feed 59 = some (a_const (nI 16) 61) ∧
  tX12_feed 61 = some (a_cmp (fun x y => y ≤ x) 69 64) ∧
  tX12_feed 64 = some (a_iload 4 66) ∧
  tX12_feed 66 = some (a_goto 71) ∧
  tX12_feed 69 = some (a_iload 5 71) ∧
  tX12_feed 71 = some (a_istore 7 73) ∧
  tX12_feed 73 = some (a_aload 0 74) ∧
  tX12_feed 74 = some (a_get tT 12 8 77) ∧
  tX12_feed 77 = some (a_aload 0 78) ∧
  tX12_feed 78 = some (a_get tT 12 13 81) ∧
  tX12_feed 81 = some (a_iload 7 83) ∧
  tX12_feed 83 = some (a_const (nI 24) 85) ∧
  tX12_feed 85 = some (a_const (nI 8) 87) ∧
  tX12_feed 87 = some (a_iload 6 89) ∧
  tX12_feed 89 = some (a_const (nI 4) 90) ∧
  tX12_feed 90 = some (a_divr (fun x y => x - x / y * y) 91) ∧
  tX12_feed 91 = some (a_bin (fun x y => x * y) 92) ∧
  tX12_feed 92 = some (a_bin (fun x y => x - y) 93) ∧
  tX12_feed 93 = some (a_bin (fun x y => x >>> (y &&& 31)) 94) := ⟨rfl, rfl, rfl, rfl, rfl, rfl, rfl, rfl, rfl, rfl, rfl, rfl, rfl, rfl, rfl, rfl, rfl, rfl, rfl, rfl, rfl, rfl, rfl, rfl⟩
theorem lX12_feed_2 : tX12_feed 94 = some (a_const (nI 255) 97) ∧
  tX12_feed 97 = some (a_bin (fun x y => x &&& y) 98) ∧
  tX12_feed 98 = some (a_iast tT 99) ∧
  tX12_feed 99 = some (a_aload 0 100) ∧
  tX12_feed 100 = some (a_dup 101) ∧
  tX12_feed 101 = some (a_get tT 12 13 104) ∧
  tX12_feed 104 = some (a_const (nI 1) 105) ∧
  tX12_feed 105 = some (a_bin (fun x y => x + y) 106) ∧
  tX12_feed 106 = some (a_put tT 12 13 109) ∧
  tX12_feed 109 = some (a_iinc 6 (nI 1) 112) ∧
  tX12_feed 112 = some (a_goto 18) ∧
  tX12_feed 115 = some (a_aload 0 116) ∧
  tX12_feed 116 = some (a_get tT 12 13 119) ∧
  tX12_feed 119 = some (a_iret) := ⟨rfl, rfl, rfl, rfl, rfl, rfl, rfl, rfl, rfl, rfl, rfl, rfl, rfl, rfl⟩
theorem lX12_end_0 : tX12_end 0 = some (a_iload 1 1) ∧
  tX12_end 1 = some (a_const (nI 0) 2) ∧
  tX12_end 2 = some (a_aload 0 3) ∧
  tX12_end 3 = some (a_get tT 12 13 6) ∧
  tX12_end 6 = some (a_csI mX12_isIn 3 9) ∧
  tX12_end 9 = some (a_if (fun x => x = nI 0) 12 14) ∧
  tX12_end 12 = some (a_const (nI 0) 13) ∧
  tX12_end 13 = some (a_zret) ∧
  tX12_end 14 = some (a_aload 0 15) ∧
  tX12_end 15 = some (a_iload 1 16) ∧
  tX12_end 16 = some (a_put tT 12 13 19) ∧
  tX12_end 19 = some (a_const (nI 1) 20) ∧
  tX12_end 20 = some (a_zret) := ⟨rfl, rfl, rfl, rfl, rfl, rfl, rfl, rfl, rfl, rfl, rfl, rfl, rfl⟩
theorem lX12_see_0 : tX12_see 0 = some (a_iload 1 1) ∧
  tX12_see 1 = some (a_aload 0 2) ∧
  tX12_see 2 = some (a_get tT 12 13 5) ∧
  tX12_see 5 = some (a_cmp (fun x y => y ≤ x) 17 8) ∧
  tX12_see 8 = some (a_aload 0 9) ∧
  tX12_see 9 = some (a_get tT 12 8 12) ∧
  tX12_see 12 = some (a_iload 1 13) ∧
  tX12_see 13 = some (a_iald tT 14) ∧
  tX12_see 14 = some (a_goto 18) ∧
  tX12_see 17 = some (a_const (-1) 18) ∧
  tX12_see 18 = some (a_iret) := ⟨rfl, rfl, rfl, rfl, rfl, rfl, rfl, rfl, rfl, rfl, rfl⟩
theorem lX12_isLetter_0 : tX12_isLetter 0 = some (a_iload 0 1) ∧
  tX12_isLetter 1 = some (a_const (nI 97) 3) ∧
  tX12_isLetter 3 = some (a_const (nI 122) 5) ∧
  tX12_isLetter 5 = some (a_csI mX12_isIn 3 8) ∧
  tX12_isLetter 8 = some (a_if (fun x => x = nI 0) 11 22) ∧
  tX12_isLetter 11 = some (a_iload 0 12) ∧
  tX12_isLetter 12 = some (a_const (nI 65) 14) ∧
  tX12_isLetter 14 = some (a_const (nI 90) 16) ∧
  tX12_isLetter 16 = some (a_csI mX12_isIn 3 19) ∧
  tX12_isLetter 19 = some (a_if (fun x => x = nI 0) 26 22) ∧
  tX12_isLetter 22 = some (a_const (nI 1) 23) ∧
  tX12_isLetter 23 = some (a_goto 27) ∧
  tX12_isLetter 26 = some (a_const (nI 0) 27) ∧
  tX12_isLetter 27 = some (a_zret) := ⟨rfl, rfl, rfl, rfl, rfl, rfl, rfl, rfl, rfl, rfl, rfl, rfl, rfl, rfl⟩
theorem lX12_isDigit_0 : tX12_isDigit 0 = some (a_iload 0 1) ∧
  tX12_isDigit 1 = some (a_const (nI 48) 3) ∧
  tX12_isDigit 3 = some (a_const (nI 57) 5) ∧
  tX12_isDigit 5 = some (a_csI mX12_isIn 3 8) ∧
  tX12_isDigit 8 = some (a_zret) := ⟨rfl, rfl, rfl, rfl, rfl⟩
theorem lX12_is_0 : tX12_is 0 = some (a_aload 0 1) ∧
  tX12_is 1 = some (a_get tT 12 14 4) ∧
  tX12_is 4 = some (a_aload 0 5) ∧
  tX12_is 5 = some (a_get tT 12 16 8) ∧
  tX12_is 8 = some (a_bin (fun x y => x - y) 9) ∧
  tX12_is 9 = some (a_aload 1 10) ∧
  tX12_is 10 = some (a_cvS tT mJ0_length_8abf5 0 13) ∧
  tX12_is 13 = some (a_cmp (fun x y => x = y) 16 20) ∧
  tX12_is 16 = some (a_const (nI 1) 17) ∧
  tX12_is 17 = some (a_goto 21) ∧
  tX12_is 20 = some (a_const (nI 0) 21) ∧
  tX12_is 21 = some (a_istore 2 22) ∧
  tX12_is 22 = some (a_const (nI 0) 23) ∧
  tX12_is 23 = some (a_istore 3 24) ∧
  tX12_is 24 = some (a_iload 3 25) ∧
  tX12_is 25 = some (a_aload 1 26) ∧
  tX12_is 26 = some (a_cvS tT mJ0_length_8abf5 0 29) ∧
  tX12_is 29 = some (a_cmp (fun x y => y ≤ x) 67 32) ∧
  tX12_is 32 = some (a_iload 2 33) ∧
  tX12_is 33 = some (a_if (fun x => x = nI 0) 67 36) ∧
  tX12_is 36 = some (a_aload 0 37) ∧
  tX12_is 37 = some (a_get tT 12 8 40) ∧
  tX12_is 40 = some (a_aload 0 41) ∧
  tX12_is 41 = some (a_get tT 12 16 44) := ⟨rfl, rfl, rfl, rfl, rfl, rfl, rfl, rfl, rfl, rfl, rfl, rfl, rfl, rfl, rfl, rfl, rfl, rfl, rfl, rfl, rfl, rfl, rfl, rfl⟩
theorem lX12_is_1 : tX12_is 44 = some (a_iload 3 45) ∧
  tX12_is 45 = some (a_bin (fun x y => x + y) 46) ∧
  tX12_is 46 = some (a_iald tT 47) ∧
  tX12_is 47 = some (a_aload 1 48) ∧
  tX12_is 48 = some (a_iload 3 49) ∧
  tX12_is 49 = some (a_cvS tT mJ0_charAt_5068e 1 52) ∧
  tX12_is 52 = some (a_cmp (fun x y => x = y) 55 59) ∧
  tX12_is 55 = some (a_const (nI 1) 56) ∧
  tX12_is 56 = some (a_goto 60) ∧
  tX12_is 59 = some (a_const (nI 0) 60) ∧
  tX12_is 60 = some (a_istore 2 61) ∧
  tX12_is 61 = some (a_iinc 3 (nI 1) 64) ∧
  tX12_is 64 = some (a_goto 24) ∧
  tX12_is 67 = some (a_iload 2 68) ∧
  tX12_is 68 = some (a_zret) := ⟨rfl, rfl, rfl, rfl, rfl, rfl, rfl, rfl, rfl, rfl, rfl, rfl, rfl, rfl, rfl⟩
theorem lX12_nameWord_0 : tX12_nameWord 0 = some (a_aload 0 1) ∧
  tX12_nameWord 1 = some (a_ldS 8 3) ∧
  tX12_nameWord 3 = some (a_cvI tT mX12_is 12 1 6) ∧
  tX12_nameWord 6 = some (a_if (fun x => x = nI 0) 12 9) ∧
  tX12_nameWord 9 = some (a_const (nI 41) 11) ∧
  tX12_nameWord 11 = some (a_iret) ∧
  tX12_nameWord 12 = some (a_aload 0 13) ∧
  tX12_nameWord 13 = some (a_ldS 9 15) ∧
  tX12_nameWord 15 = some (a_cvI tT mX12_is 12 1 18) ∧
  tX12_nameWord 18 = some (a_if (fun x => x = nI 0) 24 21) ∧
  tX12_nameWord 21 = some (a_const (nI 42) 23) ∧
  tX12_nameWord 23 = some (a_iret) ∧
  tX12_nameWord 24 = some (a_aload 0 25) ∧
  tX12_nameWord 25 = some (a_ldS 10 27) ∧
  tX12_nameWord 27 = some (a_cvI tT mX12_is 12 1 30) ∧
  tX12_nameWord 30 = some (a_if (fun x => x = nI 0) 36 33) ∧
  tX12_nameWord 33 = some (a_const (nI 43) 35) ∧
  tX12_nameWord 35 = some (a_iret) ∧
  tX12_nameWord 36 = some (a_aload 0 37) ∧
  tX12_nameWord 37 = some (a_ldS 11 39) ∧
  tX12_nameWord 39 = some (a_cvI tT mX12_is 12 1 42) ∧
  tX12_nameWord 42 = some (a_if (fun x => x = nI 0) 48 45) ∧
  tX12_nameWord 45 = some (a_const (nI 44) 47) ∧
  tX12_nameWord 47 = some (a_iret) := ⟨rfl, rfl, rfl, rfl, rfl, rfl, rfl, rfl, rfl, rfl, rfl, rfl, rfl, rfl, rfl, rfl, rfl, rfl, rfl, rfl, rfl, rfl, rfl, rfl⟩
theorem lX12_nameWord_1 : tX12_nameWord 48 = some (a_aload 0 49) ∧
  tX12_nameWord 49 = some (a_ldS 12 51) ∧
  tX12_nameWord 51 = some (a_cvI tT mX12_is 12 1 54) ∧
  tX12_nameWord 54 = some (a_if (fun x => x = nI 0) 60 57) ∧
  tX12_nameWord 57 = some (a_const (nI 45) 59) ∧
  tX12_nameWord 59 = some (a_iret) ∧
  tX12_nameWord 60 = some (a_aload 0 61) ∧
  tX12_nameWord 61 = some (a_ldS 13 63) ∧
  tX12_nameWord 63 = some (a_cvI tT mX12_is 12 1 66) ∧
  tX12_nameWord 66 = some (a_if (fun x => x = nI 0) 72 69) ∧
  tX12_nameWord 69 = some (a_const (nI 46) 71) ∧
  tX12_nameWord 71 = some (a_iret) ∧
  tX12_nameWord 72 = some (a_aload 0 73) ∧
  tX12_nameWord 73 = some (a_ldS 14 75) ∧
  tX12_nameWord 75 = some (a_cvI tT mX12_is 12 1 78) ∧
  tX12_nameWord 78 = some (a_if (fun x => x = nI 0) 84 81) ∧
  tX12_nameWord 81 = some (a_const (nI 47) 83) ∧
  tX12_nameWord 83 = some (a_iret) ∧
  tX12_nameWord 84 = some (a_aload 0 85) ∧
  tX12_nameWord 85 = some (a_ldS 15 87) ∧
  tX12_nameWord 87 = some (a_cvI tT mX12_is 12 1 90) ∧
  tX12_nameWord 90 = some (a_if (fun x => x = nI 0) 98 93) ∧
  tX12_nameWord 93 = some (a_const (nI 48) 95) ∧
  tX12_nameWord 95 = some (a_goto 99) := ⟨rfl, rfl, rfl, rfl, rfl, rfl, rfl, rfl, rfl, rfl, rfl, rfl, rfl, rfl, rfl, rfl, rfl, rfl, rfl, rfl, rfl, rfl, rfl, rfl⟩
theorem lX12_nameWord_2 : tX12_nameWord 98 = some (a_const (nI 1) 99) ∧
  tX12_nameWord 99 = some (a_iret) := ⟨rfl, rfl⟩
theorem lX12_word_0 : tX12_word 0 = some (a_aload 0 1) ∧
  tX12_word 1 = some (a_ldS 2 3) ∧
  tX12_word 3 = some (a_cvI tT mX12_is 12 1 6) ∧
  tX12_word 6 = some (a_if (fun x => x = nI 0) 11 9) ∧
  tX12_word 9 = some (a_const (nI 3) 10) ∧
  tX12_word 10 = some (a_iret) ∧
  tX12_word 11 = some (a_aload 0 12) ∧
  tX12_word 12 = some (a_ldS 3 14) ∧
  tX12_word 14 = some (a_cvI tT mX12_is 12 1 17) ∧
  tX12_word 17 = some (a_if (fun x => x = nI 0) 22 20) ∧
  tX12_word 20 = some (a_const (nI 4) 21) ∧
  tX12_word 21 = some (a_iret) ∧
  tX12_word 22 = some (a_aload 0 23) ∧
  tX12_word 23 = some (a_ldS 4 25) ∧
  tX12_word 25 = some (a_cvI tT mX12_is 12 1 28) ∧
  tX12_word 28 = some (a_if (fun x => x = nI 0) 33 31) ∧
  tX12_word 31 = some (a_const (nI 5) 32) ∧
  tX12_word 32 = some (a_iret) ∧
  tX12_word 33 = some (a_aload 0 34) ∧
  tX12_word 34 = some (a_ldS 5 36) ∧
  tX12_word 36 = some (a_cvI tT mX12_is 12 1 39) ∧
  tX12_word 39 = some (a_if (fun x => x = nI 0) 45 42) ∧
  tX12_word 42 = some (a_const (nI 6) 44) ∧
  tX12_word 44 = some (a_iret) := ⟨rfl, rfl, rfl, rfl, rfl, rfl, rfl, rfl, rfl, rfl, rfl, rfl, rfl, rfl, rfl, rfl, rfl, rfl, rfl, rfl, rfl, rfl, rfl, rfl⟩
theorem lX12_word_1 : tX12_word 45 = some (a_aload 0 46) ∧
  tX12_word 46 = some (a_ldS 6 48) ∧
  tX12_word 48 = some (a_cvI tT mX12_is 12 1 51) ∧
  tX12_word 51 = some (a_if (fun x => x = nI 0) 57 54) ∧
  tX12_word 54 = some (a_const (nI 20) 56) ∧
  tX12_word 56 = some (a_iret) ∧
  tX12_word 57 = some (a_aload 0 58) ∧
  tX12_word 58 = some (a_ldS 7 60) ∧
  tX12_word 60 = some (a_cvI tT mX12_is 12 1 63) ∧
  tX12_word 63 = some (a_if (fun x => x = nI 0) 71 66) ∧
  tX12_word 66 = some (a_const (nI 21) 68) ∧
  tX12_word 68 = some (a_goto 75) ∧
  tX12_word 71 = some (a_aload 0 72) ∧
  tX12_word 72 = some (a_cvI tT mX12_nameWord 12 0 75) ∧
  tX12_word 75 = some (a_iret) := ⟨rfl, rfl, rfl, rfl, rfl, rfl, rfl, rfl, rfl, rfl, rfl, rfl, rfl, rfl, rfl⟩
theorem lX12_next0_0 : tX12_next0 0 = some (a_aload 0 1) ∧
  tX12_next0 1 = some (a_aload 0 2) ∧
  tX12_next0 2 = some (a_get tT 12 14 5) ∧
  tX12_next0 5 = some (a_cvI tT mX12_see 12 1 8) ∧
  tX12_next0 8 = some (a_const (nI 32) 10) ∧
  tX12_next0 10 = some (a_cmp (fun x y => x = y) 26 13) ∧
  tX12_next0 13 = some (a_aload 0 14) ∧
  tX12_next0 14 = some (a_aload 0 15) ∧
  tX12_next0 15 = some (a_get tT 12 14 18) ∧
  tX12_next0 18 = some (a_cvI tT mX12_see 12 1 21) ∧
  tX12_next0 21 = some (a_const (nI 10) 23) ∧
  tX12_next0 23 = some (a_cmp (fun x y => x = y) 26 39) ∧
  tX12_next0 26 = some (a_aload 0 27) ∧
  tX12_next0 27 = some (a_dup 28) ∧
  tX12_next0 28 = some (a_get tT 12 14 31) ∧
  tX12_next0 31 = some (a_const (nI 1) 32) ∧
  tX12_next0 32 = some (a_bin (fun x y => x + y) 33) ∧
  tX12_next0 33 = some (a_put tT 12 14 36) ∧
  tX12_next0 36 = some (a_goto 0) ∧
  tX12_next0 39 = some (a_aload 0 40) ∧
  tX12_next0 40 = some (a_aload 0 41) ∧
  tX12_next0 41 = some (a_get tT 12 14 44) ∧
  tX12_next0 44 = some (a_put tT 12 16 47) ∧
  tX12_next0 47 = some (a_aload 0 48) := ⟨rfl, rfl, rfl, rfl, rfl, rfl, rfl, rfl, rfl, rfl, rfl, rfl, rfl, rfl, rfl, rfl, rfl, rfl, rfl, rfl, rfl, rfl, rfl, rfl⟩
theorem lX12_next0_1 : tX12_next0 48 = some (a_aload 0 49) ∧
  tX12_next0 49 = some (a_get tT 12 14 52) ∧
  tX12_next0 52 = some (a_cvI tT mX12_see 12 1 55) ∧
  tX12_next0 55 = some (a_istore 1 56) ∧
  tX12_next0 56 = some (a_iload 1 57) ∧
  tX12_next0 57 = some (a_const (-1) 58) ∧
  tX12_next0 58 = some (a_cmp (fun x y => x = y) 61 69) ∧
  tX12_next0 61 = some (a_aload 0 62) ∧
  tX12_next0 62 = some (a_const (nI 0) 63) ∧
  tX12_next0 63 = some (a_put tT 12 15 66) ∧
  tX12_next0 66 = some (a_goto 306) ∧
  tX12_next0 69 = some (a_iload 1 70) ∧
  tX12_next0 70 = some (a_csI mX12_isLetter 1 73) ∧
  tX12_next0 73 = some (a_if (fun x => x = nI 0) 114 76) ∧
  tX12_next0 76 = some (a_aload 0 77) ∧
  tX12_next0 77 = some (a_aload 0 78) ∧
  tX12_next0 78 = some (a_get tT 12 14 81) ∧
  tX12_next0 81 = some (a_cvI tT mX12_see 12 1 84) ∧
  tX12_next0 84 = some (a_csI mX12_isLetter 1 87) ∧
  tX12_next0 87 = some (a_if (fun x => x = nI 0) 103 90) ∧
  tX12_next0 90 = some (a_aload 0 91) ∧
  tX12_next0 91 = some (a_dup 92) ∧
  tX12_next0 92 = some (a_get tT 12 14 95) ∧
  tX12_next0 95 = some (a_const (nI 1) 96) := ⟨rfl, rfl, rfl, rfl, rfl, rfl, rfl, rfl, rfl, rfl, rfl, rfl, rfl, rfl, rfl, rfl, rfl, rfl, rfl, rfl, rfl, rfl, rfl, rfl⟩
theorem lX12_next0_2 : tX12_next0 96 = some (a_bin (fun x y => x + y) 97) ∧
  tX12_next0 97 = some (a_put tT 12 14 100) ∧
  tX12_next0 100 = some (a_goto 76) ∧
  tX12_next0 103 = some (a_aload 0 104) ∧
  tX12_next0 104 = some (a_aload 0 105) ∧
  tX12_next0 105 = some (a_cvI tT mX12_word 12 0 108) ∧
  tX12_next0 108 = some (a_put tT 12 15 111) ∧
  tX12_next0 111 = some (a_goto 306) ∧
  tX12_next0 114 = some (a_iload 1 115) ∧
  tX12_next0 115 = some (a_csI mX12_isDigit 1 118) ∧
  tX12_next0 118 = some (a_if (fun x => x = nI 0) 214 121) ∧
  tX12_next0 121 = some (a_aload 0 122) ∧
  tX12_next0 122 = some (a_const (nI 0) 123) ∧
  tX12_next0 123 = some (a_put tT 12 17 126) ∧
  tX12_next0 126 = some (a_aload 0 127) ∧
  tX12_next0 127 = some (a_aload 0 128) ∧
  tX12_next0 128 = some (a_get tT 12 14 131) ∧
  tX12_next0 131 = some (a_cvI tT mX12_see 12 1 134) ∧
  tX12_next0 134 = some (a_csI mX12_isDigit 1 137) ∧
  tX12_next0 137 = some (a_if (fun x => x = nI 0) 189 140) ∧
  tX12_next0 140 = some (a_aload 0 141) ∧
  tX12_next0 141 = some (a_get tT 12 14 144) ∧
  tX12_next0 144 = some (a_aload 0 145) ∧
  tX12_next0 145 = some (a_get tT 12 16 148) := ⟨rfl, rfl, rfl, rfl, rfl, rfl, rfl, rfl, rfl, rfl, rfl, rfl, rfl, rfl, rfl, rfl, rfl, rfl, rfl, rfl, rfl, rfl, rfl, rfl⟩
theorem lX12_next0_3 : tX12_next0 148 = some (a_const (nI 4) 149) ∧
  tX12_next0 149 = some (a_bin (fun x y => x + y) 150) ∧
  tX12_next0 150 = some (a_cmp (fun x y => y ≤ x) 176 153) ∧
  tX12_next0 153 = some (a_aload 0 154) ∧
  tX12_next0 154 = some (a_const (nI 10) 156) ∧
  tX12_next0 156 = some (a_aload 0 157) ∧
  tX12_next0 157 = some (a_get tT 12 17 160) ∧
  tX12_next0 160 = some (a_bin (fun x y => x * y) 161) ∧
  tX12_next0 161 = some (a_aload 0 162) ∧
  tX12_next0 162 = some (a_aload 0 163) ∧
  tX12_next0 163 = some (a_get tT 12 14 166) ∧
  tX12_next0 166 = some (a_cvI tT mX12_see 12 1 169) ∧
  tX12_next0 169 = some (a_bin (fun x y => x + y) 170) ∧
  tX12_next0 170 = some (a_const (nI 48) 172) ∧
  tX12_next0 172 = some (a_bin (fun x y => x - y) 173) ∧
  tX12_next0 173 = some (a_put tT 12 17 176) ∧
  tX12_next0 176 = some (a_aload 0 177) ∧
  tX12_next0 177 = some (a_dup 178) ∧
  tX12_next0 178 = some (a_get tT 12 14 181) ∧
  tX12_next0 181 = some (a_const (nI 1) 182) ∧
  tX12_next0 182 = some (a_bin (fun x y => x + y) 183) ∧
  tX12_next0 183 = some (a_put tT 12 14 186) ∧
  tX12_next0 186 = some (a_goto 126) ∧
  tX12_next0 189 = some (a_aload 0 190) := ⟨rfl, rfl, rfl, rfl, rfl, rfl, rfl, rfl, rfl, rfl, rfl, rfl, rfl, rfl, rfl, rfl, rfl, rfl, rfl, rfl, rfl, rfl, rfl, rfl⟩
theorem lX12_next0_4 : tX12_next0 190 = some (a_aload 0 191) ∧
  tX12_next0 191 = some (a_get tT 12 14 194) ∧
  tX12_next0 194 = some (a_aload 0 195) ∧
  tX12_next0 195 = some (a_get tT 12 16 198) ∧
  tX12_next0 198 = some (a_bin (fun x y => x - y) 199) ∧
  tX12_next0 199 = some (a_const (nI 5) 200) ∧
  tX12_next0 200 = some (a_cmp (fun x y => y ≤ x) 207 203) ∧
  tX12_next0 203 = some (a_const (nI 2) 204) ∧
  tX12_next0 204 = some (a_goto 208) ∧
  tX12_next0 207 = some (a_const (nI 1) 208) ∧
  tX12_next0 208 = some (a_put tT 12 15 211) ∧
  tX12_next0 211 = some (a_goto 306) ∧
  tX12_next0 214 = some (a_aload 0 215) ∧
  tX12_next0 215 = some (a_dup 216) ∧
  tX12_next0 216 = some (a_get tT 12 14 219) ∧
  tX12_next0 219 = some (a_const (nI 1) 220) ∧
  tX12_next0 220 = some (a_bin (fun x y => x + y) 221) ∧
  tX12_next0 221 = some (a_put tT 12 14 224) ∧
  tX12_next0 224 = some (a_iload 1 225) ∧
  tX12_next0 225 = some (a_const (nI 59) 227) ∧
  tX12_next0 227 = some (a_cmp (fun x y => x = y) 284 230) ∧
  tX12_next0 230 = some (a_iload 1 231) ∧
  tX12_next0 231 = some (a_const (nI 43) 233) ∧
  tX12_next0 233 = some (a_cmp (fun x y => x = y) 284 236) := ⟨rfl, rfl, rfl, rfl, rfl, rfl, rfl, rfl, rfl, rfl, rfl, rfl, rfl, rfl, rfl, rfl, rfl, rfl, rfl, rfl, rfl, rfl, rfl, rfl⟩
theorem lX12_next0_5 : tX12_next0 236 = some (a_iload 1 237) ∧
  tX12_next0 237 = some (a_const (nI 45) 239) ∧
  tX12_next0 239 = some (a_cmp (fun x y => x = y) 284 242) ∧
  tX12_next0 242 = some (a_iload 1 243) ∧
  tX12_next0 243 = some (a_const (nI 42) 245) ∧
  tX12_next0 245 = some (a_cmp (fun x y => x = y) 284 248) ∧
  tX12_next0 248 = some (a_iload 1 249) ∧
  tX12_next0 249 = some (a_const (nI 47) 251) ∧
  tX12_next0 251 = some (a_cmp (fun x y => x = y) 284 254) ∧
  tX12_next0 254 = some (a_iload 1 255) ∧
  tX12_next0 255 = some (a_const (nI 40) 257) ∧
  tX12_next0 257 = some (a_cmp (fun x y => x = y) 284 260) ∧
  tX12_next0 260 = some (a_iload 1 261) ∧
  tX12_next0 261 = some (a_const (nI 41) 263) ∧
  tX12_next0 263 = some (a_cmp (fun x y => x = y) 284 266) ∧
  tX12_next0 266 = some (a_iload 1 267) ∧
  tX12_next0 267 = some (a_const (nI 60) 269) ∧
  tX12_next0 269 = some (a_cmp (fun x y => x = y) 284 272) ∧
  tX12_next0 272 = some (a_iload 1 273) ∧
  tX12_next0 273 = some (a_const (nI 61) 275) ∧
  tX12_next0 275 = some (a_cmp (fun x y => x = y) 284 278) ∧
  tX12_next0 278 = some (a_iload 1 279) ∧
  tX12_next0 279 = some (a_const (nI 62) 281) ∧
  tX12_next0 281 = some (a_cmp (fun x y => x = y) 284 288) := ⟨rfl, rfl, rfl, rfl, rfl, rfl, rfl, rfl, rfl, rfl, rfl, rfl, rfl, rfl, rfl, rfl, rfl, rfl, rfl, rfl, rfl, rfl, rfl, rfl⟩
theorem lX12_next0_6 : tX12_next0 284 = some (a_const (nI 1) 285) ∧
  tX12_next0 285 = some (a_goto 289) ∧
  tX12_next0 288 = some (a_const (nI 0) 289) ∧
  tX12_next0 289 = some (a_istore 2 290) ∧
  tX12_next0 290 = some (a_aload 0 291) ∧
  tX12_next0 291 = some (a_iload 2 292) ∧
  tX12_next0 292 = some (a_if (fun x => x = nI 0) 302 295) ∧
  tX12_next0 295 = some (a_const (nI 100) 297) ∧
  tX12_next0 297 = some (a_iload 1 298) ∧
  tX12_next0 298 = some (a_bin (fun x y => x + y) 299) ∧
  tX12_next0 299 = some (a_goto 303) ∧
  tX12_next0 302 = some (a_const (nI 1) 303) ∧
  tX12_next0 303 = some (a_put tT 12 15 306) ∧
  tX12_next0 306 = some (a_ret) := ⟨rfl, rfl, rfl, rfl, rfl, rfl, rfl, rfl, rfl, rfl, rfl, rfl, rfl, rfl⟩
theorem lX12_bad_0 : tX12_bad 0 = some (a_aload 0 1) ∧
  tX12_bad 1 = some (a_iload 1 2) ∧
  tX12_bad 2 = some (a_put tT 12 18 5) ∧
  tX12_bad 5 = some (a_aload 0 6) ∧
  tX12_bad 6 = some (a_aload 0 7) ∧
  tX12_bad 7 = some (a_get tT 12 16 10) ∧
  tX12_bad 10 = some (a_put tT 12 19 13) ∧
  tX12_bad 13 = some (a_const (nI 0) 14) ∧
  tX12_bad 14 = some (a_zret) := ⟨rfl, rfl, rfl, rfl, rfl, rfl, rfl, rfl, rfl⟩
theorem lX12_need_0 : tX12_need 0 = some (a_aload 0 1) ∧
  tX12_need 1 = some (a_get tT 12 15 4) ∧
  tX12_need 4 = some (a_iload 1 5) ∧
  tX12_need 5 = some (a_cmp (fun x y => x = y) 14 8) ∧
  tX12_need 8 = some (a_aload 0 9) ∧
  tX12_need 9 = some (a_const (nI 1) 10) ∧
  tX12_need 10 = some (a_cvI tT mX12_bad 12 1 13) ∧
  tX12_need 13 = some (a_zret) ∧
  tX12_need 14 = some (a_aload 0 15) ∧
  tX12_need 15 = some (a_cvV tT mX12_next0 12 0 18) ∧
  tX12_need 18 = some (a_const (nI 1) 19) ∧
  tX12_need 19 = some (a_zret) := ⟨rfl, rfl, rfl, rfl, rfl, rfl, rfl, rfl, rfl, rfl, rfl, rfl⟩
theorem lX12_lay_0 : tX12_lay 0 = some (a_aload 0 1) ∧
  tX12_lay 1 = some (a_get tT 12 7 4) ∧
  tX12_lay 4 = some (a_const (nI 2) 5) ∧
  tX12_lay 5 = some (a_aload 0 6) ∧
  tX12_lay 6 = some (a_get tT 12 12 9) ∧
  tX12_lay 9 = some (a_bin (fun x y => x * y) 10) ∧
  tX12_lay 10 = some (a_iload 1 11) ∧
  tX12_lay 11 = some (a_iast tT 12) ∧
  tX12_lay 12 = some (a_aload 0 13) ∧
  tX12_lay 13 = some (a_get tT 12 7 16) ∧
  tX12_lay 16 = some (a_const (nI 2) 17) ∧
  tX12_lay 17 = some (a_aload 0 18) ∧
  tX12_lay 18 = some (a_get tT 12 12 21) ∧
  tX12_lay 21 = some (a_bin (fun x y => x * y) 22) ∧
  tX12_lay 22 = some (a_const (nI 1) 23) ∧
  tX12_lay 23 = some (a_bin (fun x y => x + y) 24) ∧
  tX12_lay 24 = some (a_iload 2 25) ∧
  tX12_lay 25 = some (a_iast tT 26) ∧
  tX12_lay 26 = some (a_aload 0 27) ∧
  tX12_lay 27 = some (a_dup 28) ∧
  tX12_lay 28 = some (a_get tT 12 12 31) ∧
  tX12_lay 31 = some (a_const (nI 1) 32) ∧
  tX12_lay 32 = some (a_bin (fun x y => x + y) 33) ∧
  tX12_lay 33 = some (a_put tT 12 12 36) := ⟨rfl, rfl, rfl, rfl, rfl, rfl, rfl, rfl, rfl, rfl, rfl, rfl, rfl, rfl, rfl, rfl, rfl, rfl, rfl, rfl, rfl, rfl, rfl, rfl⟩
theorem lX12_lay_1 : tX12_lay 36 = some (a_ret) := rfl
theorem lX12_opens_0 : tX12_opens 0 = some (a_aload 0 1) ∧
  tX12_opens 1 = some (a_get tT 12 21 4) ∧
  tX12_opens 4 = some (a_const (nI 8) 6) ∧
  tX12_opens 6 = some (a_cmp (fun x y => x = y) 9 15) ∧
  tX12_opens 9 = some (a_aload 0 10) ∧
  tX12_opens 10 = some (a_const (nI 3) 11) ∧
  tX12_opens 11 = some (a_cvI tT mX12_bad 12 1 14) ∧
  tX12_opens 14 = some (a_zret) ∧
  tX12_opens 15 = some (a_aload 0 16) ∧
  tX12_opens 16 = some (a_dup 17) ∧
  tX12_opens 17 = some (a_get tT 12 21 20) ∧
  tX12_opens 20 = some (a_const (nI 1) 21) ∧
  tX12_opens 21 = some (a_bin (fun x y => x + y) 22) ∧
  tX12_opens 22 = some (a_put tT 12 21 25) ∧
  tX12_opens 25 = some (a_aload 0 26) ∧
  tX12_opens 26 = some (a_cvV tT mX12_next0 12 0 29) ∧
  tX12_opens 29 = some (a_const (nI 1) 30) ∧
  tX12_opens 30 = some (a_zret) := ⟨rfl, rfl, rfl, rfl, rfl, rfl, rfl, rfl, rfl, rfl, rfl, rfl, rfl, rfl, rfl, rfl, rfl, rfl⟩
theorem lX12_sumUp_0 : tX12_sumUp 0 = some (a_aload 0 1) ∧
  tX12_sumUp 1 = some (a_cvI tT mX12_product 12 0 4) ∧
  tX12_sumUp 4 = some (a_if (fun x => x = nI 0) 7 9) ∧
  tX12_sumUp 7 = some (a_const (nI 0) 8) ∧
  tX12_sumUp 8 = some (a_zret) ∧
  tX12_sumUp 9 = some (a_aload 0 10) ∧
  tX12_sumUp 10 = some (a_get tT 12 15 13) ∧
  tX12_sumUp 13 = some (a_const (nI 143) 16) ∧
  tX12_sumUp 16 = some (a_cmp (fun x y => x = y) 29 19) ∧
  tX12_sumUp 19 = some (a_aload 0 20) ∧
  tX12_sumUp 20 = some (a_get tT 12 15 23) ∧
  tX12_sumUp 23 = some (a_const (nI 145) 26) ∧
  tX12_sumUp 26 = some (a_cmp (fun x y => x = y) 29 69) ∧
  tX12_sumUp 29 = some (a_aload 0 30) ∧
  tX12_sumUp 30 = some (a_get tT 12 15 33) ∧
  tX12_sumUp 33 = some (a_const (nI 143) 36) ∧
  tX12_sumUp 36 = some (a_cmp (fun x y => x = y) 39 44) ∧
  tX12_sumUp 39 = some (a_const (nI 13) 41) ∧
  tX12_sumUp 41 = some (a_goto 46) ∧
  tX12_sumUp 44 = some (a_const (nI 14) 46) ∧
  tX12_sumUp 46 = some (a_istore 1 47) ∧
  tX12_sumUp 47 = some (a_aload 0 48) ∧
  tX12_sumUp 48 = some (a_cvV tT mX12_next0 12 0 51) ∧
  tX12_sumUp 51 = some (a_aload 0 52) := ⟨rfl, rfl, rfl, rfl, rfl, rfl, rfl, rfl, rfl, rfl, rfl, rfl, rfl, rfl, rfl, rfl, rfl, rfl, rfl, rfl, rfl, rfl, rfl, rfl⟩
theorem lX12_sumUp_1 : tX12_sumUp 52 = some (a_cvI tT mX12_product 12 0 55) ∧
  tX12_sumUp 55 = some (a_if (fun x => x = nI 0) 58 60) ∧
  tX12_sumUp 58 = some (a_const (nI 0) 59) ∧
  tX12_sumUp 59 = some (a_zret) ∧
  tX12_sumUp 60 = some (a_aload 0 61) ∧
  tX12_sumUp 61 = some (a_iload 1 62) ∧
  tX12_sumUp 62 = some (a_const (nI 0) 63) ∧
  tX12_sumUp 63 = some (a_cvV tT mX12_lay 12 2 66) ∧
  tX12_sumUp 66 = some (a_goto 9) ∧
  tX12_sumUp 69 = some (a_const (nI 1) 70) ∧
  tX12_sumUp 70 = some (a_zret) := ⟨rfl, rfl, rfl, rfl, rfl, rfl, rfl, rfl, rfl, rfl, rfl⟩
theorem lX12_product_0 : tX12_product 0 = some (a_aload 0 1) ∧
  tX12_product 1 = some (a_cvI tT mX12_unit 12 0 4) ∧
  tX12_product 4 = some (a_if (fun x => x = nI 0) 7 9) ∧
  tX12_product 7 = some (a_const (nI 0) 8) ∧
  tX12_product 8 = some (a_zret) ∧
  tX12_product 9 = some (a_aload 0 10) ∧
  tX12_product 10 = some (a_get tT 12 15 13) ∧
  tX12_product 13 = some (a_const (nI 142) 16) ∧
  tX12_product 16 = some (a_cmp (fun x y => x = y) 29 19) ∧
  tX12_product 19 = some (a_aload 0 20) ∧
  tX12_product 20 = some (a_get tT 12 15 23) ∧
  tX12_product 23 = some (a_const (nI 147) 26) ∧
  tX12_product 26 = some (a_cmp (fun x y => x = y) 29 115) ∧
  tX12_product 29 = some (a_aload 0 30) ∧
  tX12_product 30 = some (a_get tT 12 15 33) ∧
  tX12_product 33 = some (a_const (nI 147) 36) ∧
  tX12_product 36 = some (a_cmp (fun x y => x = y) 39 43) ∧
  tX12_product 39 = some (a_const (nI 1) 40) ∧
  tX12_product 40 = some (a_goto 44) ∧
  tX12_product 43 = some (a_const (nI 0) 44) ∧
  tX12_product 44 = some (a_istore 1 45) ∧
  tX12_product 45 = some (a_aload 0 46) ∧
  tX12_product 46 = some (a_cvV tT mX12_next0 12 0 49) ∧
  tX12_product 49 = some (a_iload 1 50) := ⟨rfl, rfl, rfl, rfl, rfl, rfl, rfl, rfl, rfl, rfl, rfl, rfl, rfl, rfl, rfl, rfl, rfl, rfl, rfl, rfl, rfl, rfl, rfl, rfl⟩
theorem lX12_product_1 : tX12_product 50 = some (a_if (fun x => x = nI 0) 96 53) ∧
  tX12_product 53 = some (a_aload 0 54) ∧
  tX12_product 54 = some (a_get tT 12 17 57) ∧
  tX12_product 57 = some (a_istore 2 58) ∧
  tX12_product 58 = some (a_aload 0 59) ∧
  tX12_product 59 = some (a_get tT 12 15 62) ∧
  tX12_product 62 = some (a_const (nI 2) 63) ∧
  tX12_product 63 = some (a_cmp (fun x y => x = y) 72 66) ∧
  tX12_product 66 = some (a_aload 0 67) ∧
  tX12_product 67 = some (a_const (nI 1) 68) ∧
  tX12_product 68 = some (a_cvI tT mX12_bad 12 1 71) ∧
  tX12_product 71 = some (a_zret) ∧
  tX12_product 72 = some (a_iload 2 73) ∧
  tX12_product 73 = some (a_if (fun x => x = nI 0) 76 82) ∧
  tX12_product 76 = some (a_aload 0 77) ∧
  tX12_product 77 = some (a_const (nI 2) 78) ∧
  tX12_product 78 = some (a_cvI tT mX12_bad 12 1 81) ∧
  tX12_product 81 = some (a_zret) ∧
  tX12_product 82 = some (a_aload 0 83) ∧
  tX12_product 83 = some (a_cvV tT mX12_next0 12 0 86) ∧
  tX12_product 86 = some (a_aload 0 87) ∧
  tX12_product 87 = some (a_const (nI 16) 89) ∧
  tX12_product 89 = some (a_iload 2 90) ∧
  tX12_product 90 = some (a_cvV tT mX12_lay 12 2 93) := ⟨rfl, rfl, rfl, rfl, rfl, rfl, rfl, rfl, rfl, rfl, rfl, rfl, rfl, rfl, rfl, rfl, rfl, rfl, rfl, rfl, rfl, rfl, rfl, rfl⟩
theorem lX12_product_2 : tX12_product 93 = some (a_goto 112) ∧
  tX12_product 96 = some (a_aload 0 97) ∧
  tX12_product 97 = some (a_cvI tT mX12_unit 12 0 100) ∧
  tX12_product 100 = some (a_if (fun x => x = nI 0) 103 105) ∧
  tX12_product 103 = some (a_const (nI 0) 104) ∧
  tX12_product 104 = some (a_zret) ∧
  tX12_product 105 = some (a_aload 0 106) ∧
  tX12_product 106 = some (a_const (nI 15) 108) ∧
  tX12_product 108 = some (a_const (nI 0) 109) ∧
  tX12_product 109 = some (a_cvV tT mX12_lay 12 2 112) ∧
  tX12_product 112 = some (a_goto 9) ∧
  tX12_product 115 = some (a_const (nI 1) 116) ∧
  tX12_product 116 = some (a_zret) := ⟨rfl, rfl, rfl, rfl, rfl, rfl, rfl, rfl, rfl, rfl, rfl, rfl, rfl⟩
theorem lX12_unit_0 : tX12_unit 0 = some (a_aload 0 1) ∧
  tX12_unit 1 = some (a_get tT 12 15 4) ∧
  tX12_unit 4 = some (a_const (nI 41) 6) ∧
  tX12_unit 6 = some (a_const (nI 48) 8) ∧
  tX12_unit 8 = some (a_csI mX12_isIn 3 11) ∧
  tX12_unit 11 = some (a_istore 1 12) ∧
  tX12_unit 12 = some (a_aload 0 13) ∧
  tX12_unit 13 = some (a_get tT 12 15 16) ∧
  tX12_unit 16 = some (a_const (nI 2) 17) ∧
  tX12_unit 17 = some (a_cmp (fun x y => x = y) 30 20) ∧
  tX12_unit 20 = some (a_iload 1 21) ∧
  tX12_unit 21 = some (a_if (fun x => x = nI 0) 24 30) ∧
  tX12_unit 24 = some (a_aload 0 25) ∧
  tX12_unit 25 = some (a_const (nI 1) 26) ∧
  tX12_unit 26 = some (a_cvI tT mX12_bad 12 1 29) ∧
  tX12_unit 29 = some (a_zret) ∧
  tX12_unit 30 = some (a_aload 0 31) ∧
  tX12_unit 31 = some (a_iload 1 32) ∧
  tX12_unit 32 = some (a_if (fun x => x = nI 0) 45 35) ∧
  tX12_unit 35 = some (a_aload 0 36) ∧
  tX12_unit 36 = some (a_get tT 12 15 39) ∧
  tX12_unit 39 = some (a_const (nI 40) 41) ∧
  tX12_unit 41 = some (a_bin (fun x y => x - y) 42) ∧
  tX12_unit 42 = some (a_goto 46) := ⟨rfl, rfl, rfl, rfl, rfl, rfl, rfl, rfl, rfl, rfl, rfl, rfl, rfl, rfl, rfl, rfl, rfl, rfl, rfl, rfl, rfl, rfl, rfl, rfl⟩
theorem lX12_unit_1 : tX12_unit 45 = some (a_const (nI 0) 46) ∧
  tX12_unit 46 = some (a_aload 0 47) ∧
  tX12_unit 47 = some (a_get tT 12 17 50) ∧
  tX12_unit 50 = some (a_cvV tT mX12_lay 12 2 53) ∧
  tX12_unit 53 = some (a_aload 0 54) ∧
  tX12_unit 54 = some (a_cvV tT mX12_next0 12 0 57) ∧
  tX12_unit 57 = some (a_const (nI 1) 58) ∧
  tX12_unit 58 = some (a_zret) := ⟨rfl, rfl, rfl, rfl, rfl, rfl, rfl, rfl⟩
theorem lX12_any_0 : tX12_any 0 = some (a_aload 0 1) ∧
  tX12_any 1 = some (a_cvI tT mX12_every 12 0 4) ∧
  tX12_any 4 = some (a_if (fun x => x = nI 0) 7 9) ∧
  tX12_any 7 = some (a_const (nI 0) 8) ∧
  tX12_any 8 = some (a_zret) ∧
  tX12_any 9 = some (a_aload 0 10) ∧
  tX12_any 10 = some (a_get tT 12 15 13) ∧
  tX12_any 13 = some (a_const (nI 4) 14) ∧
  tX12_any 14 = some (a_cmp (fun x y => x = y) 17 40) ∧
  tX12_any 17 = some (a_aload 0 18) ∧
  tX12_any 18 = some (a_cvV tT mX12_next0 12 0 21) ∧
  tX12_any 21 = some (a_aload 0 22) ∧
  tX12_any 22 = some (a_cvI tT mX12_every 12 0 25) ∧
  tX12_any 25 = some (a_if (fun x => x = nI 0) 28 30) ∧
  tX12_any 28 = some (a_const (nI 0) 29) ∧
  tX12_any 29 = some (a_zret) ∧
  tX12_any 30 = some (a_aload 0 31) ∧
  tX12_any 31 = some (a_const (nI 22) 33) ∧
  tX12_any 33 = some (a_const (nI 0) 34) ∧
  tX12_any 34 = some (a_cvV tT mX12_lay 12 2 37) ∧
  tX12_any 37 = some (a_goto 9) ∧
  tX12_any 40 = some (a_const (nI 1) 41) ∧
  tX12_any 41 = some (a_zret) := ⟨rfl, rfl, rfl, rfl, rfl, rfl, rfl, rfl, rfl, rfl, rfl, rfl, rfl, rfl, rfl, rfl, rfl, rfl, rfl, rfl, rfl, rfl, rfl⟩
theorem lX12_every_0 : tX12_every 0 = some (a_aload 0 1) ∧
  tX12_every 1 = some (a_cvI tT mX12_oneTest 12 0 4) ∧
  tX12_every 4 = some (a_if (fun x => x = nI 0) 7 9) ∧
  tX12_every 7 = some (a_const (nI 0) 8) ∧
  tX12_every 8 = some (a_zret) ∧
  tX12_every 9 = some (a_aload 0 10) ∧
  tX12_every 10 = some (a_get tT 12 15 13) ∧
  tX12_every 13 = some (a_const (nI 5) 14) ∧
  tX12_every 14 = some (a_cmp (fun x y => x = y) 17 40) ∧
  tX12_every 17 = some (a_aload 0 18) ∧
  tX12_every 18 = some (a_cvV tT mX12_next0 12 0 21) ∧
  tX12_every 21 = some (a_aload 0 22) ∧
  tX12_every 22 = some (a_cvI tT mX12_oneTest 12 0 25) ∧
  tX12_every 25 = some (a_if (fun x => x = nI 0) 28 30) ∧
  tX12_every 28 = some (a_const (nI 0) 29) ∧
  tX12_every 29 = some (a_zret) ∧
  tX12_every 30 = some (a_aload 0 31) ∧
  tX12_every 31 = some (a_const (nI 21) 33) ∧
  tX12_every 33 = some (a_const (nI 0) 34) ∧
  tX12_every 34 = some (a_cvV tT mX12_lay 12 2 37) ∧
  tX12_every 37 = some (a_goto 9) ∧
  tX12_every 40 = some (a_const (nI 1) 41) ∧
  tX12_every 41 = some (a_zret) := ⟨rfl, rfl, rfl, rfl, rfl, rfl, rfl, rfl, rfl, rfl, rfl, rfl, rfl, rfl, rfl, rfl, rfl, rfl, rfl, rfl, rfl, rfl, rfl⟩
theorem lX12_oneTest_0 : tX12_oneTest 0 = some (a_aload 0 1) ∧
  tX12_oneTest 1 = some (a_get tT 12 15 4) ∧
  tX12_oneTest 4 = some (a_const (nI 6) 6) ∧
  tX12_oneTest 6 = some (a_cmp (fun x y => x = y) 9 44) ∧
  tX12_oneTest 9 = some (a_aload 0 10) ∧
  tX12_oneTest 10 = some (a_cvI tT mX12_opens 12 0 13) ∧
  tX12_oneTest 13 = some (a_if (fun x => x = nI 0) 23 16) ∧
  tX12_oneTest 16 = some (a_aload 0 17) ∧
  tX12_oneTest 17 = some (a_cvI tT mX12_oneTest 12 0 20) ∧
  tX12_oneTest 20 = some (a_if (fun x => x = nI 0) 23 25) ∧
  tX12_oneTest 23 = some (a_const (nI 0) 24) ∧
  tX12_oneTest 24 = some (a_zret) ∧
  tX12_oneTest 25 = some (a_aload 0 26) ∧
  tX12_oneTest 26 = some (a_dup 27) ∧
  tX12_oneTest 27 = some (a_get tT 12 21 30) ∧
  tX12_oneTest 30 = some (a_const (nI 1) 31) ∧
  tX12_oneTest 31 = some (a_bin (fun x y => x - y) 32) ∧
  tX12_oneTest 32 = some (a_put tT 12 21 35) ∧
  tX12_oneTest 35 = some (a_aload 0 36) ∧
  tX12_oneTest 36 = some (a_const (nI 20) 38) ∧
  tX12_oneTest 38 = some (a_const (nI 0) 39) ∧
  tX12_oneTest 39 = some (a_cvV tT mX12_lay 12 2 42) ∧
  tX12_oneTest 42 = some (a_const (nI 1) 43) ∧
  tX12_oneTest 43 = some (a_zret) := ⟨rfl, rfl, rfl, rfl, rfl, rfl, rfl, rfl, rfl, rfl, rfl, rfl, rfl, rfl, rfl, rfl, rfl, rfl, rfl, rfl, rfl, rfl, rfl, rfl⟩
theorem lX12_oneTest_1 : tX12_oneTest 44 = some (a_aload 0 45) ∧
  tX12_oneTest 45 = some (a_get tT 12 15 48) ∧
  tX12_oneTest 48 = some (a_const (nI 140) 51) ∧
  tX12_oneTest 51 = some (a_cmp (fun x y => x = y) 54 92) ∧
  tX12_oneTest 54 = some (a_aload 0 55) ∧
  tX12_oneTest 55 = some (a_cvI tT mX12_opens 12 0 58) ∧
  tX12_oneTest 58 = some (a_if (fun x => x = nI 0) 78 61) ∧
  tX12_oneTest 61 = some (a_aload 0 62) ∧
  tX12_oneTest 62 = some (a_cvI tT mX12_any 12 0 65) ∧
  tX12_oneTest 65 = some (a_if (fun x => x = nI 0) 78 68) ∧
  tX12_oneTest 68 = some (a_aload 0 69) ∧
  tX12_oneTest 69 = some (a_const (nI 141) 72) ∧
  tX12_oneTest 72 = some (a_cvI tT mX12_need 12 1 75) ∧
  tX12_oneTest 75 = some (a_if (fun x => x = nI 0) 78 80) ∧
  tX12_oneTest 78 = some (a_const (nI 0) 79) ∧
  tX12_oneTest 79 = some (a_zret) ∧
  tX12_oneTest 80 = some (a_aload 0 81) ∧
  tX12_oneTest 81 = some (a_dup 82) ∧
  tX12_oneTest 82 = some (a_get tT 12 21 85) ∧
  tX12_oneTest 85 = some (a_const (nI 1) 86) ∧
  tX12_oneTest 86 = some (a_bin (fun x y => x - y) 87) ∧
  tX12_oneTest 87 = some (a_put tT 12 21 90) ∧
  tX12_oneTest 90 = some (a_const (nI 1) 91) ∧
  tX12_oneTest 91 = some (a_zret) := ⟨rfl, rfl, rfl, rfl, rfl, rfl, rfl, rfl, rfl, rfl, rfl, rfl, rfl, rfl, rfl, rfl, rfl, rfl, rfl, rfl, rfl, rfl, rfl, rfl⟩
theorem lX12_oneTest_2 : tX12_oneTest 92 = some (a_aload 0 93) ∧
  tX12_oneTest 93 = some (a_cvI tT mX12_sumUp 12 0 96) ∧
  tX12_oneTest 96 = some (a_if (fun x => x = nI 0) 99 101) ∧
  tX12_oneTest 99 = some (a_const (nI 0) 100) ∧
  tX12_oneTest 100 = some (a_zret) ∧
  tX12_oneTest 101 = some (a_aload 0 102) ∧
  tX12_oneTest 102 = some (a_get tT 12 15 105) ∧
  tX12_oneTest 105 = some (a_const (nI 160) 108) ∧
  tX12_oneTest 108 = some (a_cmp (fun x y => x = y) 111 116) ∧
  tX12_oneTest 111 = some (a_const (nI 17) 113) ∧
  tX12_oneTest 113 = some (a_goto 147) ∧
  tX12_oneTest 116 = some (a_aload 0 117) ∧
  tX12_oneTest 117 = some (a_get tT 12 15 120) ∧
  tX12_oneTest 120 = some (a_const (nI 161) 123) ∧
  tX12_oneTest 123 = some (a_cmp (fun x y => x = y) 126 131) ∧
  tX12_oneTest 126 = some (a_const (nI 18) 128) ∧
  tX12_oneTest 128 = some (a_goto 147) ∧
  tX12_oneTest 131 = some (a_aload 0 132) ∧
  tX12_oneTest 132 = some (a_get tT 12 15 135) ∧
  tX12_oneTest 135 = some (a_const (nI 162) 138) ∧
  tX12_oneTest 138 = some (a_cmp (fun x y => x = y) 141 146) ∧
  tX12_oneTest 141 = some (a_const (nI 19) 143) ∧
  tX12_oneTest 143 = some (a_goto 147) ∧
  tX12_oneTest 146 = some (a_const (-1) 147) := ⟨rfl, rfl, rfl, rfl, rfl, rfl, rfl, rfl, rfl, rfl, rfl, rfl, rfl, rfl, rfl, rfl, rfl, rfl, rfl, rfl, rfl, rfl, rfl, rfl⟩
theorem lX12_oneTest_3 : tX12_oneTest 147 = some (a_istore 1 148) ∧
  tX12_oneTest 148 = some (a_iload 1 149) ∧
  tX12_oneTest 149 = some (a_const (-1) 150) ∧
  tX12_oneTest 150 = some (a_cmp (fun x y => x = y) 153 159) ∧
  tX12_oneTest 153 = some (a_aload 0 154) ∧
  tX12_oneTest 154 = some (a_const (nI 1) 155) ∧
  tX12_oneTest 155 = some (a_cvI tT mX12_bad 12 1 158) ∧
  tX12_oneTest 158 = some (a_zret) ∧
  tX12_oneTest 159 = some (a_aload 0 160) ∧
  tX12_oneTest 160 = some (a_cvV tT mX12_next0 12 0 163) ∧
  tX12_oneTest 163 = some (a_aload 0 164) ∧
  tX12_oneTest 164 = some (a_cvI tT mX12_sumUp 12 0 167) ∧
  tX12_oneTest 167 = some (a_if (fun x => x = nI 0) 170 172) ∧
  tX12_oneTest 170 = some (a_const (nI 0) 171) ∧
  tX12_oneTest 171 = some (a_zret) ∧
  tX12_oneTest 172 = some (a_aload 0 173) ∧
  tX12_oneTest 173 = some (a_iload 1 174) ∧
  tX12_oneTest 174 = some (a_const (nI 0) 175) ∧
  tX12_oneTest 175 = some (a_cvV tT mX12_lay 12 2 178) ∧
  tX12_oneTest 178 = some (a_const (nI 1) 179) ∧
  tX12_oneTest 179 = some (a_zret) := ⟨rfl, rfl, rfl, rfl, rfl, rfl, rfl, rfl, rfl, rfl, rfl, rfl, rfl, rfl, rfl, rfl, rfl, rfl, rfl, rfl, rfl⟩
theorem lX12_aLine_0 : tX12_aLine 0 = some (a_aload 0 1) ∧
  tX12_aLine 1 = some (a_get tT 12 15 4) ∧
  tX12_aLine 4 = some (a_const (nI 20) 6) ∧
  tX12_aLine 6 = some (a_const (nI 21) 8) ∧
  tX12_aLine 8 = some (a_csI mX12_isIn 3 11) ∧
  tX12_aLine 11 = some (a_if (fun x => x = nI 0) 14 20) ∧
  tX12_aLine 14 = some (a_aload 0 15) ∧
  tX12_aLine 15 = some (a_const (nI 1) 16) ∧
  tX12_aLine 16 = some (a_cvI tT mX12_bad 12 1 19) ∧
  tX12_aLine 19 = some (a_zret) ∧
  tX12_aLine 20 = some (a_aload 0 21) ∧
  tX12_aLine 21 = some (a_get tT 12 11 24) ∧
  tX12_aLine 24 = some (a_const (nI 16) 26) ∧
  tX12_aLine 26 = some (a_cmp (fun x y => x = y) 29 35) ∧
  tX12_aLine 29 = some (a_aload 0 30) ∧
  tX12_aLine 30 = some (a_const (nI 3) 31) ∧
  tX12_aLine 31 = some (a_cvI tT mX12_bad 12 1 34) ∧
  tX12_aLine 34 = some (a_zret) ∧
  tX12_aLine 35 = some (a_aload 0 36) ∧
  tX12_aLine 36 = some (a_get tT 12 6 39) ∧
  tX12_aLine 39 = some (a_const (nI 3) 40) ∧
  tX12_aLine 40 = some (a_aload 0 41) ∧
  tX12_aLine 41 = some (a_get tT 12 11 44) ∧
  tX12_aLine 44 = some (a_bin (fun x y => x * y) 45) := ⟨rfl, rfl, rfl, rfl, rfl, rfl, rfl, rfl, rfl, rfl, rfl, rfl, rfl, rfl, rfl, rfl, rfl, rfl, rfl, rfl, rfl, rfl, rfl, rfl⟩
theorem lX12_aLine_1 : tX12_aLine 45 = some (a_aload 0 46) ∧
  tX12_aLine 46 = some (a_get tT 12 15 49) ∧
  tX12_aLine 49 = some (a_const (nI 20) 51) ∧
  tX12_aLine 51 = some (a_bin (fun x y => x - y) 52) ∧
  tX12_aLine 52 = some (a_iast tT 53) ∧
  tX12_aLine 53 = some (a_aload 0 54) ∧
  tX12_aLine 54 = some (a_const (nI 0) 55) ∧
  tX12_aLine 55 = some (a_put tT 12 21 58) ∧
  tX12_aLine 58 = some (a_aload 0 59) ∧
  tX12_aLine 59 = some (a_cvV tT mX12_next0 12 0 62) ∧
  tX12_aLine 62 = some (a_aload 0 63) ∧
  tX12_aLine 63 = some (a_get tT 12 6 66) ∧
  tX12_aLine 66 = some (a_const (nI 3) 67) ∧
  tX12_aLine 67 = some (a_aload 0 68) ∧
  tX12_aLine 68 = some (a_get tT 12 11 71) ∧
  tX12_aLine 71 = some (a_bin (fun x y => x * y) 72) ∧
  tX12_aLine 72 = some (a_const (nI 1) 73) ∧
  tX12_aLine 73 = some (a_bin (fun x y => x + y) 74) ∧
  tX12_aLine 74 = some (a_aload 0 75) ∧
  tX12_aLine 75 = some (a_get tT 12 12 78) ∧
  tX12_aLine 78 = some (a_iast tT 79) ∧
  tX12_aLine 79 = some (a_aload 0 80) ∧
  tX12_aLine 80 = some (a_get tT 12 15 83) ∧
  tX12_aLine 83 = some (a_const (nI 3) 84) := ⟨rfl, rfl, rfl, rfl, rfl, rfl, rfl, rfl, rfl, rfl, rfl, rfl, rfl, rfl, rfl, rfl, rfl, rfl, rfl, rfl, rfl, rfl, rfl, rfl⟩
theorem lX12_aLine_2 : tX12_aLine 84 = some (a_cmp (fun x y => x = y) 87 100) ∧
  tX12_aLine 87 = some (a_aload 0 88) ∧
  tX12_aLine 88 = some (a_cvV tT mX12_next0 12 0 91) ∧
  tX12_aLine 91 = some (a_aload 0 92) ∧
  tX12_aLine 92 = some (a_cvI tT mX12_any 12 0 95) ∧
  tX12_aLine 95 = some (a_if (fun x => x = nI 0) 98 100) ∧
  tX12_aLine 98 = some (a_const (nI 0) 99) ∧
  tX12_aLine 99 = some (a_zret) ∧
  tX12_aLine 100 = some (a_aload 0 101) ∧
  tX12_aLine 101 = some (a_get tT 12 6 104) ∧
  tX12_aLine 104 = some (a_const (nI 3) 105) ∧
  tX12_aLine 105 = some (a_aload 0 106) ∧
  tX12_aLine 106 = some (a_get tT 12 11 109) ∧
  tX12_aLine 109 = some (a_bin (fun x y => x * y) 110) ∧
  tX12_aLine 110 = some (a_const (nI 2) 111) ∧
  tX12_aLine 111 = some (a_bin (fun x y => x + y) 112) ∧
  tX12_aLine 112 = some (a_aload 0 113) ∧
  tX12_aLine 113 = some (a_get tT 12 12 116) ∧
  tX12_aLine 116 = some (a_iast tT 117) ∧
  tX12_aLine 117 = some (a_aload 0 118) ∧
  tX12_aLine 118 = some (a_const (nI 159) 121) ∧
  tX12_aLine 121 = some (a_cvI tT mX12_need 12 1 124) ∧
  tX12_aLine 124 = some (a_zret) := ⟨rfl, rfl, rfl, rfl, rfl, rfl, rfl, rfl, rfl, rfl, rfl, rfl, rfl, rfl, rfl, rfl, rfl, rfl, rfl, rfl, rfl, rfl, rfl⟩
theorem lX12_text_0 : tX12_text 0 = some (a_aload 0 1) ∧
  tX12_text 1 = some (a_const (nI 0) 2) ∧
  tX12_text 2 = some (a_put tT 12 18 5) ∧
  tX12_text 5 = some (a_aload 0 6) ∧
  tX12_text 6 = some (a_const (nI 0) 7) ∧
  tX12_text 7 = some (a_put tT 12 14 10) ∧
  tX12_text 10 = some (a_aload 0 11) ∧
  tX12_text 11 = some (a_const (nI 0) 12) ∧
  tX12_text 12 = some (a_put tT 12 11 15) ∧
  tX12_text 15 = some (a_aload 0 16) ∧
  tX12_text 16 = some (a_const (nI 0) 17) ∧
  tX12_text 17 = some (a_put tT 12 12 20) ∧
  tX12_text 20 = some (a_aload 0 21) ∧
  tX12_text 21 = some (a_cvV tT mX12_next0 12 0 24) ∧
  tX12_text 24 = some (a_const (nI 1) 25) ∧
  tX12_text 25 = some (a_istore 1 26) ∧
  tX12_text 26 = some (a_iload 1 27) ∧
  tX12_text 27 = some (a_if (fun x => x = nI 0) 63 30) ∧
  tX12_text 30 = some (a_aload 0 31) ∧
  tX12_text 31 = some (a_get tT 12 15 34) ∧
  tX12_text 34 = some (a_if (fun x => x = nI 0) 63 37) ∧
  tX12_text 37 = some (a_aload 0 38) ∧
  tX12_text 38 = some (a_cvI tT mX12_aLine 12 0 41) ∧
  tX12_text 41 = some (a_istore 1 42) := ⟨rfl, rfl, rfl, rfl, rfl, rfl, rfl, rfl, rfl, rfl, rfl, rfl, rfl, rfl, rfl, rfl, rfl, rfl, rfl, rfl, rfl, rfl, rfl, rfl⟩
theorem lX12_text_1 : tX12_text 42 = some (a_aload 0 43) ∧
  tX12_text 43 = some (a_dup 44) ∧
  tX12_text 44 = some (a_get tT 12 11 47) ∧
  tX12_text 47 = some (a_iload 1 48) ∧
  tX12_text 48 = some (a_if (fun x => x = nI 0) 55 51) ∧
  tX12_text 51 = some (a_const (nI 1) 52) ∧
  tX12_text 52 = some (a_goto 56) ∧
  tX12_text 55 = some (a_const (nI 0) 56) ∧
  tX12_text 56 = some (a_bin (fun x y => x + y) 57) ∧
  tX12_text 57 = some (a_put tT 12 11 60) ∧
  tX12_text 60 = some (a_goto 26) ∧
  tX12_text 63 = some (a_aload 0 64) ∧
  tX12_text 64 = some (a_const (nI 0) 65) ∧
  tX12_text 65 = some (a_put tT 12 13 68) ∧
  tX12_text 68 = some (a_aload 0 69) ∧
  tX12_text 69 = some (a_aload 0 70) ∧
  tX12_text 70 = some (a_get tT 12 18 73) ∧
  tX12_text 73 = some (a_put tT 12 20 76) ∧
  tX12_text 76 = some (a_aload 0 77) ∧
  tX12_text 77 = some (a_iload 1 78) ∧
  tX12_text 78 = some (a_if (fun x => x = nI 0) 85 81) ∧
  tX12_text 81 = some (a_const (-1) 82) ∧
  tX12_text 82 = some (a_goto 89) ∧
  tX12_text 85 = some (a_aload 0 86) := ⟨rfl, rfl, rfl, rfl, rfl, rfl, rfl, rfl, rfl, rfl, rfl, rfl, rfl, rfl, rfl, rfl, rfl, rfl, rfl, rfl, rfl, rfl, rfl, rfl⟩
theorem lX12_text_2 : tX12_text 86 = some (a_get tT 12 19 89) ∧
  tX12_text 89 = some (a_put tT 12 22 92) ∧
  tX12_text 92 = some (a_iload 1 93) ∧
  tX12_text 93 = some (a_if (fun x => x = nI 0) 96 98) ∧
  tX12_text 96 = some (a_const (-1) 97) ∧
  tX12_text 97 = some (a_iret) ∧
  tX12_text 98 = some (a_aload 0 99) ∧
  tX12_text 99 = some (a_get tT 12 0 102) ∧
  tX12_text 102 = some (a_const (nI 865) 105) ∧
  tX12_text 105 = some (a_aload 0 106) ∧
  tX12_text 106 = some (a_get tT 12 11 109) ∧
  tX12_text 109 = some (a_iast tT 110) ∧
  tX12_text 110 = some (a_const (nI 0) 111) ∧
  tX12_text 111 = some (a_istore 2 112) ∧
  tX12_text 112 = some (a_iload 2 113) ∧
  tX12_text 113 = some (a_aload 0 114) ∧
  tX12_text 114 = some (a_get tT 12 11 117) ∧
  tX12_text 117 = some (a_cmp (fun x y => y ≤ x) 184 120) ∧
  tX12_text 120 = some (a_aload 0 121) ∧
  tX12_text 121 = some (a_get tT 12 0 124) ∧
  tX12_text 124 = some (a_const (nI 870) 127) ∧
  tX12_text 127 = some (a_iload 2 128) ∧
  tX12_text 128 = some (a_bin (fun x y => x + y) 129) ∧
  tX12_text 129 = some (a_aload 0 130) := ⟨rfl, rfl, rfl, rfl, rfl, rfl, rfl, rfl, rfl, rfl, rfl, rfl, rfl, rfl, rfl, rfl, rfl, rfl, rfl, rfl, rfl, rfl, rfl, rfl⟩
theorem lX12_text_3 : tX12_text 130 = some (a_get tT 12 6 133) ∧
  tX12_text 133 = some (a_const (nI 3) 134) ∧
  tX12_text 134 = some (a_iload 2 135) ∧
  tX12_text 135 = some (a_bin (fun x y => x * y) 136) ∧
  tX12_text 136 = some (a_iald tT 137) ∧
  tX12_text 137 = some (a_iast tT 138) ∧
  tX12_text 138 = some (a_aload 0 139) ∧
  tX12_text 139 = some (a_get tT 12 0 142) ∧
  tX12_text 142 = some (a_const (nI 890) 145) ∧
  tX12_text 145 = some (a_iload 2 146) ∧
  tX12_text 146 = some (a_bin (fun x y => x + y) 147) ∧
  tX12_text 147 = some (a_aload 0 148) ∧
  tX12_text 148 = some (a_get tT 12 6 151) ∧
  tX12_text 151 = some (a_const (nI 3) 152) ∧
  tX12_text 152 = some (a_iload 2 153) ∧
  tX12_text 153 = some (a_bin (fun x y => x * y) 154) ∧
  tX12_text 154 = some (a_const (nI 1) 155) ∧
  tX12_text 155 = some (a_bin (fun x y => x + y) 156) ∧
  tX12_text 156 = some (a_iald tT 157) ∧
  tX12_text 157 = some (a_iast tT 158) ∧
  tX12_text 158 = some (a_aload 0 159) ∧
  tX12_text 159 = some (a_get tT 12 0 162) ∧
  tX12_text 162 = some (a_const (nI 910) 165) ∧
  tX12_text 165 = some (a_iload 2 166) := ⟨rfl, rfl, rfl, rfl, rfl, rfl, rfl, rfl, rfl, rfl, rfl, rfl, rfl, rfl, rfl, rfl, rfl, rfl, rfl, rfl, rfl, rfl, rfl, rfl⟩
theorem lX12_text_4 : tX12_text 166 = some (a_bin (fun x y => x + y) 167) ∧
  tX12_text 167 = some (a_aload 0 168) ∧
  tX12_text 168 = some (a_get tT 12 6 171) ∧
  tX12_text 171 = some (a_const (nI 3) 172) ∧
  tX12_text 172 = some (a_iload 2 173) ∧
  tX12_text 173 = some (a_bin (fun x y => x * y) 174) ∧
  tX12_text 174 = some (a_const (nI 2) 175) ∧
  tX12_text 175 = some (a_bin (fun x y => x + y) 176) ∧
  tX12_text 176 = some (a_iald tT 177) ∧
  tX12_text 177 = some (a_iast tT 178) ∧
  tX12_text 178 = some (a_iinc 2 (nI 1) 181) ∧
  tX12_text 181 = some (a_goto 112) ∧
  tX12_text 184 = some (a_const (nI 0) 185) ∧
  tX12_text 185 = some (a_istore 2 186) ∧
  tX12_text 186 = some (a_iload 2 187) ∧
  tX12_text 187 = some (a_const (nI 2) 188) ∧
  tX12_text 188 = some (a_aload 0 189) ∧
  tX12_text 189 = some (a_get tT 12 12 192) ∧
  tX12_text 192 = some (a_bin (fun x y => x * y) 193) ∧
  tX12_text 193 = some (a_cmp (fun x y => y ≤ x) 218 196) ∧
  tX12_text 196 = some (a_aload 0 197) ∧
  tX12_text 197 = some (a_get tT 12 0 200) ∧
  tX12_text 200 = some (a_const (nI 930) 203) ∧
  tX12_text 203 = some (a_iload 2 204) := ⟨rfl, rfl, rfl, rfl, rfl, rfl, rfl, rfl, rfl, rfl, rfl, rfl, rfl, rfl, rfl, rfl, rfl, rfl, rfl, rfl, rfl, rfl, rfl, rfl⟩
theorem lX12_text_5 : tX12_text 204 = some (a_bin (fun x y => x + y) 205) ∧
  tX12_text 205 = some (a_aload 0 206) ∧
  tX12_text 206 = some (a_get tT 12 7 209) ∧
  tX12_text 209 = some (a_iload 2 210) ∧
  tX12_text 210 = some (a_iald tT 211) ∧
  tX12_text 211 = some (a_iast tT 212) ∧
  tX12_text 212 = some (a_iinc 2 (nI 1) 215) ∧
  tX12_text 215 = some (a_goto 186) ∧
  tX12_text 218 = some (a_aload 0 219) ∧
  tX12_text 219 = some (a_get tT 12 11 222) ∧
  tX12_text 222 = some (a_iret) := ⟨rfl, rfl, rfl, rfl, rfl, rfl, rfl, rfl, rfl, rfl, rfl⟩
theorem lX12_fault_0 : tX12_fault 0 = some (a_iload 1 1) ∧
  tX12_fault 1 = some (a_if (fun x => x = nI 0) 4 11) ∧
  tX12_fault 4 = some (a_aload 0 5) ∧
  tX12_fault 5 = some (a_get tT 12 20 8) ∧
  tX12_fault 8 = some (a_goto 24) ∧
  tX12_fault 11 = some (a_iload 1 12) ∧
  tX12_fault 12 = some (a_const (nI 1) 13) ∧
  tX12_fault 13 = some (a_cmp (fun x y => x = y) 16 23) ∧
  tX12_fault 16 = some (a_aload 0 17) ∧
  tX12_fault 17 = some (a_get tT 12 22 20) ∧
  tX12_fault 20 = some (a_goto 24) ∧
  tX12_fault 23 = some (a_const (-1) 24) ∧
  tX12_fault 24 = some (a_iret) := ⟨rfl, rfl, rfl, rfl, rfl, rfl, rfl, rfl, rfl, rfl, rfl, rfl, rfl⟩
theorem lX12_both_0 : tX12_both 0 = some (a_iload 0 1) ∧
  tX12_both 1 = some (a_sw [(nI 13, 52), (nI 14, 56), (nI 15, 60), (nI 16, 101), (nI 17, 64), (nI 18, 75), (nI 19, 86), (nI 20, 101), (nI 21, 97)] 101) ∧
  tX12_both 52 = some (a_iload 1 53) ∧
  tX12_both 53 = some (a_iload 2 54) ∧
  tX12_both 54 = some (a_bin (fun x y => x + y) 55) ∧
  tX12_both 55 = some (a_iret) ∧
  tX12_both 56 = some (a_iload 1 57) ∧
  tX12_both 57 = some (a_iload 2 58) ∧
  tX12_both 58 = some (a_bin (fun x y => x - y) 59) ∧
  tX12_both 59 = some (a_iret) ∧
  tX12_both 60 = some (a_iload 1 61) ∧
  tX12_both 61 = some (a_iload 2 62) ∧
  tX12_both 62 = some (a_bin (fun x y => x * y) 63) ∧
  tX12_both 63 = some (a_iret) ∧
  tX12_both 64 = some (a_iload 1 65) ∧
  tX12_both 65 = some (a_iload 2 66) ∧
  tX12_both 66 = some (a_cmp (fun x y => y ≤ x) 73 69) ∧
  tX12_both 69 = some (a_const (nI 1) 70) ∧
  tX12_both 70 = some (a_goto 74) ∧
  tX12_both 73 = some (a_const (nI 0) 74) ∧
  tX12_both 74 = some (a_iret) ∧
  tX12_both 75 = some (a_iload 1 76) ∧
  tX12_both 76 = some (a_iload 2 77) ∧
  tX12_both 77 = some (a_cmp (fun x y => x = y) 80 84) := ⟨rfl, rfl, rfl, rfl, rfl, rfl, rfl, rfl, rfl, rfl, rfl, rfl, rfl, rfl, rfl, rfl, rfl, rfl, rfl, rfl, rfl, rfl, rfl, rfl⟩
theorem lX12_both_1 : tX12_both 80 = some (a_const (nI 1) 81) ∧
  tX12_both 81 = some (a_goto 85) ∧
  tX12_both 84 = some (a_const (nI 0) 85) ∧
  tX12_both 85 = some (a_iret) ∧
  tX12_both 86 = some (a_iload 1 87) ∧
  tX12_both 87 = some (a_iload 2 88) ∧
  tX12_both 88 = some (a_cmp (fun x y => x ≤ y) 95 91) ∧
  tX12_both 91 = some (a_const (nI 1) 92) ∧
  tX12_both 92 = some (a_goto 96) ∧
  tX12_both 95 = some (a_const (nI 0) 96) ∧
  tX12_both 96 = some (a_iret) ∧
  tX12_both 97 = some (a_iload 1 98) ∧
  tX12_both 98 = some (a_iload 2 99) ∧
  tX12_both 99 = some (a_bin (fun x y => x &&& y) 100) ∧
  tX12_both 100 = some (a_iret) ∧
  tX12_both 101 = some (a_iload 1 102) ∧
  tX12_both 102 = some (a_iload 2 103) ∧
  tX12_both 103 = some (a_bin (fun x y => x ||| y) 104) ∧
  tX12_both 104 = some (a_iret) := ⟨rfl, rfl, rfl, rfl, rfl, rfl, rfl, rfl, rfl, rfl, rfl, rfl, rfl, rfl, rfl, rfl, rfl, rfl, rfl⟩
theorem lX12_comesTo_0 : tX12_comesTo 0 = some (a_const (nI 0) 1) ∧
  tX12_comesTo 1 = some (a_istore 3 2) ∧
  tX12_comesTo 2 = some (a_iload 1 3) ∧
  tX12_comesTo 3 = some (a_istore 4 5) ∧
  tX12_comesTo 5 = some (a_iload 4 7) ∧
  tX12_comesTo 7 = some (a_iload 2 8) ∧
  tX12_comesTo 8 = some (a_cmp (fun x y => y ≤ x) 166 11) ∧
  tX12_comesTo 11 = some (a_aload 0 12) ∧
  tX12_comesTo 12 = some (a_get tT 12 0 15) ∧
  tX12_comesTo 15 = some (a_const (nI 930) 18) ∧
  tX12_comesTo 18 = some (a_const (nI 2) 19) ∧
  tX12_comesTo 19 = some (a_iload 4 21) ∧
  tX12_comesTo 21 = some (a_bin (fun x y => x * y) 22) ∧
  tX12_comesTo 22 = some (a_bin (fun x y => x + y) 23) ∧
  tX12_comesTo 23 = some (a_iald tT 24) ∧
  tX12_comesTo 24 = some (a_istore 5 26) ∧
  tX12_comesTo 26 = some (a_aload 0 27) ∧
  tX12_comesTo 27 = some (a_get tT 12 0 30) ∧
  tX12_comesTo 30 = some (a_const (nI 930) 33) ∧
  tX12_comesTo 33 = some (a_const (nI 2) 34) ∧
  tX12_comesTo 34 = some (a_iload 4 36) ∧
  tX12_comesTo 36 = some (a_bin (fun x y => x * y) 37) ∧
  tX12_comesTo 37 = some (a_bin (fun x y => x + y) 38) ∧
  tX12_comesTo 38 = some (a_const (nI 1) 39) := ⟨rfl, rfl, rfl, rfl, rfl, rfl, rfl, rfl, rfl, rfl, rfl, rfl, rfl, rfl, rfl, rfl, rfl, rfl, rfl, rfl, rfl, rfl, rfl, rfl⟩
theorem lX12_comesTo_1 : tX12_comesTo 39 = some (a_bin (fun x y => x + y) 40) ∧
  tX12_comesTo 40 = some (a_iald tT 41) ∧
  tX12_comesTo 41 = some (a_istore 6 43) ∧
  tX12_comesTo 43 = some (a_iload 5 45) ∧
  tX12_comesTo 45 = some (a_const (nI 13) 47) ∧
  tX12_comesTo 47 = some (a_cmp (fun x y => y ≤ x) 79 50) ∧
  tX12_comesTo 50 = some (a_aload 0 51) ∧
  tX12_comesTo 51 = some (a_get tT 12 9 54) ∧
  tX12_comesTo 54 = some (a_iload 3 55) ∧
  tX12_comesTo 55 = some (a_iload 5 57) ∧
  tX12_comesTo 57 = some (a_if (fun x => x = nI 0) 60 65) ∧
  tX12_comesTo 60 = some (a_iload 6 62) ∧
  tX12_comesTo 62 = some (a_goto 72) ∧
  tX12_comesTo 65 = some (a_aload 0 66) ∧
  tX12_comesTo 66 = some (a_get tT 12 10 69) ∧
  tX12_comesTo 69 = some (a_iload 5 71) ∧
  tX12_comesTo 71 = some (a_iald tT 72) ∧
  tX12_comesTo 72 = some (a_iast tT 73) ∧
  tX12_comesTo 73 = some (a_iinc 3 (nI 1) 76) ∧
  tX12_comesTo 76 = some (a_goto 160) ∧
  tX12_comesTo 79 = some (a_iload 5 81) ∧
  tX12_comesTo 81 = some (a_const (nI 16) 83) ∧
  tX12_comesTo 83 = some (a_cmp (fun x y => x = y) 86 102) ∧
  tX12_comesTo 86 = some (a_aload 0 87) := ⟨rfl, rfl, rfl, rfl, rfl, rfl, rfl, rfl, rfl, rfl, rfl, rfl, rfl, rfl, rfl, rfl, rfl, rfl, rfl, rfl, rfl, rfl, rfl, rfl⟩
theorem lX12_comesTo_2 : tX12_comesTo 87 = some (a_get tT 12 9 90) ∧
  tX12_comesTo 90 = some (a_iload 3 91) ∧
  tX12_comesTo 91 = some (a_const (nI 1) 92) ∧
  tX12_comesTo 92 = some (a_bin (fun x y => x - y) 93) ∧
  tX12_comesTo 93 = some (a_dup2 94) ∧
  tX12_comesTo 94 = some (a_iald tT 95) ∧
  tX12_comesTo 95 = some (a_iload 6 97) ∧
  tX12_comesTo 97 = some (a_divr (fun x y => x / y) 98) ∧
  tX12_comesTo 98 = some (a_iast tT 99) ∧
  tX12_comesTo 99 = some (a_goto 160) ∧
  tX12_comesTo 102 = some (a_iload 5 104) ∧
  tX12_comesTo 104 = some (a_const (nI 20) 106) ∧
  tX12_comesTo 106 = some (a_cmp (fun x y => x = y) 109 130) ∧
  tX12_comesTo 109 = some (a_aload 0 110) ∧
  tX12_comesTo 110 = some (a_get tT 12 9 113) ∧
  tX12_comesTo 113 = some (a_iload 3 114) ∧
  tX12_comesTo 114 = some (a_const (nI 1) 115) ∧
  tX12_comesTo 115 = some (a_bin (fun x y => x - y) 116) ∧
  tX12_comesTo 116 = some (a_const (nI 1) 117) ∧
  tX12_comesTo 117 = some (a_aload 0 118) ∧
  tX12_comesTo 118 = some (a_get tT 12 9 121) ∧
  tX12_comesTo 121 = some (a_iload 3 122) ∧
  tX12_comesTo 122 = some (a_const (nI 1) 123) ∧
  tX12_comesTo 123 = some (a_bin (fun x y => x - y) 124) := ⟨rfl, rfl, rfl, rfl, rfl, rfl, rfl, rfl, rfl, rfl, rfl, rfl, rfl, rfl, rfl, rfl, rfl, rfl, rfl, rfl, rfl, rfl, rfl, rfl⟩
theorem lX12_comesTo_3 : tX12_comesTo 124 = some (a_iald tT 125) ∧
  tX12_comesTo 125 = some (a_bin (fun x y => x - y) 126) ∧
  tX12_comesTo 126 = some (a_iast tT 127) ∧
  tX12_comesTo 127 = some (a_goto 160) ∧
  tX12_comesTo 130 = some (a_iinc 3 (-1) 133) ∧
  tX12_comesTo 133 = some (a_aload 0 134) ∧
  tX12_comesTo 134 = some (a_get tT 12 9 137) ∧
  tX12_comesTo 137 = some (a_iload 3 138) ∧
  tX12_comesTo 138 = some (a_const (nI 1) 139) ∧
  tX12_comesTo 139 = some (a_bin (fun x y => x - y) 140) ∧
  tX12_comesTo 140 = some (a_iload 5 142) ∧
  tX12_comesTo 142 = some (a_aload 0 143) ∧
  tX12_comesTo 143 = some (a_get tT 12 9 146) ∧
  tX12_comesTo 146 = some (a_iload 3 147) ∧
  tX12_comesTo 147 = some (a_const (nI 1) 148) ∧
  tX12_comesTo 148 = some (a_bin (fun x y => x - y) 149) ∧
  tX12_comesTo 149 = some (a_iald tT 150) ∧
  tX12_comesTo 150 = some (a_aload 0 151) ∧
  tX12_comesTo 151 = some (a_get tT 12 9 154) ∧
  tX12_comesTo 154 = some (a_iload 3 155) ∧
  tX12_comesTo 155 = some (a_iald tT 156) ∧
  tX12_comesTo 156 = some (a_csI mX12_both 3 159) ∧
  tX12_comesTo 159 = some (a_iast tT 160) ∧
  tX12_comesTo 160 = some (a_iinc 4 (nI 1) 163) := ⟨rfl, rfl, rfl, rfl, rfl, rfl, rfl, rfl, rfl, rfl, rfl, rfl, rfl, rfl, rfl, rfl, rfl, rfl, rfl, rfl, rfl, rfl, rfl, rfl⟩
theorem lX12_comesTo_4 : tX12_comesTo 163 = some (a_goto 5) ∧
  tX12_comesTo 166 = some (a_aload 0 167) ∧
  tX12_comesTo 167 = some (a_get tT 12 9 170) ∧
  tX12_comesTo 170 = some (a_const (nI 0) 171) ∧
  tX12_comesTo 171 = some (a_iald tT 172) ∧
  tX12_comesTo 172 = some (a_iret) := ⟨rfl, rfl, rfl, rfl, rfl, rfl⟩
theorem lX12_mayLeave_0 : tX12_mayLeave 0 = some (a_aload 0 1) ∧
  tX12_mayLeave 1 = some (a_iload 1 2) ∧
  tX12_mayLeave 2 = some (a_const (nI 5) 3) ∧
  tX12_mayLeave 3 = some (a_iload 2 4) ∧
  tX12_mayLeave 4 = some (a_bin (fun x y => x + y) 5) ∧
  tX12_mayLeave 5 = some (a_cvI tT mX12_own 12 2 8) ∧
  tX12_mayLeave 8 = some (a_istore 4 10) ∧
  tX12_mayLeave 10 = some (a_aload 0 11) ∧
  tX12_mayLeave 11 = some (a_get tT 12 10 14) ∧
  tX12_mayLeave 14 = some (a_const (nI 1) 15) ∧
  tX12_mayLeave 15 = some (a_aload 0 16) ∧
  tX12_mayLeave 16 = some (a_get tT 12 0 19) ∧
  tX12_mayLeave 19 = some (a_const (nI 10) 21) ∧
  tX12_mayLeave 21 = some (a_iload 4 23) ∧
  tX12_mayLeave 23 = some (a_bin (fun x y => x + y) 24) ∧
  tX12_mayLeave 24 = some (a_iald tT 25) ∧
  tX12_mayLeave 25 = some (a_iast tT 26) ∧
  tX12_mayLeave 26 = some (a_aload 0 27) ∧
  tX12_mayLeave 27 = some (a_get tT 12 10 30) ∧
  tX12_mayLeave 30 = some (a_const (nI 2) 31) ∧
  tX12_mayLeave 31 = some (a_aload 0 32) ∧
  tX12_mayLeave 32 = some (a_get tT 12 0 35) ∧
  tX12_mayLeave 35 = some (a_const (nI 30) 37) ∧
  tX12_mayLeave 37 = some (a_iload 4 39) := ⟨rfl, rfl, rfl, rfl, rfl, rfl, rfl, rfl, rfl, rfl, rfl, rfl, rfl, rfl, rfl, rfl, rfl, rfl, rfl, rfl, rfl, rfl, rfl, rfl⟩
theorem lX12_mayLeave_1 : tX12_mayLeave 39 = some (a_bin (fun x y => x + y) 40) ∧
  tX12_mayLeave 40 = some (a_iald tT 41) ∧
  tX12_mayLeave 41 = some (a_iast tT 42) ∧
  tX12_mayLeave 42 = some (a_aload 0 43) ∧
  tX12_mayLeave 43 = some (a_get tT 12 10 46) ∧
  tX12_mayLeave 46 = some (a_const (nI 3) 47) ∧
  tX12_mayLeave 47 = some (a_aload 0 48) ∧
  tX12_mayLeave 48 = some (a_iload 1 49) ∧
  tX12_mayLeave 49 = some (a_const (nI 2) 50) ∧
  tX12_mayLeave 50 = some (a_cvI tT mX12_own 12 2 53) ∧
  tX12_mayLeave 53 = some (a_iast tT 54) ∧
  tX12_mayLeave 54 = some (a_aload 0 55) ∧
  tX12_mayLeave 55 = some (a_get tT 12 10 58) ∧
  tX12_mayLeave 58 = some (a_const (nI 4) 59) ∧
  tX12_mayLeave 59 = some (a_iload 2 60) ∧
  tX12_mayLeave 60 = some (a_iast tT 61) ∧
  tX12_mayLeave 61 = some (a_aload 0 62) ∧
  tX12_mayLeave 62 = some (a_get tT 12 10 65) ∧
  tX12_mayLeave 65 = some (a_const (nI 5) 66) ∧
  tX12_mayLeave 66 = some (a_const (nI 0) 67) ∧
  tX12_mayLeave 67 = some (a_iast tT 68) ∧
  tX12_mayLeave 68 = some (a_const (nI 0) 69) ∧
  tX12_mayLeave 69 = some (a_istore 5 71) ∧
  tX12_mayLeave 71 = some (a_iload 5 73) := ⟨rfl, rfl, rfl, rfl, rfl, rfl, rfl, rfl, rfl, rfl, rfl, rfl, rfl, rfl, rfl, rfl, rfl, rfl, rfl, rfl, rfl, rfl, rfl, rfl⟩
theorem lX12_mayLeave_2 : tX12_mayLeave 73 = some (a_aload 0 74) ∧
  tX12_mayLeave 74 = some (a_get tT 12 0 77) ∧
  tX12_mayLeave 77 = some (a_const (nI 1) 78) ∧
  tX12_mayLeave 78 = some (a_iald tT 79) ∧
  tX12_mayLeave 79 = some (a_cmp (fun x y => y ≤ x) 119 82) ∧
  tX12_mayLeave 82 = some (a_aload 0 83) ∧
  tX12_mayLeave 83 = some (a_get tT 12 10 86) ∧
  tX12_mayLeave 86 = some (a_const (nI 5) 87) ∧
  tX12_mayLeave 87 = some (a_dup2 88) ∧
  tX12_mayLeave 88 = some (a_iald tT 89) ∧
  tX12_mayLeave 89 = some (a_iload 5 91) ∧
  tX12_mayLeave 91 = some (a_iload 1 92) ∧
  tX12_mayLeave 92 = some (a_cmp (fun x y => x = y) 110 95) ∧
  tX12_mayLeave 95 = some (a_aload 0 96) ∧
  tX12_mayLeave 96 = some (a_iload 5 98) ∧
  tX12_mayLeave 98 = some (a_iload 4 100) ∧
  tX12_mayLeave 100 = some (a_cvI tT mX12_has 12 2 103) ∧
  tX12_mayLeave 103 = some (a_if (fun x => x = nI 0) 110 106) ∧
  tX12_mayLeave 106 = some (a_const (nI 1) 107) ∧
  tX12_mayLeave 107 = some (a_goto 111) ∧
  tX12_mayLeave 110 = some (a_const (nI 0) 111) ∧
  tX12_mayLeave 111 = some (a_bin (fun x y => x + y) 112) ∧
  tX12_mayLeave 112 = some (a_iast tT 113) ∧
  tX12_mayLeave 113 = some (a_iinc 5 (nI 1) 116) := ⟨rfl, rfl, rfl, rfl, rfl, rfl, rfl, rfl, rfl, rfl, rfl, rfl, rfl, rfl, rfl, rfl, rfl, rfl, rfl, rfl, rfl, rfl, rfl, rfl⟩
theorem lX12_mayLeave_3 : tX12_mayLeave 116 = some (a_goto 71) ∧
  tX12_mayLeave 119 = some (a_aload 0 120) ∧
  tX12_mayLeave 120 = some (a_get tT 12 10 123) ∧
  tX12_mayLeave 123 = some (a_const (nI 6) 125) ∧
  tX12_mayLeave 125 = some (a_iload 3 126) ∧
  tX12_mayLeave 126 = some (a_iast tT 127) ∧
  tX12_mayLeave 127 = some (a_aload 0 128) ∧
  tX12_mayLeave 128 = some (a_get tT 12 10 131) ∧
  tX12_mayLeave 131 = some (a_const (nI 7) 133) ∧
  tX12_mayLeave 133 = some (a_aload 0 134) ∧
  tX12_mayLeave 134 = some (a_get tT 12 0 137) ∧
  tX12_mayLeave 137 = some (a_const (nI 3) 138) ∧
  tX12_mayLeave 138 = some (a_iald tT 139) ∧
  tX12_mayLeave 139 = some (a_iast tT 140) ∧
  tX12_mayLeave 140 = some (a_aload 0 141) ∧
  tX12_mayLeave 141 = some (a_get tT 12 10 144) ∧
  tX12_mayLeave 144 = some (a_const (nI 8) 146) ∧
  tX12_mayLeave 146 = some (a_aload 0 147) ∧
  tX12_mayLeave 147 = some (a_get tT 12 0 150) ∧
  tX12_mayLeave 150 = some (a_const (nI 220) 153) ∧
  tX12_mayLeave 153 = some (a_const (nI 20) 155) ∧
  tX12_mayLeave 155 = some (a_iload 3 156) ∧
  tX12_mayLeave 156 = some (a_bin (fun x y => x * y) 157) ∧
  tX12_mayLeave 157 = some (a_bin (fun x y => x + y) 158) := ⟨rfl, rfl, rfl, rfl, rfl, rfl, rfl, rfl, rfl, rfl, rfl, rfl, rfl, rfl, rfl, rfl, rfl, rfl, rfl, rfl, rfl, rfl, rfl, rfl⟩
theorem lX12_mayLeave_4 : tX12_mayLeave 158 = some (a_iload 4 160) ∧
  tX12_mayLeave 160 = some (a_bin (fun x y => x + y) 161) ∧
  tX12_mayLeave 161 = some (a_iald tT 162) ∧
  tX12_mayLeave 162 = some (a_iast tT 163) ∧
  tX12_mayLeave 163 = some (a_const (nI 0) 164) ∧
  tX12_mayLeave 164 = some (a_istore 5 166) ∧
  tX12_mayLeave 166 = some (a_iload 5 168) ∧
  tX12_mayLeave 168 = some (a_aload 0 169) ∧
  tX12_mayLeave 169 = some (a_get tT 12 0 172) ∧
  tX12_mayLeave 172 = some (a_const (nI 865) 175) ∧
  tX12_mayLeave 175 = some (a_iald tT 176) ∧
  tX12_mayLeave 176 = some (a_cmp (fun x y => y ≤ x) 260 179) ∧
  tX12_mayLeave 179 = some (a_aload 0 180) ∧
  tX12_mayLeave 180 = some (a_get tT 12 0 183) ∧
  tX12_mayLeave 183 = some (a_const (nI 910) 186) ∧
  tX12_mayLeave 186 = some (a_iload 5 188) ∧
  tX12_mayLeave 188 = some (a_bin (fun x y => x + y) 189) ∧
  tX12_mayLeave 189 = some (a_iald tT 190) ∧
  tX12_mayLeave 190 = some (a_aload 0 191) ∧
  tX12_mayLeave 191 = some (a_get tT 12 0 194) ∧
  tX12_mayLeave 194 = some (a_const (nI 890) 197) ∧
  tX12_mayLeave 197 = some (a_iload 5 199) ∧
  tX12_mayLeave 199 = some (a_bin (fun x y => x + y) 200) ∧
  tX12_mayLeave 200 = some (a_iald tT 201) := ⟨rfl, rfl, rfl, rfl, rfl, rfl, rfl, rfl, rfl, rfl, rfl, rfl, rfl, rfl, rfl, rfl, rfl, rfl, rfl, rfl, rfl, rfl, rfl, rfl⟩
theorem lX12_mayLeave_5 : tX12_mayLeave 201 = some (a_cmp (fun x y => x = y) 234 204) ∧
  tX12_mayLeave 204 = some (a_aload 0 205) ∧
  tX12_mayLeave 205 = some (a_aload 0 206) ∧
  tX12_mayLeave 206 = some (a_get tT 12 0 209) ∧
  tX12_mayLeave 209 = some (a_const (nI 890) 212) ∧
  tX12_mayLeave 212 = some (a_iload 5 214) ∧
  tX12_mayLeave 214 = some (a_bin (fun x y => x + y) 215) ∧
  tX12_mayLeave 215 = some (a_iald tT 216) ∧
  tX12_mayLeave 216 = some (a_aload 0 217) ∧
  tX12_mayLeave 217 = some (a_get tT 12 0 220) ∧
  tX12_mayLeave 220 = some (a_const (nI 910) 223) ∧
  tX12_mayLeave 223 = some (a_iload 5 225) ∧
  tX12_mayLeave 225 = some (a_bin (fun x y => x + y) 226) ∧
  tX12_mayLeave 226 = some (a_iald tT 227) ∧
  tX12_mayLeave 227 = some (a_cvI tT mX12_comesTo 12 2 230) ∧
  tX12_mayLeave 230 = some (a_const (nI 1) 231) ∧
  tX12_mayLeave 231 = some (a_cmp (fun x y => x = y) 234 254) ∧
  tX12_mayLeave 234 = some (a_aload 0 235) ∧
  tX12_mayLeave 235 = some (a_get tT 12 0 238) ∧
  tX12_mayLeave 238 = some (a_const (nI 870) 241) ∧
  tX12_mayLeave 241 = some (a_iload 5 243) ∧
  tX12_mayLeave 243 = some (a_bin (fun x y => x + y) 244) ∧
  tX12_mayLeave 244 = some (a_iald tT 245) ∧
  tX12_mayLeave 245 = some (a_if (fun x => x = nI 0) 248 252) := ⟨rfl, rfl, rfl, rfl, rfl, rfl, rfl, rfl, rfl, rfl, rfl, rfl, rfl, rfl, rfl, rfl, rfl, rfl, rfl, rfl, rfl, rfl, rfl, rfl⟩
theorem lX12_mayLeave_6 : tX12_mayLeave 248 = some (a_const (nI 1) 249) ∧
  tX12_mayLeave 249 = some (a_goto 253) ∧
  tX12_mayLeave 252 = some (a_const (nI 0) 253) ∧
  tX12_mayLeave 253 = some (a_zret) ∧
  tX12_mayLeave 254 = some (a_iinc 5 (nI 1) 257) ∧
  tX12_mayLeave 257 = some (a_goto 166) ∧
  tX12_mayLeave 260 = some (a_const (nI 1) 261) ∧
  tX12_mayLeave 261 = some (a_zret) := ⟨rfl, rfl, rfl, rfl, rfl, rfl, rfl, rfl⟩
theorem lX12_lettersOf_0 : tX12_lettersOf 0 = some (a_const (nI 0) 1) ∧
  tX12_lettersOf 1 = some (a_istore 2 2) ∧
  tX12_lettersOf 2 = some (a_const (nI 0) 3) ∧
  tX12_lettersOf 3 = some (a_istore 3 4) ∧
  tX12_lettersOf 4 = some (a_iload 3 5) ∧
  tX12_lettersOf 5 = some (a_aload 0 6) ∧
  tX12_lettersOf 6 = some (a_iload 1 7) ∧
  tX12_lettersOf 7 = some (a_const (nI 2) 8) ∧
  tX12_lettersOf 8 = some (a_cvI tT mX12_own 12 2 11) ∧
  tX12_lettersOf 11 = some (a_cmp (fun x y => y ≤ x) 39 14) ∧
  tX12_lettersOf 14 = some (a_iload 2 15) ∧
  tX12_lettersOf 15 = some (a_aload 0 16) ∧
  tX12_lettersOf 16 = some (a_get tT 12 0 19) ∧
  tX12_lettersOf 19 = some (a_const (nI 30) 21) ∧
  tX12_lettersOf 21 = some (a_aload 0 22) ∧
  tX12_lettersOf 22 = some (a_iload 1 23) ∧
  tX12_lettersOf 23 = some (a_const (nI 5) 24) ∧
  tX12_lettersOf 24 = some (a_iload 3 25) ∧
  tX12_lettersOf 25 = some (a_bin (fun x y => x + y) 26) ∧
  tX12_lettersOf 26 = some (a_cvI tT mX12_own 12 2 29) ∧
  tX12_lettersOf 29 = some (a_bin (fun x y => x + y) 30) ∧
  tX12_lettersOf 30 = some (a_iald tT 31) ∧
  tX12_lettersOf 31 = some (a_bin (fun x y => x + y) 32) ∧
  tX12_lettersOf 32 = some (a_istore 2 33) := ⟨rfl, rfl, rfl, rfl, rfl, rfl, rfl, rfl, rfl, rfl, rfl, rfl, rfl, rfl, rfl, rfl, rfl, rfl, rfl, rfl, rfl, rfl, rfl, rfl⟩
theorem lX12_lettersOf_1 : tX12_lettersOf 33 = some (a_iinc 3 (nI 1) 36) ∧
  tX12_lettersOf 36 = some (a_goto 4) ∧
  tX12_lettersOf 39 = some (a_iload 2 40) ∧
  tX12_lettersOf 40 = some (a_iret) := ⟨rfl, rfl, rfl, rfl⟩
theorem lX12_otherEnd_0 : tX12_otherEnd 0 = some (a_aload 0 1) ∧
  tX12_otherEnd 1 = some (a_get tT 12 0 4) ∧
  tX12_otherEnd 4 = some (a_const (nI 50) 6) ∧
  tX12_otherEnd 6 = some (a_const (nI 2) 7) ∧
  tX12_otherEnd 7 = some (a_iload 1 8) ∧
  tX12_otherEnd 8 = some (a_bin (fun x y => x * y) 9) ∧
  tX12_otherEnd 9 = some (a_bin (fun x y => x + y) 10) ∧
  tX12_otherEnd 10 = some (a_iald tT 11) ∧
  tX12_otherEnd 11 = some (a_istore 3 12) ∧
  tX12_otherEnd 12 = some (a_aload 0 13) ∧
  tX12_otherEnd 13 = some (a_get tT 12 0 16) ∧
  tX12_otherEnd 16 = some (a_const (nI 50) 18) ∧
  tX12_otherEnd 18 = some (a_const (nI 2) 19) ∧
  tX12_otherEnd 19 = some (a_iload 1 20) ∧
  tX12_otherEnd 20 = some (a_bin (fun x y => x * y) 21) ∧
  tX12_otherEnd 21 = some (a_bin (fun x y => x + y) 22) ∧
  tX12_otherEnd 22 = some (a_const (nI 1) 23) ∧
  tX12_otherEnd 23 = some (a_bin (fun x y => x + y) 24) ∧
  tX12_otherEnd 24 = some (a_iald tT 25) ∧
  tX12_otherEnd 25 = some (a_istore 4 27) ∧
  tX12_otherEnd 27 = some (a_iload 3 28) ∧
  tX12_otherEnd 28 = some (a_iload 2 29) ∧
  tX12_otherEnd 29 = some (a_cmp (fun x y => x = y) 32 37) ∧
  tX12_otherEnd 32 = some (a_iload 4 34) := ⟨rfl, rfl, rfl, rfl, rfl, rfl, rfl, rfl, rfl, rfl, rfl, rfl, rfl, rfl, rfl, rfl, rfl, rfl, rfl, rfl, rfl, rfl, rfl, rfl⟩
theorem lX12_otherEnd_1 : tX12_otherEnd 34 = some (a_goto 48) ∧
  tX12_otherEnd 37 = some (a_iload 4 39) ∧
  tX12_otherEnd 39 = some (a_iload 2 40) ∧
  tX12_otherEnd 40 = some (a_cmp (fun x y => x = y) 43 47) ∧
  tX12_otherEnd 43 = some (a_iload 3 44) ∧
  tX12_otherEnd 44 = some (a_goto 48) ∧
  tX12_otherEnd 47 = some (a_const (-1) 48) ∧
  tX12_otherEnd 48 = some (a_iret) := ⟨rfl, rfl, rfl, rfl, rfl, rfl, rfl, rfl⟩
theorem lX12_loses_0 : tX12_loses 0 = some (a_iload 2 1) ∧
  tX12_loses 1 = some (a_const (nI 1) 2) ∧
  tX12_loses 2 = some (a_bin (fun x y => x + y) 3) ∧
  tX12_loses 3 = some (a_istore 3 4) ∧
  tX12_loses 4 = some (a_iload 3 5) ∧
  tX12_loses 5 = some (a_aload 0 6) ∧
  tX12_loses 6 = some (a_iload 1 7) ∧
  tX12_loses 7 = some (a_const (nI 2) 8) ∧
  tX12_loses 8 = some (a_cvI tT mX12_own 12 2 11) ∧
  tX12_loses 11 = some (a_cmp (fun x y => y ≤ x) 38 14) ∧
  tX12_loses 14 = some (a_aload 0 15) ∧
  tX12_loses 15 = some (a_iload 1 16) ∧
  tX12_loses 16 = some (a_const (nI 5) 17) ∧
  tX12_loses 17 = some (a_iload 3 18) ∧
  tX12_loses 18 = some (a_bin (fun x y => x + y) 19) ∧
  tX12_loses 19 = some (a_const (nI 1) 20) ∧
  tX12_loses 20 = some (a_bin (fun x y => x - y) 21) ∧
  tX12_loses 21 = some (a_aload 0 22) ∧
  tX12_loses 22 = some (a_iload 1 23) ∧
  tX12_loses 23 = some (a_const (nI 5) 24) ∧
  tX12_loses 24 = some (a_iload 3 25) ∧
  tX12_loses 25 = some (a_bin (fun x y => x + y) 26) ∧
  tX12_loses 26 = some (a_cvI tT mX12_own 12 2 29) ∧
  tX12_loses 29 = some (a_cvV tT mX12_gives 12 3 32) := ⟨rfl, rfl, rfl, rfl, rfl, rfl, rfl, rfl, rfl, rfl, rfl, rfl, rfl, rfl, rfl, rfl, rfl, rfl, rfl, rfl, rfl, rfl, rfl, rfl⟩
theorem lX12_loses_1 : tX12_loses 32 = some (a_iinc 3 (nI 1) 35) ∧
  tX12_loses 35 = some (a_goto 4) ∧
  tX12_loses 38 = some (a_aload 0 39) ∧
  tX12_loses 39 = some (a_iload 1 40) ∧
  tX12_loses 40 = some (a_const (nI 2) 41) ∧
  tX12_loses 41 = some (a_aload 0 42) ∧
  tX12_loses 42 = some (a_iload 1 43) ∧
  tX12_loses 43 = some (a_const (nI 2) 44) ∧
  tX12_loses 44 = some (a_cvI tT mX12_own 12 2 47) ∧
  tX12_loses 47 = some (a_const (nI 1) 48) ∧
  tX12_loses 48 = some (a_bin (fun x y => x - y) 49) ∧
  tX12_loses 49 = some (a_cvV tT mX12_gives 12 3 52) ∧
  tX12_loses 52 = some (a_ret) := ⟨rfl, rfl, rfl, rfl, rfl, rfl, rfl, rfl, rfl, rfl, rfl, rfl, rfl⟩
theorem lX12_crosses_0 : tX12_crosses 0 = some (a_aload 0 1) ∧
  tX12_crosses 1 = some (a_iload 2 2) ∧
  tX12_crosses 2 = some (a_aload 0 3) ∧
  tX12_crosses 3 = some (a_iload 1 4) ∧
  tX12_crosses 4 = some (a_const (nI 0) 5) ∧
  tX12_crosses 5 = some (a_cvI tT mX12_own 12 2 8) ∧
  tX12_crosses 8 = some (a_cvI tT mX12_otherEnd 12 2 11) ∧
  tX12_crosses 11 = some (a_istore 3 12) ∧
  tX12_crosses 12 = some (a_aload 0 13) ∧
  tX12_crosses 13 = some (a_iload 1 14) ∧
  tX12_crosses 14 = some (a_cvI tT mX12_lettersOf 12 1 17) ∧
  tX12_crosses 17 = some (a_aload 0 18) ∧
  tX12_crosses 18 = some (a_get tT 12 0 21) ∧
  tX12_crosses 21 = some (a_const (nI 7) 23) ∧
  tX12_crosses 23 = some (a_iald tT 24) ∧
  tX12_crosses 24 = some (a_cmp (fun x y => y < x) 37 27) ∧
  tX12_crosses 27 = some (a_aload 0 28) ∧
  tX12_crosses 28 = some (a_iload 1 29) ∧
  tX12_crosses 29 = some (a_const (nI 0) 30) ∧
  tX12_crosses 30 = some (a_iload 3 31) ∧
  tX12_crosses 31 = some (a_cvV tT mX12_gives 12 3 34) ∧
  tX12_crosses 34 = some (a_const (nI 100) 36) ∧
  tX12_crosses 36 = some (a_iret) ∧
  tX12_crosses 37 = some (a_const (nI 0) 38) := ⟨rfl, rfl, rfl, rfl, rfl, rfl, rfl, rfl, rfl, rfl, rfl, rfl, rfl, rfl, rfl, rfl, rfl, rfl, rfl, rfl, rfl, rfl, rfl, rfl⟩
theorem lX12_crosses_1 : tX12_crosses 38 = some (a_istore 4 40) ∧
  tX12_crosses 40 = some (a_iload 4 42) ∧
  tX12_crosses 42 = some (a_aload 0 43) ∧
  tX12_crosses 43 = some (a_iload 1 44) ∧
  tX12_crosses 44 = some (a_const (nI 2) 45) ∧
  tX12_crosses 45 = some (a_cvI tT mX12_own 12 2 48) ∧
  tX12_crosses 48 = some (a_cmp (fun x y => y ≤ x) 68 51) ∧
  tX12_crosses 51 = some (a_aload 0 52) ∧
  tX12_crosses 52 = some (a_iload 1 53) ∧
  tX12_crosses 53 = some (a_iload 4 55) ∧
  tX12_crosses 55 = some (a_iload 2 56) ∧
  tX12_crosses 56 = some (a_cvI tT mX12_mayLeave 12 3 59) ∧
  tX12_crosses 59 = some (a_if (fun x => x = nI 0) 62 68) ∧
  tX12_crosses 62 = some (a_iinc 4 (nI 1) 65) ∧
  tX12_crosses 65 = some (a_goto 40) ∧
  tX12_crosses 68 = some (a_iload 4 70) ∧
  tX12_crosses 70 = some (a_aload 0 71) ∧
  tX12_crosses 71 = some (a_iload 1 72) ∧
  tX12_crosses 72 = some (a_const (nI 2) 73) ∧
  tX12_crosses 73 = some (a_cvI tT mX12_own 12 2 76) ∧
  tX12_crosses 76 = some (a_cmp (fun x y => x = y) 79 82) ∧
  tX12_crosses 79 = some (a_const (-2) 81) ∧
  tX12_crosses 81 = some (a_iret) ∧
  tX12_crosses 82 = some (a_aload 0 83) := ⟨rfl, rfl, rfl, rfl, rfl, rfl, rfl, rfl, rfl, rfl, rfl, rfl, rfl, rfl, rfl, rfl, rfl, rfl, rfl, rfl, rfl, rfl, rfl, rfl⟩
theorem lX12_crosses_2 : tX12_crosses 83 = some (a_iload 1 84) ∧
  tX12_crosses 84 = some (a_const (nI 5) 85) ∧
  tX12_crosses 85 = some (a_iload 4 87) ∧
  tX12_crosses 87 = some (a_bin (fun x y => x + y) 88) ∧
  tX12_crosses 88 = some (a_cvI tT mX12_own 12 2 91) ∧
  tX12_crosses 91 = some (a_istore 5 93) ∧
  tX12_crosses 93 = some (a_aload 0 94) ∧
  tX12_crosses 94 = some (a_iload 1 95) ∧
  tX12_crosses 95 = some (a_iload 4 97) ∧
  tX12_crosses 97 = some (a_cvV tT mX12_loses 12 2 100) ∧
  tX12_crosses 100 = some (a_aload 0 101) ∧
  tX12_crosses 101 = some (a_get tT 12 0 104) ∧
  tX12_crosses 104 = some (a_const (nI 220) 107) ∧
  tX12_crosses 107 = some (a_const (nI 20) 109) ∧
  tX12_crosses 109 = some (a_iload 2 110) ∧
  tX12_crosses 110 = some (a_bin (fun x y => x * y) 111) ∧
  tX12_crosses 111 = some (a_bin (fun x y => x + y) 112) ∧
  tX12_crosses 112 = some (a_iload 5 114) ∧
  tX12_crosses 114 = some (a_bin (fun x y => x + y) 115) ∧
  tX12_crosses 115 = some (a_dup2 116) ∧
  tX12_crosses 116 = some (a_iald tT 117) ∧
  tX12_crosses 117 = some (a_const (nI 1) 118) ∧
  tX12_crosses 118 = some (a_bin (fun x y => x + y) 119) ∧
  tX12_crosses 119 = some (a_iast tT 120) := ⟨rfl, rfl, rfl, rfl, rfl, rfl, rfl, rfl, rfl, rfl, rfl, rfl, rfl, rfl, rfl, rfl, rfl, rfl, rfl, rfl, rfl, rfl, rfl, rfl⟩
theorem lX12_crosses_3 : tX12_crosses 120 = some (a_aload 0 121) ∧
  tX12_crosses 121 = some (a_iload 1 122) ∧
  tX12_crosses 122 = some (a_const (nI 4) 123) ∧
  tX12_crosses 123 = some (a_aload 0 124) ∧
  tX12_crosses 124 = some (a_iload 1 125) ∧
  tX12_crosses 125 = some (a_const (nI 4) 126) ∧
  tX12_crosses 126 = some (a_cvI tT mX12_own 12 2 129) ∧
  tX12_crosses 129 = some (a_const (nI 1) 130) ∧
  tX12_crosses 130 = some (a_iload 5 132) ∧
  tX12_crosses 132 = some (a_bin (fun x y => x <<< (y &&& 31)) 133) ∧
  tX12_crosses 133 = some (a_bin (fun x y => x ||| y) 134) ∧
  tX12_crosses 134 = some (a_cvV tT mX12_gives 12 3 137) ∧
  tX12_crosses 137 = some (a_aload 0 138) ∧
  tX12_crosses 138 = some (a_iload 1 139) ∧
  tX12_crosses 139 = some (a_const (nI 0) 140) ∧
  tX12_crosses 140 = some (a_iload 3 141) ∧
  tX12_crosses 141 = some (a_cvV tT mX12_gives 12 3 144) ∧
  tX12_crosses 144 = some (a_iload 5 146) ∧
  tX12_crosses 146 = some (a_iret) := ⟨rfl, rfl, rfl, rfl, rfl, rfl, rfl, rfl, rfl, rfl, rfl, rfl, rfl, rfl, rfl, rfl, rfl, rfl, rfl⟩
theorem lX12_keeps_0 : tX12_keeps 0 = some (a_aload 0 1) ∧
  tX12_keeps 1 = some (a_get tT 12 4 4) ∧
  tX12_keeps 4 = some (a_const (nI 8) 6) ∧
  tX12_keeps 6 = some (a_cmp (fun x y => x = y) 9 50) ∧
  tX12_keeps 9 = some (a_const (nI 0) 10) ∧
  tX12_keeps 10 = some (a_istore 1 11) ∧
  tX12_keeps 11 = some (a_iload 1 12) ∧
  tX12_keeps 12 = some (a_const (nI 2597) 15) ∧
  tX12_keeps 15 = some (a_cmp (fun x y => y ≤ x) 40 18) ∧
  tX12_keeps 18 = some (a_aload 0 19) ∧
  tX12_keeps 19 = some (a_get tT 12 2 22) ∧
  tX12_keeps 22 = some (a_iload 1 23) ∧
  tX12_keeps 23 = some (a_aload 0 24) ∧
  tX12_keeps 24 = some (a_get tT 12 2 27) ∧
  tX12_keeps 27 = some (a_iload 1 28) ∧
  tX12_keeps 28 = some (a_const (nI 371) 31) ∧
  tX12_keeps 31 = some (a_bin (fun x y => x + y) 32) ∧
  tX12_keeps 32 = some (a_iald tT 33) ∧
  tX12_keeps 33 = some (a_iast tT 34) ∧
  tX12_keeps 34 = some (a_iinc 1 (nI 1) 37) ∧
  tX12_keeps 37 = some (a_goto 11) ∧
  tX12_keeps 40 = some (a_aload 0 41) ∧
  tX12_keeps 41 = some (a_dup 42) ∧
  tX12_keeps 42 = some (a_get tT 12 4 45) := ⟨rfl, rfl, rfl, rfl, rfl, rfl, rfl, rfl, rfl, rfl, rfl, rfl, rfl, rfl, rfl, rfl, rfl, rfl, rfl, rfl, rfl, rfl, rfl, rfl⟩
theorem lX12_keeps_1 : tX12_keeps 45 = some (a_const (nI 1) 46) ∧
  tX12_keeps 46 = some (a_bin (fun x y => x - y) 47) ∧
  tX12_keeps 47 = some (a_put tT 12 4 50) ∧
  tX12_keeps 50 = some (a_aload 0 51) ∧
  tX12_keeps 51 = some (a_get tT 12 2 54) ∧
  tX12_keeps 54 = some (a_const (nI 371) 57) ∧
  tX12_keeps 57 = some (a_aload 0 58) ∧
  tX12_keeps 58 = some (a_get tT 12 4 61) ∧
  tX12_keeps 61 = some (a_bin (fun x y => x * y) 62) ∧
  tX12_keeps 62 = some (a_aload 0 63) ∧
  tX12_keeps 63 = some (a_get tT 12 0 66) ∧
  tX12_keeps 66 = some (a_const (nI 4) 67) ∧
  tX12_keeps 67 = some (a_iald tT 68) ∧
  tX12_keeps 68 = some (a_iast tT 69) ∧
  tX12_keeps 69 = some (a_const (nI 0) 70) ∧
  tX12_keeps 70 = some (a_istore 1 71) ∧
  tX12_keeps 71 = some (a_iload 1 72) ∧
  tX12_keeps 72 = some (a_const (nI 370) 75) ∧
  tX12_keeps 75 = some (a_cmp (fun x y => y ≤ x) 110 78) ∧
  tX12_keeps 78 = some (a_aload 0 79) ∧
  tX12_keeps 79 = some (a_get tT 12 2 82) ∧
  tX12_keeps 82 = some (a_const (nI 371) 85) ∧
  tX12_keeps 85 = some (a_aload 0 86) ∧
  tX12_keeps 86 = some (a_get tT 12 4 89) := ⟨rfl, rfl, rfl, rfl, rfl, rfl, rfl, rfl, rfl, rfl, rfl, rfl, rfl, rfl, rfl, rfl, rfl, rfl, rfl, rfl, rfl, rfl, rfl, rfl⟩
theorem lX12_keeps_2 : tX12_keeps 89 = some (a_bin (fun x y => x * y) 90) ∧
  tX12_keeps 90 = some (a_const (nI 1) 91) ∧
  tX12_keeps 91 = some (a_bin (fun x y => x + y) 92) ∧
  tX12_keeps 92 = some (a_iload 1 93) ∧
  tX12_keeps 93 = some (a_bin (fun x y => x + y) 94) ∧
  tX12_keeps 94 = some (a_aload 0 95) ∧
  tX12_keeps 95 = some (a_get tT 12 0 98) ∧
  tX12_keeps 98 = some (a_const (nI 90) 100) ∧
  tX12_keeps 100 = some (a_iload 1 101) ∧
  tX12_keeps 101 = some (a_bin (fun x y => x + y) 102) ∧
  tX12_keeps 102 = some (a_iald tT 103) ∧
  tX12_keeps 103 = some (a_iast tT 104) ∧
  tX12_keeps 104 = some (a_iinc 1 (nI 1) 107) ∧
  tX12_keeps 107 = some (a_goto 71) ∧
  tX12_keeps 110 = some (a_aload 0 111) ∧
  tX12_keeps 111 = some (a_dup 112) ∧
  tX12_keeps 112 = some (a_get tT 12 4 115) ∧
  tX12_keeps 115 = some (a_const (nI 1) 116) ∧
  tX12_keeps 116 = some (a_bin (fun x y => x + y) 117) ∧
  tX12_keeps 117 = some (a_put tT 12 4 120) ∧
  tX12_keeps 120 = some (a_ret) := ⟨rfl, rfl, rfl, rfl, rfl, rfl, rfl, rfl, rfl, rfl, rfl, rfl, rfl, rfl, rfl, rfl, rfl, rfl, rfl, rfl, rfl⟩
theorem lX12_undo_0 : tX12_undo 0 = some (a_aload 0 1) ∧
  tX12_undo 1 = some (a_get tT 12 4 4) ∧
  tX12_undo 4 = some (a_if (fun x => x = nI 0) 7 9) ∧
  tX12_undo 7 = some (a_const (nI 0) 8) ∧
  tX12_undo 8 = some (a_zret) ∧
  tX12_undo 9 = some (a_aload 0 10) ∧
  tX12_undo 10 = some (a_dup 11) ∧
  tX12_undo 11 = some (a_get tT 12 4 14) ∧
  tX12_undo 14 = some (a_const (nI 1) 15) ∧
  tX12_undo 15 = some (a_bin (fun x y => x - y) 16) ∧
  tX12_undo 16 = some (a_put tT 12 4 19) ∧
  tX12_undo 19 = some (a_aload 0 20) ∧
  tX12_undo 20 = some (a_get tT 12 0 23) ∧
  tX12_undo 23 = some (a_const (nI 4) 24) ∧
  tX12_undo 24 = some (a_aload 0 25) ∧
  tX12_undo 25 = some (a_get tT 12 2 28) ∧
  tX12_undo 28 = some (a_const (nI 371) 31) ∧
  tX12_undo 31 = some (a_aload 0 32) ∧
  tX12_undo 32 = some (a_get tT 12 4 35) ∧
  tX12_undo 35 = some (a_bin (fun x y => x * y) 36) ∧
  tX12_undo 36 = some (a_iald tT 37) ∧
  tX12_undo 37 = some (a_iast tT 38) ∧
  tX12_undo 38 = some (a_const (nI 0) 39) ∧
  tX12_undo 39 = some (a_istore 1 40) := ⟨rfl, rfl, rfl, rfl, rfl, rfl, rfl, rfl, rfl, rfl, rfl, rfl, rfl, rfl, rfl, rfl, rfl, rfl, rfl, rfl, rfl, rfl, rfl, rfl⟩
theorem lX12_undo_1 : tX12_undo 40 = some (a_iload 1 41) ∧
  tX12_undo 41 = some (a_const (nI 370) 44) ∧
  tX12_undo 44 = some (a_cmp (fun x y => y ≤ x) 79 47) ∧
  tX12_undo 47 = some (a_aload 0 48) ∧
  tX12_undo 48 = some (a_get tT 12 0 51) ∧
  tX12_undo 51 = some (a_const (nI 90) 53) ∧
  tX12_undo 53 = some (a_iload 1 54) ∧
  tX12_undo 54 = some (a_bin (fun x y => x + y) 55) ∧
  tX12_undo 55 = some (a_aload 0 56) ∧
  tX12_undo 56 = some (a_get tT 12 2 59) ∧
  tX12_undo 59 = some (a_const (nI 371) 62) ∧
  tX12_undo 62 = some (a_aload 0 63) ∧
  tX12_undo 63 = some (a_get tT 12 4 66) ∧
  tX12_undo 66 = some (a_bin (fun x y => x * y) 67) ∧
  tX12_undo 67 = some (a_const (nI 1) 68) ∧
  tX12_undo 68 = some (a_bin (fun x y => x + y) 69) ∧
  tX12_undo 69 = some (a_iload 1 70) ∧
  tX12_undo 70 = some (a_bin (fun x y => x + y) 71) ∧
  tX12_undo 71 = some (a_iald tT 72) ∧
  tX12_undo 72 = some (a_iast tT 73) ∧
  tX12_undo 73 = some (a_iinc 1 (nI 1) 76) ∧
  tX12_undo 76 = some (a_goto 40) ∧
  tX12_undo 79 = some (a_const (nI 1) 80) ∧
  tX12_undo 80 = some (a_zret) := ⟨rfl, rfl, rfl, rfl, rfl, rfl, rfl, rfl, rfl, rfl, rfl, rfl, rfl, rfl, rfl, rfl, rfl, rfl, rfl, rfl, rfl, rfl, rfl, rfl⟩
theorem lX12_writes_0 : tX12_writes 0 = some (a_aload 0 1) ∧
  tX12_writes 1 = some (a_get tT 12 0 4) ∧
  tX12_writes 4 = some (a_const (nI 4) 5) ∧
  tX12_writes 5 = some (a_iald tT 6) ∧
  tX12_writes 6 = some (a_const (nI 100) 8) ∧
  tX12_writes 8 = some (a_cmp (fun x y => x = y) 11 12) ∧
  tX12_writes 11 = some (a_ret) ∧
  tX12_writes 12 = some (a_const (nI 460) 15) ∧
  tX12_writes 15 = some (a_const (nI 4) 16) ∧
  tX12_writes 16 = some (a_aload 0 17) ∧
  tX12_writes 17 = some (a_get tT 12 0 20) ∧
  tX12_writes 20 = some (a_const (nI 4) 21) ∧
  tX12_writes 21 = some (a_iald tT 22) ∧
  tX12_writes 22 = some (a_bin (fun x y => x * y) 23) ∧
  tX12_writes 23 = some (a_bin (fun x y => x + y) 24) ∧
  tX12_writes 24 = some (a_istore 4 26) ∧
  tX12_writes 26 = some (a_aload 0 27) ∧
  tX12_writes 27 = some (a_get tT 12 0 30) ∧
  tX12_writes 30 = some (a_iload 4 32) ∧
  tX12_writes 32 = some (a_iload 1 33) ∧
  tX12_writes 33 = some (a_iast tT 34) ∧
  tX12_writes 34 = some (a_aload 0 35) ∧
  tX12_writes 35 = some (a_get tT 12 0 38) ∧
  tX12_writes 38 = some (a_iload 4 40) := ⟨rfl, rfl, rfl, rfl, rfl, rfl, rfl, rfl, rfl, rfl, rfl, rfl, rfl, rfl, rfl, rfl, rfl, rfl, rfl, rfl, rfl, rfl, rfl, rfl⟩
theorem lX12_writes_1 : tX12_writes 40 = some (a_const (nI 1) 41) ∧
  tX12_writes 41 = some (a_bin (fun x y => x + y) 42) ∧
  tX12_writes 42 = some (a_iload 2 43) ∧
  tX12_writes 43 = some (a_iast tT 44) ∧
  tX12_writes 44 = some (a_aload 0 45) ∧
  tX12_writes 45 = some (a_get tT 12 0 48) ∧
  tX12_writes 48 = some (a_iload 4 50) ∧
  tX12_writes 50 = some (a_const (nI 2) 51) ∧
  tX12_writes 51 = some (a_bin (fun x y => x + y) 52) ∧
  tX12_writes 52 = some (a_iload 3 53) ∧
  tX12_writes 53 = some (a_iast tT 54) ∧
  tX12_writes 54 = some (a_aload 0 55) ∧
  tX12_writes 55 = some (a_get tT 12 0 58) ∧
  tX12_writes 58 = some (a_iload 4 60) ∧
  tX12_writes 60 = some (a_const (nI 3) 61) ∧
  tX12_writes 61 = some (a_bin (fun x y => x + y) 62) ∧
  tX12_writes 62 = some (a_aload 0 63) ∧
  tX12_writes 63 = some (a_get tT 12 0 66) ∧
  tX12_writes 66 = some (a_const (nI 3) 67) ∧
  tX12_writes 67 = some (a_iald tT 68) ∧
  tX12_writes 68 = some (a_iast tT 69) ∧
  tX12_writes 69 = some (a_aload 0 70) ∧
  tX12_writes 70 = some (a_get tT 12 0 73) ∧
  tX12_writes 73 = some (a_const (nI 4) 74) := ⟨rfl, rfl, rfl, rfl, rfl, rfl, rfl, rfl, rfl, rfl, rfl, rfl, rfl, rfl, rfl, rfl, rfl, rfl, rfl, rfl, rfl, rfl, rfl, rfl⟩
theorem lX12_writes_2 : tX12_writes 74 = some (a_dup2 75) ∧
  tX12_writes 75 = some (a_iald tT 76) ∧
  tX12_writes 76 = some (a_const (nI 1) 77) ∧
  tX12_writes 77 = some (a_bin (fun x y => x + y) 78) ∧
  tX12_writes 78 = some (a_iast tT 79) ∧
  tX12_writes 79 = some (a_ret) := ⟨rfl, rfl, rfl, rfl, rfl, rfl⟩
theorem lX12_cross_0 : tX12_cross 0 = some (a_aload 0 1) ∧
  tX12_cross 1 = some (a_iload 1 2) ∧
  tX12_cross 2 = some (a_cvI tT mX12_isPerson 12 1 5) ∧
  tX12_cross 5 = some (a_if (fun x => x = nI 0) 31 8) ∧
  tX12_cross 8 = some (a_aload 0 9) ∧
  tX12_cross 9 = some (a_iload 2 10) ∧
  tX12_cross 10 = some (a_cvI tT mX12_isBridge 12 1 13) ∧
  tX12_cross 13 = some (a_if (fun x => x = nI 0) 31 16) ∧
  tX12_cross 16 = some (a_aload 0 17) ∧
  tX12_cross 17 = some (a_iload 2 18) ∧
  tX12_cross 18 = some (a_aload 0 19) ∧
  tX12_cross 19 = some (a_iload 1 20) ∧
  tX12_cross 20 = some (a_const (nI 0) 21) ∧
  tX12_cross 21 = some (a_cvI tT mX12_own 12 2 24) ∧
  tX12_cross 24 = some (a_cvI tT mX12_otherEnd 12 2 27) ∧
  tX12_cross 27 = some (a_const (-1) 28) ∧
  tX12_cross 28 = some (a_cmp (fun x y => x = y) 31 33) ∧
  tX12_cross 31 = some (a_const (-1) 32) ∧
  tX12_cross 32 = some (a_iret) ∧
  tX12_cross 33 = some (a_aload 0 34) ∧
  tX12_cross 34 = some (a_const (nI 0) 35) ∧
  tX12_cross 35 = some (a_cvV tT mX12_laysAside 12 1 38) ∧
  tX12_cross 38 = some (a_aload 0 39) ∧
  tX12_cross 39 = some (a_iload 1 40) := ⟨rfl, rfl, rfl, rfl, rfl, rfl, rfl, rfl, rfl, rfl, rfl, rfl, rfl, rfl, rfl, rfl, rfl, rfl, rfl, rfl, rfl, rfl, rfl, rfl⟩
theorem lX12_cross_1 : tX12_cross 40 = some (a_iload 2 41) ∧
  tX12_cross 41 = some (a_cvI tT mX12_crosses 12 2 44) ∧
  tX12_cross 44 = some (a_istore 3 45) ∧
  tX12_cross 45 = some (a_iload 3 46) ∧
  tX12_cross 46 = some (a_const (-2) 48) ∧
  tX12_cross 48 = some (a_cmp (fun x y => x = y) 51 54) ∧
  tX12_cross 51 = some (a_const (-2) 53) ∧
  tX12_cross 53 = some (a_iret) ∧
  tX12_cross 54 = some (a_aload 0 55) ∧
  tX12_cross 55 = some (a_const (nI 0) 56) ∧
  tX12_cross 56 = some (a_cvV tT mX12_putsBack 12 1 59) ∧
  tX12_cross 59 = some (a_aload 0 60) ∧
  tX12_cross 60 = some (a_cvV tT mX12_keeps 12 0 63) ∧
  tX12_cross 63 = some (a_aload 0 64) ∧
  tX12_cross 64 = some (a_iload 1 65) ∧
  tX12_cross 65 = some (a_iload 2 66) ∧
  tX12_cross 66 = some (a_cvI tT mX12_crosses 12 2 69) ∧
  tX12_cross 69 = some (a_pop 70) ∧
  tX12_cross 70 = some (a_iload 3 71) ∧
  tX12_cross 71 = some (a_const (nI 100) 73) ∧
  tX12_cross 73 = some (a_cmp (fun x y => x = y) 83 76) ∧
  tX12_cross 76 = some (a_aload 0 77) ∧
  tX12_cross 77 = some (a_iload 1 78) ∧
  tX12_cross 78 = some (a_iload 2 79) := ⟨rfl, rfl, rfl, rfl, rfl, rfl, rfl, rfl, rfl, rfl, rfl, rfl, rfl, rfl, rfl, rfl, rfl, rfl, rfl, rfl, rfl, rfl, rfl, rfl⟩
theorem lX12_cross_2 : tX12_cross 79 = some (a_iload 3 80) ∧
  tX12_cross 80 = some (a_cvV tT mX12_writes 12 3 83) ∧
  tX12_cross 83 = some (a_iload 3 84) ∧
  tX12_cross 84 = some (a_iret) := ⟨rfl, rfl, rfl, rfl⟩
theorem lX12_take_0 : tX12_take 0 = some (a_aload 0 1) ∧
  tX12_take 1 = some (a_iload 1 2) ∧
  tX12_take 2 = some (a_cvI tT mX12_isPerson 12 1 5) ∧
  tX12_take 5 = some (a_if (fun x => x = nI 0) 66 8) ∧
  tX12_take 8 = some (a_aload 0 9) ∧
  tX12_take 9 = some (a_iload 2 10) ∧
  tX12_take 10 = some (a_cvI tT mX12_isBridge 12 1 13) ∧
  tX12_take 13 = some (a_if (fun x => x = nI 0) 66 16) ∧
  tX12_take 16 = some (a_aload 0 17) ∧
  tX12_take 17 = some (a_iload 3 18) ∧
  tX12_take 18 = some (a_cvI tT mX12_isName 12 1 21) ∧
  tX12_take 21 = some (a_if (fun x => x = nI 0) 66 24) ∧
  tX12_take 24 = some (a_aload 0 25) ∧
  tX12_take 25 = some (a_iload 2 26) ∧
  tX12_take 26 = some (a_aload 0 27) ∧
  tX12_take 27 = some (a_iload 1 28) ∧
  tX12_take 28 = some (a_const (nI 0) 29) ∧
  tX12_take 29 = some (a_cvI tT mX12_own 12 2 32) ∧
  tX12_take 32 = some (a_cvI tT mX12_otherEnd 12 2 35) ∧
  tX12_take 35 = some (a_const (-1) 36) ∧
  tX12_take 36 = some (a_cmp (fun x y => x = y) 66 39) ∧
  tX12_take 39 = some (a_aload 0 40) ∧
  tX12_take 40 = some (a_get tT 12 0 43) ∧
  tX12_take 43 = some (a_const (nI 220) 46) := ⟨rfl, rfl, rfl, rfl, rfl, rfl, rfl, rfl, rfl, rfl, rfl, rfl, rfl, rfl, rfl, rfl, rfl, rfl, rfl, rfl, rfl, rfl, rfl, rfl⟩
theorem lX12_take_1 : tX12_take 46 = some (a_const (nI 20) 48) ∧
  tX12_take 48 = some (a_iload 2 49) ∧
  tX12_take 49 = some (a_bin (fun x y => x * y) 50) ∧
  tX12_take 50 = some (a_bin (fun x y => x + y) 51) ∧
  tX12_take 51 = some (a_iload 3 52) ∧
  tX12_take 52 = some (a_bin (fun x y => x + y) 53) ∧
  tX12_take 53 = some (a_iald tT 54) ∧
  tX12_take 54 = some (a_if (fun x => x = nI 0) 66 57) ∧
  tX12_take 57 = some (a_aload 0 58) ∧
  tX12_take 58 = some (a_iload 1 59) ∧
  tX12_take 59 = some (a_iload 3 60) ∧
  tX12_take 60 = some (a_cvI tT mX12_canHave 12 2 63) ∧
  tX12_take 63 = some (a_if (fun x => x = nI 0) 66 68) ∧
  tX12_take 66 = some (a_const (nI 0) 67) ∧
  tX12_take 67 = some (a_zret) ∧
  tX12_take 68 = some (a_aload 0 69) ∧
  tX12_take 69 = some (a_get tT 12 0 72) ∧
  tX12_take 72 = some (a_const (nI 220) 75) ∧
  tX12_take 75 = some (a_const (nI 20) 77) ∧
  tX12_take 77 = some (a_iload 2 78) ∧
  tX12_take 78 = some (a_bin (fun x y => x * y) 79) ∧
  tX12_take 79 = some (a_bin (fun x y => x + y) 80) ∧
  tX12_take 80 = some (a_iload 3 81) ∧
  tX12_take 81 = some (a_bin (fun x y => x + y) 82) := ⟨rfl, rfl, rfl, rfl, rfl, rfl, rfl, rfl, rfl, rfl, rfl, rfl, rfl, rfl, rfl, rfl, rfl, rfl, rfl, rfl, rfl, rfl, rfl, rfl⟩
theorem lX12_take_2 : tX12_take 82 = some (a_dup2 83) ∧
  tX12_take 83 = some (a_iald tT 84) ∧
  tX12_take 84 = some (a_const (nI 1) 85) ∧
  tX12_take 85 = some (a_bin (fun x y => x - y) 86) ∧
  tX12_take 86 = some (a_iast tT 87) ∧
  tX12_take 87 = some (a_aload 0 88) ∧
  tX12_take 88 = some (a_iload 1 89) ∧
  tX12_take 89 = some (a_iload 3 90) ∧
  tX12_take 90 = some (a_cvV tT mX12_comes 12 2 93) ∧
  tX12_take 93 = some (a_aload 0 94) ∧
  tX12_take 94 = some (a_cvV tT mX12_forgets 12 0 97) ∧
  tX12_take 97 = some (a_const (nI 1) 98) ∧
  tX12_take 98 = some (a_zret) := ⟨rfl, rfl, rfl, rfl, rfl, rfl, rfl, rfl, rfl, rfl, rfl, rfl, rfl⟩
theorem lX12_had_0 : tX12_had 0 = some (a_const (nI 0) 1) ∧
  tX12_had 1 = some (a_istore 2 2) ∧
  tX12_had 2 = some (a_const (nI 0) 3) ∧
  tX12_had 3 = some (a_istore 3 4) ∧
  tX12_had 4 = some (a_iload 3 5) ∧
  tX12_had 5 = some (a_aload 0 6) ∧
  tX12_had 6 = some (a_iload 1 7) ∧
  tX12_had 7 = some (a_const (nI 2) 8) ∧
  tX12_had 8 = some (a_cvI tT mX12_own 12 2 11) ∧
  tX12_had 11 = some (a_cmp (fun x y => y ≤ x) 33 14) ∧
  tX12_had 14 = some (a_iload 2 15) ∧
  tX12_had 15 = some (a_const (nI 1) 16) ∧
  tX12_had 16 = some (a_aload 0 17) ∧
  tX12_had 17 = some (a_iload 1 18) ∧
  tX12_had 18 = some (a_const (nI 5) 19) ∧
  tX12_had 19 = some (a_iload 3 20) ∧
  tX12_had 20 = some (a_bin (fun x y => x + y) 21) ∧
  tX12_had 21 = some (a_cvI tT mX12_own 12 2 24) ∧
  tX12_had 24 = some (a_bin (fun x y => x <<< (y &&& 31)) 25) ∧
  tX12_had 25 = some (a_bin (fun x y => x ||| y) 26) ∧
  tX12_had 26 = some (a_istore 2 27) ∧
  tX12_had 27 = some (a_iinc 3 (nI 1) 30) ∧
  tX12_had 30 = some (a_goto 4) ∧
  tX12_had 33 = some (a_iload 2 34) := ⟨rfl, rfl, rfl, rfl, rfl, rfl, rfl, rfl, rfl, rfl, rfl, rfl, rfl, rfl, rfl, rfl, rfl, rfl, rfl, rfl, rfl, rfl, rfl, rfl⟩
theorem lX12_had_1 : tX12_had 34 = some (a_iret) := rfl
theorem lX12_count_0 : tX12_count 0 = some (a_const (nI 0) 1) ∧
  tX12_count 1 = some (a_istore 1 2) ∧
  tX12_count 2 = some (a_const (nI 0) 3) ∧
  tX12_count 3 = some (a_istore 2 4) ∧
  tX12_count 4 = some (a_iload 2 5) ∧
  tX12_count 5 = some (a_const (nI 20) 7) ∧
  tX12_count 7 = some (a_cmp (fun x y => y ≤ x) 24 10) ∧
  tX12_count 10 = some (a_iload 1 11) ∧
  tX12_count 11 = some (a_iload 0 12) ∧
  tX12_count 12 = some (a_iload 2 13) ∧
  tX12_count 13 = some (a_bin (fun x y => x >>> (y &&& 31)) 14) ∧
  tX12_count 14 = some (a_const (nI 1) 15) ∧
  tX12_count 15 = some (a_bin (fun x y => x &&& y) 16) ∧
  tX12_count 16 = some (a_bin (fun x y => x + y) 17) ∧
  tX12_count 17 = some (a_istore 1 18) ∧
  tX12_count 18 = some (a_iinc 2 (nI 1) 21) ∧
  tX12_count 21 = some (a_goto 4) ∧
  tX12_count 24 = some (a_iload 1 25) ∧
  tX12_count 25 = some (a_iret) := ⟨rfl, rfl, rfl, rfl, rfl, rfl, rfl, rfl, rfl, rfl, rfl, rfl, rfl, rfl, rfl, rfl, rfl, rfl, rfl⟩
theorem lX12_nth_0 : tX12_nth 0 = some (a_iload 1 1) ∧
  tX12_nth 1 = some (a_istore 2 2) ∧
  tX12_nth 2 = some (a_const (nI 0) 3) ∧
  tX12_nth 3 = some (a_istore 3 4) ∧
  tX12_nth 4 = some (a_iload 0 5) ∧
  tX12_nth 5 = some (a_iload 3 6) ∧
  tX12_nth 6 = some (a_bin (fun x y => x >>> (y &&& 31)) 7) ∧
  tX12_nth 7 = some (a_const (nI 1) 8) ∧
  tX12_nth 8 = some (a_bin (fun x y => x &&& y) 9) ∧
  tX12_nth 9 = some (a_if (fun x => x = nI 0) 16 12) ∧
  tX12_nth 12 = some (a_iload 2 13) ∧
  tX12_nth 13 = some (a_if (fun x => x ≤ nI 0) 30 16) ∧
  tX12_nth 16 = some (a_iload 2 17) ∧
  tX12_nth 17 = some (a_iload 0 18) ∧
  tX12_nth 18 = some (a_iload 3 19) ∧
  tX12_nth 19 = some (a_bin (fun x y => x >>> (y &&& 31)) 20) ∧
  tX12_nth 20 = some (a_const (nI 1) 21) ∧
  tX12_nth 21 = some (a_bin (fun x y => x &&& y) 22) ∧
  tX12_nth 22 = some (a_bin (fun x y => x - y) 23) ∧
  tX12_nth 23 = some (a_istore 2 24) ∧
  tX12_nth 24 = some (a_iinc 3 (nI 1) 27) ∧
  tX12_nth 27 = some (a_goto 4) ∧
  tX12_nth 30 = some (a_iload 3 31) ∧
  tX12_nth 31 = some (a_iret) := ⟨rfl, rfl, rfl, rfl, rfl, rfl, rfl, rfl, rfl, rfl, rfl, rfl, rfl, rfl, rfl, rfl, rfl, rfl, rfl, rfl, rfl, rfl, rfl, rfl⟩
theorem lX12_day_0 : tX12_day 0 = some (a_aload 0 1) ∧
  tX12_day 1 = some (a_get tT 12 0 4) ∧
  tX12_day 4 = some (a_const (nI 3) 5) ∧
  tX12_day 5 = some (a_iald tT 6) ∧
  tX12_day 6 = some (a_const (nI 9999) 9) ∧
  tX12_day 9 = some (a_cmp (fun x y => x = y) 12 14) ∧
  tX12_day 12 = some (a_const (-1) 13) ∧
  tX12_day 13 = some (a_iret) ∧
  tX12_day 14 = some (a_aload 0 15) ∧
  tX12_day 15 = some (a_get tT 12 0 18) ∧
  tX12_day 18 = some (a_const (nI 3) 19) ∧
  tX12_day 19 = some (a_dup2 20) ∧
  tX12_day 20 = some (a_iald tT 21) ∧
  tX12_day 21 = some (a_const (nI 1) 22) ∧
  tX12_day 22 = some (a_bin (fun x y => x + y) 23) ∧
  tX12_day 23 = some (a_iast tT 24) ∧
  tX12_day 24 = some (a_const (nI 0) 25) ∧
  tX12_day 25 = some (a_istore 1 26) ∧
  tX12_day 26 = some (a_const (nI 0) 27) ∧
  tX12_day 27 = some (a_istore 2 28) ∧
  tX12_day 28 = some (a_iload 2 29) ∧
  tX12_day 29 = some (a_aload 0 30) ∧
  tX12_day 30 = some (a_get tT 12 0 33) ∧
  tX12_day 33 = some (a_const (nI 1) 34) := ⟨rfl, rfl, rfl, rfl, rfl, rfl, rfl, rfl, rfl, rfl, rfl, rfl, rfl, rfl, rfl, rfl, rfl, rfl, rfl, rfl, rfl, rfl, rfl, rfl⟩
theorem lX12_day_1 : tX12_day 34 = some (a_iald tT 35) ∧
  tX12_day 35 = some (a_cmp (fun x y => y ≤ x) 124 38) ∧
  tX12_day 38 = some (a_aload 0 39) ∧
  tX12_day 39 = some (a_iload 2 40) ∧
  tX12_day 40 = some (a_const (nI 3) 41) ∧
  tX12_day 41 = some (a_cvI tT mX12_own 12 2 44) ∧
  tX12_day 44 = some (a_aload 0 45) ∧
  tX12_day 45 = some (a_iload 2 46) ∧
  tX12_day 46 = some (a_cvI tT mX12_had 12 1 49) ∧
  tX12_day 49 = some (a_const (-1) 50) ∧
  tX12_day 50 = some (a_bin (fun x y => x ^^^ y) 51) ∧
  tX12_day 51 = some (a_bin (fun x y => x &&& y) 52) ∧
  tX12_day 52 = some (a_istore 3 53) ∧
  tX12_day 53 = some (a_aload 0 54) ∧
  tX12_day 54 = some (a_get tT 12 0 57) ∧
  tX12_day 57 = some (a_const (nI 6) 59) ∧
  tX12_day 59 = some (a_iald tT 60) ∧
  tX12_day 60 = some (a_if (fun x => x = nI 0) 118 63) ∧
  tX12_day 63 = some (a_iload 3 64) ∧
  tX12_day 64 = some (a_if (fun x => x = nI 0) 118 67) ∧
  tX12_day 67 = some (a_aload 0 68) ∧
  tX12_day 68 = some (a_iload 2 69) ∧
  tX12_day 69 = some (a_const (nI 2) 70) ∧
  tX12_day 70 = some (a_cvI tT mX12_own 12 2 73) := ⟨rfl, rfl, rfl, rfl, rfl, rfl, rfl, rfl, rfl, rfl, rfl, rfl, rfl, rfl, rfl, rfl, rfl, rfl, rfl, rfl, rfl, rfl, rfl, rfl⟩
theorem lX12_day_2 : tX12_day 73 = some (a_const (nI 9) 75) ∧
  tX12_day 75 = some (a_cmp (fun x y => x = y) 118 78) ∧
  tX12_day 78 = some (a_aload 0 79) ∧
  tX12_day 79 = some (a_const (nI 1000) 82) ∧
  tX12_day 82 = some (a_cvI tT mX12_draw 12 1 85) ∧
  tX12_day 85 = some (a_aload 0 86) ∧
  tX12_day 86 = some (a_get tT 12 0 89) ∧
  tX12_day 89 = some (a_const (nI 6) 91) ∧
  tX12_day 91 = some (a_iald tT 92) ∧
  tX12_day 92 = some (a_cmp (fun x y => x < y) 98 95) ∧
  tX12_day 95 = some (a_goto 118) ∧
  tX12_day 98 = some (a_aload 0 99) ∧
  tX12_day 99 = some (a_iload 2 100) ∧
  tX12_day 100 = some (a_iload 3 101) ∧
  tX12_day 101 = some (a_aload 0 102) ∧
  tX12_day 102 = some (a_iload 3 103) ∧
  tX12_day 103 = some (a_csI mX12_count 1 106) ∧
  tX12_day 106 = some (a_cvI tT mX12_draw 12 1 109) ∧
  tX12_day 109 = some (a_csI mX12_nth 2 112) ∧
  tX12_day 112 = some (a_cvV tT mX12_comes 12 2 115) ∧
  tX12_day 115 = some (a_iinc 1 (nI 1) 118) ∧
  tX12_day 118 = some (a_iinc 2 (nI 1) 121) ∧
  tX12_day 121 = some (a_goto 28) ∧
  tX12_day 124 = some (a_aload 0 125) := ⟨rfl, rfl, rfl, rfl, rfl, rfl, rfl, rfl, rfl, rfl, rfl, rfl, rfl, rfl, rfl, rfl, rfl, rfl, rfl, rfl, rfl, rfl, rfl, rfl⟩
theorem lX12_day_3 : tX12_day 125 = some (a_cvV tT mX12_forgets 12 0 128) ∧
  tX12_day 128 = some (a_iload 1 129) ∧
  tX12_day 129 = some (a_iret) := ⟨rfl, rfl, rfl⟩
theorem lX12_of_0 : tX12_of 0 = some (a_aload 0 1) ∧
  tX12_of 1 = some (a_iload 1 2) ∧
  tX12_of 2 = some (a_cvI tT mX12_isPerson 12 1 5) ∧
  tX12_of 5 = some (a_if (fun x => x = nI 0) 8 10) ∧
  tX12_of 8 = some (a_const (-1) 9) ∧
  tX12_of 9 = some (a_iret) ∧
  tX12_of 10 = some (a_iload 2 11) ∧
  tX12_of 11 = some (a_sw [(nI 0, 52), (nI 1, 59), (nI 2, 66), (nI 3, 73), (nI 4, 79), (nI 5, 86), (nI 6, 93)] 99) ∧
  tX12_of 52 = some (a_aload 0 53) ∧
  tX12_of 53 = some (a_iload 1 54) ∧
  tX12_of 54 = some (a_const (nI 0) 55) ∧
  tX12_of 55 = some (a_cvI tT mX12_own 12 2 58) ∧
  tX12_of 58 = some (a_iret) ∧
  tX12_of 59 = some (a_aload 0 60) ∧
  tX12_of 60 = some (a_iload 1 61) ∧
  tX12_of 61 = some (a_const (nI 1) 62) ∧
  tX12_of 62 = some (a_cvI tT mX12_own 12 2 65) ∧
  tX12_of 65 = some (a_iret) ∧
  tX12_of 66 = some (a_aload 0 67) ∧
  tX12_of 67 = some (a_iload 1 68) ∧
  tX12_of 68 = some (a_const (nI 2) 69) ∧
  tX12_of 69 = some (a_cvI tT mX12_own 12 2 72) ∧
  tX12_of 72 = some (a_iret) ∧
  tX12_of 73 = some (a_aload 0 74) := ⟨rfl, rfl, rfl, rfl, rfl, rfl, rfl, rfl, rfl, rfl, rfl, rfl, rfl, rfl, rfl, rfl, rfl, rfl, rfl, rfl, rfl, rfl, rfl, rfl⟩
theorem lX12_of_1 : tX12_of 74 = some (a_iload 1 75) ∧
  tX12_of 75 = some (a_cvI tT mX12_lettersOf 12 1 78) ∧
  tX12_of 78 = some (a_iret) ∧
  tX12_of 79 = some (a_aload 0 80) ∧
  tX12_of 80 = some (a_iload 1 81) ∧
  tX12_of 81 = some (a_const (nI 3) 82) ∧
  tX12_of 82 = some (a_cvI tT mX12_own 12 2 85) ∧
  tX12_of 85 = some (a_iret) ∧
  tX12_of 86 = some (a_aload 0 87) ∧
  tX12_of 87 = some (a_iload 1 88) ∧
  tX12_of 88 = some (a_const (nI 4) 89) ∧
  tX12_of 89 = some (a_cvI tT mX12_own 12 2 92) ∧
  tX12_of 92 = some (a_iret) ∧
  tX12_of 93 = some (a_aload 0 94) ∧
  tX12_of 94 = some (a_iload 1 95) ∧
  tX12_of 95 = some (a_cvI tT mX12_had 12 1 98) ∧
  tX12_of 98 = some (a_iret) ∧
  tX12_of 99 = some (a_iload 2 100) ∧
  tX12_of 100 = some (a_const (nI 10) 102) ∧
  tX12_of 102 = some (a_const (nI 9) 104) ∧
  tX12_of 104 = some (a_aload 0 105) ∧
  tX12_of 105 = some (a_iload 1 106) ∧
  tX12_of 106 = some (a_const (nI 2) 107) ∧
  tX12_of 107 = some (a_cvI tT mX12_own 12 2 110) := ⟨rfl, rfl, rfl, rfl, rfl, rfl, rfl, rfl, rfl, rfl, rfl, rfl, rfl, rfl, rfl, rfl, rfl, rfl, rfl, rfl, rfl, rfl, rfl, rfl⟩
theorem lX12_of_2 : tX12_of 110 = some (a_bin (fun x y => x + y) 111) ∧
  tX12_of 111 = some (a_csI mX12_isIn 3 114) ∧
  tX12_of 114 = some (a_if (fun x => x = nI 0) 131 117) ∧
  tX12_of 117 = some (a_aload 0 118) ∧
  tX12_of 118 = some (a_iload 1 119) ∧
  tX12_of 119 = some (a_const (nI 5) 120) ∧
  tX12_of 120 = some (a_iload 2 121) ∧
  tX12_of 121 = some (a_bin (fun x y => x + y) 122) ∧
  tX12_of 122 = some (a_const (nI 10) 124) ∧
  tX12_of 124 = some (a_bin (fun x y => x - y) 125) ∧
  tX12_of 125 = some (a_cvI tT mX12_own 12 2 128) ∧
  tX12_of 128 = some (a_goto 132) ∧
  tX12_of 131 = some (a_const (-1) 132) ∧
  tX12_of 132 = some (a_iret) := ⟨rfl, rfl, rfl, rfl, rfl, rfl, rfl, rfl, rfl, rfl, rfl, rfl, rfl, rfl⟩
theorem lX12_kept_0 : tX12_kept 0 = some (a_aload 0 1) ∧
  tX12_kept 1 = some (a_iload 1 2) ∧
  tX12_kept 2 = some (a_cvI tT mX12_isBridge 12 1 5) ∧
  tX12_kept 5 = some (a_if (fun x => x = nI 0) 34 8) ∧
  tX12_kept 8 = some (a_aload 0 9) ∧
  tX12_kept 9 = some (a_iload 2 10) ∧
  tX12_kept 10 = some (a_cvI tT mX12_isName 12 1 13) ∧
  tX12_kept 13 = some (a_if (fun x => x = nI 0) 34 16) ∧
  tX12_kept 16 = some (a_aload 0 17) ∧
  tX12_kept 17 = some (a_get tT 12 0 20) ∧
  tX12_kept 20 = some (a_const (nI 220) 23) ∧
  tX12_kept 23 = some (a_const (nI 20) 25) ∧
  tX12_kept 25 = some (a_iload 1 26) ∧
  tX12_kept 26 = some (a_bin (fun x y => x * y) 27) ∧
  tX12_kept 27 = some (a_bin (fun x y => x + y) 28) ∧
  tX12_kept 28 = some (a_iload 2 29) ∧
  tX12_kept 29 = some (a_bin (fun x y => x + y) 30) ∧
  tX12_kept 30 = some (a_iald tT 31) ∧
  tX12_kept 31 = some (a_goto 35) ∧
  tX12_kept 34 = some (a_const (-1) 35) ∧
  tX12_kept 35 = some (a_iret) := ⟨rfl, rfl, rfl, rfl, rfl, rfl, rfl, rfl, rfl, rfl, rfl, rfl, rfl, rfl, rfl, rfl, rfl, rfl, rfl, rfl, rfl⟩
theorem lX12_book_0 : tX12_book 0 = some (a_iload 1 1) ∧
  tX12_book 1 = some (a_const (nI 0) 2) ∧
  tX12_book 2 = some (a_aload 0 3) ∧
  tX12_book 3 = some (a_get tT 12 0 6) ∧
  tX12_book 6 = some (a_const (nI 4) 7) ∧
  tX12_book 7 = some (a_iald tT 8) ∧
  tX12_book 8 = some (a_const (nI 1) 9) ∧
  tX12_book 9 = some (a_bin (fun x y => x - y) 10) ∧
  tX12_book 10 = some (a_csI mX12_isIn 3 13) ∧
  tX12_book 13 = some (a_if (fun x => x = nI 0) 42 16) ∧
  tX12_book 16 = some (a_iload 2 17) ∧
  tX12_book 17 = some (a_const (nI 0) 18) ∧
  tX12_book 18 = some (a_const (nI 3) 19) ∧
  tX12_book 19 = some (a_csI mX12_isIn 3 22) ∧
  tX12_book 22 = some (a_if (fun x => x = nI 0) 42 25) ∧
  tX12_book 25 = some (a_aload 0 26) ∧
  tX12_book 26 = some (a_get tT 12 0 29) ∧
  tX12_book 29 = some (a_const (nI 460) 32) ∧
  tX12_book 32 = some (a_const (nI 4) 33) ∧
  tX12_book 33 = some (a_iload 1 34) ∧
  tX12_book 34 = some (a_bin (fun x y => x * y) 35) ∧
  tX12_book 35 = some (a_bin (fun x y => x + y) 36) ∧
  tX12_book 36 = some (a_iload 2 37) ∧
  tX12_book 37 = some (a_bin (fun x y => x + y) 38) := ⟨rfl, rfl, rfl, rfl, rfl, rfl, rfl, rfl, rfl, rfl, rfl, rfl, rfl, rfl, rfl, rfl, rfl, rfl, rfl, rfl, rfl, rfl, rfl, rfl⟩
theorem lX12_book_1 : tX12_book 38 = some (a_iald tT 39) ∧
  tX12_book 39 = some (a_goto 43) ∧
  tX12_book 42 = some (a_const (-1) 43) ∧
  tX12_book 43 = some (a_iret) := ⟨rfl, rfl, rfl, rfl⟩
theorem lX12_called_0 : tX12_called 0 = some (a_iload 1 1) ∧
  tX12_called 1 = some (a_csI mX12_isPlace 1 4) ∧
  tX12_called 4 = some (a_if (fun x => x = nI 0) 15 7) ∧
  tX12_called 7 = some (a_aload 0 8) ∧
  tX12_called 8 = some (a_iload 2 9) ∧
  tX12_called 9 = some (a_cvI tT mX12_isName 12 1 12) ∧
  tX12_called 12 = some (a_if (fun x => x = nI 0) 15 17) ∧
  tX12_called 15 = some (a_const (-1) 16) ∧
  tX12_called 16 = some (a_iret) ∧
  tX12_called 17 = some (a_const (nI 0) 18) ∧
  tX12_called 18 = some (a_istore 3 19) ∧
  tX12_called 19 = some (a_const (nI 0) 20) ∧
  tX12_called 20 = some (a_istore 4 22) ∧
  tX12_called 22 = some (a_iload 4 24) ∧
  tX12_called 24 = some (a_aload 0 25) ∧
  tX12_called 25 = some (a_get tT 12 0 28) ∧
  tX12_called 28 = some (a_const (nI 1) 29) ∧
  tX12_called 29 = some (a_iald tT 30) ∧
  tX12_called 30 = some (a_cmp (fun x y => y ≤ x) 71 33) ∧
  tX12_called 33 = some (a_iload 3 34) ∧
  tX12_called 34 = some (a_aload 0 35) ∧
  tX12_called 35 = some (a_iload 4 37) ∧
  tX12_called 37 = some (a_const (nI 0) 38) ∧
  tX12_called 38 = some (a_cvI tT mX12_own 12 2 41) := ⟨rfl, rfl, rfl, rfl, rfl, rfl, rfl, rfl, rfl, rfl, rfl, rfl, rfl, rfl, rfl, rfl, rfl, rfl, rfl, rfl, rfl, rfl, rfl, rfl⟩
theorem lX12_called_1 : tX12_called 41 = some (a_iload 1 42) ∧
  tX12_called 42 = some (a_cmp (fun x y => x = y) 45 62) ∧
  tX12_called 45 = some (a_aload 0 46) ∧
  tX12_called 46 = some (a_iload 4 48) ∧
  tX12_called 48 = some (a_iload 2 49) ∧
  tX12_called 49 = some (a_cvI tT mX12_has 12 2 52) ∧
  tX12_called 52 = some (a_if (fun x => x = nI 0) 62 55) ∧
  tX12_called 55 = some (a_const (nI 1) 56) ∧
  tX12_called 56 = some (a_iload 4 58) ∧
  tX12_called 58 = some (a_bin (fun x y => x <<< (y &&& 31)) 59) ∧
  tX12_called 59 = some (a_goto 63) ∧
  tX12_called 62 = some (a_const (nI 0) 63) ∧
  tX12_called 63 = some (a_bin (fun x y => x ||| y) 64) ∧
  tX12_called 64 = some (a_istore 3 65) ∧
  tX12_called 65 = some (a_iinc 4 (nI 1) 68) ∧
  tX12_called 68 = some (a_goto 22) ∧
  tX12_called 71 = some (a_iload 3 72) ∧
  tX12_called 72 = some (a_iret) := ⟨rfl, rfl, rfl, rfl, rfl, rfl, rfl, rfl, rfl, rfl, rfl, rfl, rfl, rfl, rfl, rfl, rfl, rfl⟩
theorem lX12_aloneOf_0 : tX12_aloneOf 0 = some (a_const (nI 0) 1) ∧
  tX12_aloneOf 1 = some (a_istore 2 2) ∧
  tX12_aloneOf 2 = some (a_const (nI 0) 3) ∧
  tX12_aloneOf 3 = some (a_istore 3 4) ∧
  tX12_aloneOf 4 = some (a_iload 3 5) ∧
  tX12_aloneOf 5 = some (a_aload 0 6) ∧
  tX12_aloneOf 6 = some (a_get tT 12 0 9) ∧
  tX12_aloneOf 9 = some (a_const (nI 1) 10) ∧
  tX12_aloneOf 10 = some (a_iald tT 11) ∧
  tX12_aloneOf 11 = some (a_cmp (fun x y => y ≤ x) 108 14) ∧
  tX12_aloneOf 14 = some (a_iload 1 15) ∧
  tX12_aloneOf 15 = some (a_iload 3 16) ∧
  tX12_aloneOf 16 = some (a_bin (fun x y => x >>> (y &&& 31)) 17) ∧
  tX12_aloneOf 17 = some (a_const (nI 1) 18) ∧
  tX12_aloneOf 18 = some (a_bin (fun x y => x &&& y) 19) ∧
  tX12_aloneOf 19 = some (a_if (fun x => x = nI 0) 22 25) ∧
  tX12_aloneOf 22 = some (a_goto 102) ∧
  tX12_aloneOf 25 = some (a_const (nI 0) 26) ∧
  tX12_aloneOf 26 = some (a_istore 4 28) ∧
  tX12_aloneOf 28 = some (a_const (nI 0) 29) ∧
  tX12_aloneOf 29 = some (a_istore 5 31) ∧
  tX12_aloneOf 31 = some (a_iload 5 33) ∧
  tX12_aloneOf 33 = some (a_aload 0 34) ∧
  tX12_aloneOf 34 = some (a_get tT 12 0 37) := ⟨rfl, rfl, rfl, rfl, rfl, rfl, rfl, rfl, rfl, rfl, rfl, rfl, rfl, rfl, rfl, rfl, rfl, rfl, rfl, rfl, rfl, rfl, rfl, rfl⟩
theorem lX12_aloneOf_1 : tX12_aloneOf 37 = some (a_const (nI 1) 38) ∧
  tX12_aloneOf 38 = some (a_iald tT 39) ∧
  tX12_aloneOf 39 = some (a_cmp (fun x y => y ≤ x) 79 42) ∧
  tX12_aloneOf 42 = some (a_iload 4 44) ∧
  tX12_aloneOf 44 = some (a_iload 5 46) ∧
  tX12_aloneOf 46 = some (a_iload 3 47) ∧
  tX12_aloneOf 47 = some (a_cmp (fun x y => x = y) 69 50) ∧
  tX12_aloneOf 50 = some (a_iload 1 51) ∧
  tX12_aloneOf 51 = some (a_iload 5 53) ∧
  tX12_aloneOf 53 = some (a_bin (fun x y => x >>> (y &&& 31)) 54) ∧
  tX12_aloneOf 54 = some (a_const (nI 1) 55) ∧
  tX12_aloneOf 55 = some (a_bin (fun x y => x &&& y) 56) ∧
  tX12_aloneOf 56 = some (a_const (nI 1) 57) ∧
  tX12_aloneOf 57 = some (a_cmp (fun x y => x = y) 60 69) ∧
  tX12_aloneOf 60 = some (a_aload 0 61) ∧
  tX12_aloneOf 61 = some (a_iload 5 63) ∧
  tX12_aloneOf 63 = some (a_cvI tT mX12_had 12 1 66) ∧
  tX12_aloneOf 66 = some (a_goto 70) ∧
  tX12_aloneOf 69 = some (a_const (nI 0) 70) ∧
  tX12_aloneOf 70 = some (a_bin (fun x y => x ||| y) 71) ∧
  tX12_aloneOf 71 = some (a_istore 4 73) ∧
  tX12_aloneOf 73 = some (a_iinc 5 (nI 1) 76) ∧
  tX12_aloneOf 76 = some (a_goto 31) ∧
  tX12_aloneOf 79 = some (a_iload 2 80) := ⟨rfl, rfl, rfl, rfl, rfl, rfl, rfl, rfl, rfl, rfl, rfl, rfl, rfl, rfl, rfl, rfl, rfl, rfl, rfl, rfl, rfl, rfl, rfl, rfl⟩
theorem lX12_aloneOf_2 : tX12_aloneOf 80 = some (a_aload 0 81) ∧
  tX12_aloneOf 81 = some (a_iload 3 82) ∧
  tX12_aloneOf 82 = some (a_cvI tT mX12_had 12 1 85) ∧
  tX12_aloneOf 85 = some (a_iload 4 87) ∧
  tX12_aloneOf 87 = some (a_const (-1) 88) ∧
  tX12_aloneOf 88 = some (a_bin (fun x y => x ^^^ y) 89) ∧
  tX12_aloneOf 89 = some (a_bin (fun x y => x &&& y) 90) ∧
  tX12_aloneOf 90 = some (a_if (fun x => x = nI 0) 99 93) ∧
  tX12_aloneOf 93 = some (a_const (nI 1) 94) ∧
  tX12_aloneOf 94 = some (a_iload 3 95) ∧
  tX12_aloneOf 95 = some (a_bin (fun x y => x <<< (y &&& 31)) 96) ∧
  tX12_aloneOf 96 = some (a_goto 100) ∧
  tX12_aloneOf 99 = some (a_const (nI 0) 100) ∧
  tX12_aloneOf 100 = some (a_bin (fun x y => x ||| y) 101) ∧
  tX12_aloneOf 101 = some (a_istore 2 102) ∧
  tX12_aloneOf 102 = some (a_iinc 3 (nI 1) 105) ∧
  tX12_aloneOf 105 = some (a_goto 4) ∧
  tX12_aloneOf 108 = some (a_iload 2 109) ∧
  tX12_aloneOf 109 = some (a_iret) := ⟨rfl, rfl, rfl, rfl, rfl, rfl, rfl, rfl, rfl, rfl, rfl, rfl, rfl, rfl, rfl, rfl, rfl, rfl, rfl⟩
theorem lX12_alone_0 : tX12_alone 0 = some (a_iload 1 1) ∧
  tX12_alone 1 = some (a_csI mX12_isPlace 1 4) ∧
  tX12_alone 4 = some (a_if (fun x => x = nI 0) 7 9) ∧
  tX12_alone 7 = some (a_const (-1) 8) ∧
  tX12_alone 8 = some (a_iret) ∧
  tX12_alone 9 = some (a_const (nI 0) 10) ∧
  tX12_alone 10 = some (a_istore 2 11) ∧
  tX12_alone 11 = some (a_const (nI 0) 12) ∧
  tX12_alone 12 = some (a_istore 3 13) ∧
  tX12_alone 13 = some (a_iload 3 14) ∧
  tX12_alone 14 = some (a_aload 0 15) ∧
  tX12_alone 15 = some (a_get tT 12 0 18) ∧
  tX12_alone 18 = some (a_const (nI 1) 19) ∧
  tX12_alone 19 = some (a_iald tT 20) ∧
  tX12_alone 20 = some (a_cmp (fun x y => y ≤ x) 49 23) ∧
  tX12_alone 23 = some (a_iload 2 24) ∧
  tX12_alone 24 = some (a_aload 0 25) ∧
  tX12_alone 25 = some (a_iload 3 26) ∧
  tX12_alone 26 = some (a_const (nI 0) 27) ∧
  tX12_alone 27 = some (a_cvI tT mX12_own 12 2 30) ∧
  tX12_alone 30 = some (a_iload 1 31) ∧
  tX12_alone 31 = some (a_cmp (fun x y => x = y) 34 40) ∧
  tX12_alone 34 = some (a_const (nI 1) 35) ∧
  tX12_alone 35 = some (a_iload 3 36) := ⟨rfl, rfl, rfl, rfl, rfl, rfl, rfl, rfl, rfl, rfl, rfl, rfl, rfl, rfl, rfl, rfl, rfl, rfl, rfl, rfl, rfl, rfl, rfl, rfl⟩
theorem lX12_alone_1 : tX12_alone 36 = some (a_bin (fun x y => x <<< (y &&& 31)) 37) ∧
  tX12_alone 37 = some (a_goto 41) ∧
  tX12_alone 40 = some (a_const (nI 0) 41) ∧
  tX12_alone 41 = some (a_bin (fun x y => x ||| y) 42) ∧
  tX12_alone 42 = some (a_istore 2 43) ∧
  tX12_alone 43 = some (a_iinc 3 (nI 1) 46) ∧
  tX12_alone 46 = some (a_goto 13) ∧
  tX12_alone 49 = some (a_aload 0 50) ∧
  tX12_alone 50 = some (a_iload 2 51) ∧
  tX12_alone 51 = some (a_cvI tT mX12_aloneOf 12 1 54) ∧
  tX12_alone 54 = some (a_iret) := ⟨rfl, rfl, rfl, rfl, rfl, rfl, rfl, rfl, rfl, rfl, rfl⟩
theorem lX12_cousins_0 : tX12_cousins 0 = some (a_aload 0 1) ∧
  tX12_cousins 1 = some (a_iload 1 2) ∧
  tX12_cousins 2 = some (a_cvI tT mX12_isPerson 12 1 5) ∧
  tX12_cousins 5 = some (a_if (fun x => x = nI 0) 8 10) ∧
  tX12_cousins 8 = some (a_const (-1) 9) ∧
  tX12_cousins 9 = some (a_iret) ∧
  tX12_cousins 10 = some (a_const (nI 1) 11) ∧
  tX12_cousins 11 = some (a_iload 1 12) ∧
  tX12_cousins 12 = some (a_bin (fun x y => x <<< (y &&& 31)) 13) ∧
  tX12_cousins 13 = some (a_istore 2 14) ∧
  tX12_cousins 14 = some (a_aload 0 15) ∧
  tX12_cousins 15 = some (a_iload 1 16) ∧
  tX12_cousins 16 = some (a_const (nI 4) 17) ∧
  tX12_cousins 17 = some (a_cvI tT mX12_own 12 2 20) ∧
  tX12_cousins 20 = some (a_istore 3 21) ∧
  tX12_cousins 21 = some (a_const (nI 0) 22) ∧
  tX12_cousins 22 = some (a_istore 4 24) ∧
  tX12_cousins 24 = some (a_iload 4 26) ∧
  tX12_cousins 26 = some (a_aload 0 27) ∧
  tX12_cousins 27 = some (a_get tT 12 0 30) ∧
  tX12_cousins 30 = some (a_const (nI 1) 31) ∧
  tX12_cousins 31 = some (a_iald tT 32) ∧
  tX12_cousins 32 = some (a_cmp (fun x y => y ≤ x) 93 35) ∧
  tX12_cousins 35 = some (a_const (nI 0) 36) := ⟨rfl, rfl, rfl, rfl, rfl, rfl, rfl, rfl, rfl, rfl, rfl, rfl, rfl, rfl, rfl, rfl, rfl, rfl, rfl, rfl, rfl, rfl, rfl, rfl⟩
theorem lX12_cousins_1 : tX12_cousins 36 = some (a_istore 5 38) ∧
  tX12_cousins 38 = some (a_iload 5 40) ∧
  tX12_cousins 40 = some (a_aload 0 41) ∧
  tX12_cousins 41 = some (a_get tT 12 0 44) ∧
  tX12_cousins 44 = some (a_const (nI 1) 45) ∧
  tX12_cousins 45 = some (a_iald tT 46) ∧
  tX12_cousins 46 = some (a_cmp (fun x y => y ≤ x) 87 49) ∧
  tX12_cousins 49 = some (a_aload 0 50) ∧
  tX12_cousins 50 = some (a_iload 5 52) ∧
  tX12_cousins 52 = some (a_const (nI 4) 53) ∧
  tX12_cousins 53 = some (a_cvI tT mX12_own 12 2 56) ∧
  tX12_cousins 56 = some (a_iload 3 57) ∧
  tX12_cousins 57 = some (a_bin (fun x y => x &&& y) 58) ∧
  tX12_cousins 58 = some (a_if (fun x => x = nI 0) 61 64) ∧
  tX12_cousins 61 = some (a_goto 81) ∧
  tX12_cousins 64 = some (a_iload 2 65) ∧
  tX12_cousins 65 = some (a_const (nI 1) 66) ∧
  tX12_cousins 66 = some (a_iload 5 68) ∧
  tX12_cousins 68 = some (a_bin (fun x y => x <<< (y &&& 31)) 69) ∧
  tX12_cousins 69 = some (a_bin (fun x y => x ||| y) 70) ∧
  tX12_cousins 70 = some (a_istore 2 71) ∧
  tX12_cousins 71 = some (a_iload 3 72) ∧
  tX12_cousins 72 = some (a_aload 0 73) ∧
  tX12_cousins 73 = some (a_iload 5 75) := ⟨rfl, rfl, rfl, rfl, rfl, rfl, rfl, rfl, rfl, rfl, rfl, rfl, rfl, rfl, rfl, rfl, rfl, rfl, rfl, rfl, rfl, rfl, rfl, rfl⟩
theorem lX12_cousins_2 : tX12_cousins 75 = some (a_const (nI 4) 76) ∧
  tX12_cousins 76 = some (a_cvI tT mX12_own 12 2 79) ∧
  tX12_cousins 79 = some (a_bin (fun x y => x ||| y) 80) ∧
  tX12_cousins 80 = some (a_istore 3 81) ∧
  tX12_cousins 81 = some (a_iinc 5 (nI 1) 84) ∧
  tX12_cousins 84 = some (a_goto 38) ∧
  tX12_cousins 87 = some (a_iinc 4 (nI 1) 90) ∧
  tX12_cousins 90 = some (a_goto 24) ∧
  tX12_cousins 93 = some (a_iload 2 94) ∧
  tX12_cousins 94 = some (a_const (nI 1) 95) ∧
  tX12_cousins 95 = some (a_iload 1 96) ∧
  tX12_cousins 96 = some (a_bin (fun x y => x <<< (y &&& 31)) 97) ∧
  tX12_cousins 97 = some (a_const (-1) 98) ∧
  tX12_cousins 98 = some (a_bin (fun x y => x ^^^ y) 99) ∧
  tX12_cousins 99 = some (a_bin (fun x y => x &&& y) 100) ∧
  tX12_cousins 100 = some (a_iret) := ⟨rfl, rfl, rfl, rfl, rfl, rfl, rfl, rfl, rfl, rfl, rfl, rfl, rfl, rfl, rfl, rfl⟩
theorem lX12_estate_0 : tX12_estate 0 = some (a_aload 0 1) ∧
  tX12_estate 1 = some (a_iload 1 2) ∧
  tX12_estate 2 = some (a_cvI tT mX12_isPerson 12 1 5) ∧
  tX12_estate 5 = some (a_if (fun x => x = nI 0) 8 10) ∧
  tX12_estate 8 = some (a_const (-1) 9) ∧
  tX12_estate 9 = some (a_iret) ∧
  tX12_estate 10 = some (a_aload 0 11) ∧
  tX12_estate 11 = some (a_iload 1 12) ∧
  tX12_estate 12 = some (a_cvI tT mX12_cousins 12 1 15) ∧
  tX12_estate 15 = some (a_csI mX12_count 1 18) ∧
  tX12_estate 18 = some (a_istore 2 19) ∧
  tX12_estate 19 = some (a_iload 2 20) ∧
  tX12_estate 20 = some (a_if (fun x => x = nI 0) 23 27) ∧
  tX12_estate 23 = some (a_const (-1) 24) ∧
  tX12_estate 24 = some (a_goto 35) ∧
  tX12_estate 27 = some (a_aload 0 28) ∧
  tX12_estate 28 = some (a_iload 1 29) ∧
  tX12_estate 29 = some (a_const (nI 1) 30) ∧
  tX12_estate 30 = some (a_cvI tT mX12_own 12 2 33) ∧
  tX12_estate 33 = some (a_iload 2 34) ∧
  tX12_estate 34 = some (a_divr (fun x y => x / y) 35) ∧
  tX12_estate 35 = some (a_iret) := ⟨rfl, rfl, rfl, rfl, rfl, rfl, rfl, rfl, rfl, rfl, rfl, rfl, rfl, rfl, rfl, rfl, rfl, rfl, rfl, rfl, rfl, rfl⟩
theorem lX12_laysAside_0 : tX12_laysAside 0 = some (a_const (nI 0) 1) ∧
  tX12_laysAside 1 = some (a_istore 2 2) ∧
  tX12_laysAside 2 = some (a_iload 2 3) ∧
  tX12_laysAside 3 = some (a_const (nI 370) 6) ∧
  tX12_laysAside 6 = some (a_cmp (fun x y => y ≤ x) 36 9) ∧
  tX12_laysAside 9 = some (a_aload 0 10) ∧
  tX12_laysAside 10 = some (a_get tT 12 3 13) ∧
  tX12_laysAside 13 = some (a_const (nI 370) 16) ∧
  tX12_laysAside 16 = some (a_iload 1 17) ∧
  tX12_laysAside 17 = some (a_bin (fun x y => x * y) 18) ∧
  tX12_laysAside 18 = some (a_iload 2 19) ∧
  tX12_laysAside 19 = some (a_bin (fun x y => x + y) 20) ∧
  tX12_laysAside 20 = some (a_aload 0 21) ∧
  tX12_laysAside 21 = some (a_get tT 12 0 24) ∧
  tX12_laysAside 24 = some (a_const (nI 90) 26) ∧
  tX12_laysAside 26 = some (a_iload 2 27) ∧
  tX12_laysAside 27 = some (a_bin (fun x y => x + y) 28) ∧
  tX12_laysAside 28 = some (a_iald tT 29) ∧
  tX12_laysAside 29 = some (a_iast tT 30) ∧
  tX12_laysAside 30 = some (a_iinc 2 (nI 1) 33) ∧
  tX12_laysAside 33 = some (a_goto 2) ∧
  tX12_laysAside 36 = some (a_ret) := ⟨rfl, rfl, rfl, rfl, rfl, rfl, rfl, rfl, rfl, rfl, rfl, rfl, rfl, rfl, rfl, rfl, rfl, rfl, rfl, rfl, rfl, rfl⟩
theorem lX12_putsBack_0 : tX12_putsBack 0 = some (a_const (nI 0) 1) ∧
  tX12_putsBack 1 = some (a_istore 2 2) ∧
  tX12_putsBack 2 = some (a_iload 2 3) ∧
  tX12_putsBack 3 = some (a_const (nI 370) 6) ∧
  tX12_putsBack 6 = some (a_cmp (fun x y => y ≤ x) 36 9) ∧
  tX12_putsBack 9 = some (a_aload 0 10) ∧
  tX12_putsBack 10 = some (a_get tT 12 0 13) ∧
  tX12_putsBack 13 = some (a_const (nI 90) 15) ∧
  tX12_putsBack 15 = some (a_iload 2 16) ∧
  tX12_putsBack 16 = some (a_bin (fun x y => x + y) 17) ∧
  tX12_putsBack 17 = some (a_aload 0 18) ∧
  tX12_putsBack 18 = some (a_get tT 12 3 21) ∧
  tX12_putsBack 21 = some (a_const (nI 370) 24) ∧
  tX12_putsBack 24 = some (a_iload 1 25) ∧
  tX12_putsBack 25 = some (a_bin (fun x y => x * y) 26) ∧
  tX12_putsBack 26 = some (a_iload 2 27) ∧
  tX12_putsBack 27 = some (a_bin (fun x y => x + y) 28) ∧
  tX12_putsBack 28 = some (a_iald tT 29) ∧
  tX12_putsBack 29 = some (a_iast tT 30) ∧
  tX12_putsBack 30 = some (a_iinc 2 (nI 1) 33) ∧
  tX12_putsBack 33 = some (a_goto 2) ∧
  tX12_putsBack 36 = some (a_ret) := ⟨rfl, rfl, rfl, rfl, rfl, rfl, rfl, rfl, rfl, rfl, rfl, rfl, rfl, rfl, rfl, rfl, rfl, rfl, rfl, rfl, rfl, rfl⟩
theorem lX12_behind_0 : tX12_behind 0 = some (a_aload 0 1) ∧
  tX12_behind 1 = some (a_iload 1 2) ∧
  tX12_behind 2 = some (a_cvI tT mX12_isPerson 12 1 5) ∧
  tX12_behind 5 = some (a_if (fun x => x = nI 0) 8 10) ∧
  tX12_behind 8 = some (a_const (-1) 9) ∧
  tX12_behind 9 = some (a_iret) ∧
  tX12_behind 10 = some (a_aload 0 11) ∧
  tX12_behind 11 = some (a_iload 1 12) ∧
  tX12_behind 12 = some (a_const (nI 0) 13) ∧
  tX12_behind 13 = some (a_cvI tT mX12_own 12 2 16) ∧
  tX12_behind 16 = some (a_istore 7 18) ∧
  tX12_behind 18 = some (a_const (nI 0) 19) ∧
  tX12_behind 19 = some (a_istore 8 21) ∧
  tX12_behind 21 = some (a_const (nI 1) 22) ∧
  tX12_behind 22 = some (a_istore 9 24) ∧
  tX12_behind 24 = some (a_const (nI 0) 25) ∧
  tX12_behind 25 = some (a_istore 10 27) ∧
  tX12_behind 27 = some (a_iload 10 29) ∧
  tX12_behind 29 = some (a_const (nI 5) 30) ∧
  tX12_behind 30 = some (a_cmp (fun x y => y ≤ x) 142 33) ∧
  tX12_behind 33 = some (a_iload 9 35) ∧
  tX12_behind 35 = some (a_if (fun x => x = nI 0) 142 38) ∧
  tX12_behind 38 = some (a_iload 10 40) ∧
  tX12_behind 40 = some (a_if (fun x => x = nI 0) 43 47) := ⟨rfl, rfl, rfl, rfl, rfl, rfl, rfl, rfl, rfl, rfl, rfl, rfl, rfl, rfl, rfl, rfl, rfl, rfl, rfl, rfl, rfl, rfl, rfl, rfl⟩
theorem lX12_behind_1 : tX12_behind 43 = some (a_iload 2 44) ∧
  tX12_behind 44 = some (a_goto 81) ∧
  tX12_behind 47 = some (a_iload 10 49) ∧
  tX12_behind 49 = some (a_const (nI 1) 50) ∧
  tX12_behind 50 = some (a_cmp (fun x y => x = y) 53 57) ∧
  tX12_behind 53 = some (a_iload 3 54) ∧
  tX12_behind 54 = some (a_goto 81) ∧
  tX12_behind 57 = some (a_iload 10 59) ∧
  tX12_behind 59 = some (a_const (nI 2) 60) ∧
  tX12_behind 60 = some (a_cmp (fun x y => x = y) 63 68) ∧
  tX12_behind 63 = some (a_iload 4 65) ∧
  tX12_behind 65 = some (a_goto 81) ∧
  tX12_behind 68 = some (a_iload 10 70) ∧
  tX12_behind 70 = some (a_const (nI 3) 71) ∧
  tX12_behind 71 = some (a_cmp (fun x y => x = y) 74 79) ∧
  tX12_behind 74 = some (a_iload 5 76) ∧
  tX12_behind 76 = some (a_goto 81) ∧
  tX12_behind 79 = some (a_iload 6 81) ∧
  tX12_behind 81 = some (a_istore 11 83) ∧
  tX12_behind 83 = some (a_iload 11 85) ∧
  tX12_behind 85 = some (a_const (-1) 86) ∧
  tX12_behind 86 = some (a_cmp (fun x y => x = y) 93 89) ∧
  tX12_behind 89 = some (a_const (nI 1) 90) ∧
  tX12_behind 90 = some (a_goto 94) := ⟨rfl, rfl, rfl, rfl, rfl, rfl, rfl, rfl, rfl, rfl, rfl, rfl, rfl, rfl, rfl, rfl, rfl, rfl, rfl, rfl, rfl, rfl, rfl, rfl⟩
theorem lX12_behind_2 : tX12_behind 93 = some (a_const (nI 0) 94) ∧
  tX12_behind 94 = some (a_istore 9 96) ∧
  tX12_behind 96 = some (a_iload 9 98) ∧
  tX12_behind 98 = some (a_if (fun x => x = nI 0) 101 104) ∧
  tX12_behind 101 = some (a_goto 136) ∧
  tX12_behind 104 = some (a_aload 0 105) ∧
  tX12_behind 105 = some (a_iload 11 107) ∧
  tX12_behind 107 = some (a_cvI tT mX12_isBridge 12 1 110) ∧
  tX12_behind 110 = some (a_if (fun x => x = nI 0) 113 115) ∧
  tX12_behind 113 = some (a_const (-1) 114) ∧
  tX12_behind 114 = some (a_iret) ∧
  tX12_behind 115 = some (a_aload 0 116) ∧
  tX12_behind 116 = some (a_iload 11 118) ∧
  tX12_behind 118 = some (a_iload 7 120) ∧
  tX12_behind 120 = some (a_cvI tT mX12_otherEnd 12 2 123) ∧
  tX12_behind 123 = some (a_istore 7 125) ∧
  tX12_behind 125 = some (a_iload 7 127) ∧
  tX12_behind 127 = some (a_const (-1) 128) ∧
  tX12_behind 128 = some (a_cmp (fun x y => x = y) 131 133) ∧
  tX12_behind 131 = some (a_const (-1) 132) ∧
  tX12_behind 132 = some (a_iret) ∧
  tX12_behind 133 = some (a_iinc 8 (nI 1) 136) ∧
  tX12_behind 136 = some (a_iinc 10 (nI 1) 139) ∧
  tX12_behind 139 = some (a_goto 27) := ⟨rfl, rfl, rfl, rfl, rfl, rfl, rfl, rfl, rfl, rfl, rfl, rfl, rfl, rfl, rfl, rfl, rfl, rfl, rfl, rfl, rfl, rfl, rfl, rfl⟩
theorem lX12_behind_3 : tX12_behind 142 = some (a_iload 8 144) ∧
  tX12_behind 144 = some (a_if (fun x => x = nI 0) 147 149) ∧
  tX12_behind 147 = some (a_const (-1) 148) ∧
  tX12_behind 148 = some (a_iret) ∧
  tX12_behind 149 = some (a_aload 0 150) ∧
  tX12_behind 150 = some (a_const (nI 0) 151) ∧
  tX12_behind 151 = some (a_cvV tT mX12_laysAside 12 1 154) ∧
  tX12_behind 154 = some (a_const (nI 1) 155) ∧
  tX12_behind 155 = some (a_istore 10 157) ∧
  tX12_behind 157 = some (a_const (nI 0) 158) ∧
  tX12_behind 158 = some (a_istore 11 160) ∧
  tX12_behind 160 = some (a_iload 11 162) ∧
  tX12_behind 162 = some (a_iload 8 164) ∧
  tX12_behind 164 = some (a_cmp (fun x y => y ≤ x) 238 167) ∧
  tX12_behind 167 = some (a_iload 10 169) ∧
  tX12_behind 169 = some (a_if (fun x => x = nI 0) 238 172) ∧
  tX12_behind 172 = some (a_aload 0 173) ∧
  tX12_behind 173 = some (a_iload 1 174) ∧
  tX12_behind 174 = some (a_iload 11 176) ∧
  tX12_behind 176 = some (a_if (fun x => x = nI 0) 179 183) ∧
  tX12_behind 179 = some (a_iload 2 180) ∧
  tX12_behind 180 = some (a_goto 217) ∧
  tX12_behind 183 = some (a_iload 11 185) ∧
  tX12_behind 185 = some (a_const (nI 1) 186) := ⟨rfl, rfl, rfl, rfl, rfl, rfl, rfl, rfl, rfl, rfl, rfl, rfl, rfl, rfl, rfl, rfl, rfl, rfl, rfl, rfl, rfl, rfl, rfl, rfl⟩
theorem lX12_behind_4 : tX12_behind 186 = some (a_cmp (fun x y => x = y) 189 193) ∧
  tX12_behind 189 = some (a_iload 3 190) ∧
  tX12_behind 190 = some (a_goto 217) ∧
  tX12_behind 193 = some (a_iload 11 195) ∧
  tX12_behind 195 = some (a_const (nI 2) 196) ∧
  tX12_behind 196 = some (a_cmp (fun x y => x = y) 199 204) ∧
  tX12_behind 199 = some (a_iload 4 201) ∧
  tX12_behind 201 = some (a_goto 217) ∧
  tX12_behind 204 = some (a_iload 11 206) ∧
  tX12_behind 206 = some (a_const (nI 3) 207) ∧
  tX12_behind 207 = some (a_cmp (fun x y => x = y) 210 215) ∧
  tX12_behind 210 = some (a_iload 5 212) ∧
  tX12_behind 212 = some (a_goto 217) ∧
  tX12_behind 215 = some (a_iload 6 217) ∧
  tX12_behind 217 = some (a_cvI tT mX12_crosses 12 2 220) ∧
  tX12_behind 220 = some (a_const (-2) 222) ∧
  tX12_behind 222 = some (a_cmp (fun x y => x = y) 229 225) ∧
  tX12_behind 225 = some (a_const (nI 1) 226) ∧
  tX12_behind 226 = some (a_goto 230) ∧
  tX12_behind 229 = some (a_const (nI 0) 230) ∧
  tX12_behind 230 = some (a_istore 10 232) ∧
  tX12_behind 232 = some (a_iinc 11 (nI 1) 235) ∧
  tX12_behind 235 = some (a_goto 160) ∧
  tX12_behind 238 = some (a_iload 10 240) := ⟨rfl, rfl, rfl, rfl, rfl, rfl, rfl, rfl, rfl, rfl, rfl, rfl, rfl, rfl, rfl, rfl, rfl, rfl, rfl, rfl, rfl, rfl, rfl, rfl⟩
theorem lX12_behind_5 : tX12_behind 240 = some (a_if (fun x => x = nI 0) 251 243) ∧
  tX12_behind 243 = some (a_aload 0 244) ∧
  tX12_behind 244 = some (a_iload 1 245) ∧
  tX12_behind 245 = some (a_cvI tT mX12_had 12 1 248) ∧
  tX12_behind 248 = some (a_goto 253) ∧
  tX12_behind 251 = some (a_const (-2) 253) ∧
  tX12_behind 253 = some (a_istore 11 255) ∧
  tX12_behind 255 = some (a_aload 0 256) ∧
  tX12_behind 256 = some (a_const (nI 0) 257) ∧
  tX12_behind 257 = some (a_cvV tT mX12_putsBack 12 1 260) ∧
  tX12_behind 260 = some (a_iload 11 262) ∧
  tX12_behind 262 = some (a_iret) := ⟨rfl, rfl, rfl, rfl, rfl, rfl, rfl, rfl, rfl, rfl, rfl, rfl⟩
theorem lX12_seeks_0 : tX12_seeks 0 = some (a_aload 0 1) ∧
  tX12_seeks 1 = some (a_iload 1 2) ∧
  tX12_seeks 2 = some (a_const (nI 0) 3) ∧
  tX12_seeks 3 = some (a_cvI tT mX12_own 12 2 6) ∧
  tX12_seeks 6 = some (a_istore 6 8) ∧
  tX12_seeks 8 = some (a_iload 6 10) ∧
  tX12_seeks 10 = some (a_iload 2 11) ∧
  tX12_seeks 11 = some (a_cmp (fun x y => x = y) 14 93) ∧
  tX12_seeks 14 = some (a_aload 0 15) ∧
  tX12_seeks 15 = some (a_get tT 12 25 18) ∧
  tX12_seeks 18 = some (a_const (-1) 19) ∧
  tX12_seeks 19 = some (a_cmp (fun x y => x = y) 50 22) ∧
  tX12_seeks 22 = some (a_iload 5 24) ∧
  tX12_seeks 24 = some (a_aload 0 25) ∧
  tX12_seeks 25 = some (a_get tT 12 25 28) ∧
  tX12_seeks 28 = some (a_cmp (fun x y => y < x) 49 31) ∧
  tX12_seeks 31 = some (a_iload 5 33) ∧
  tX12_seeks 33 = some (a_aload 0 34) ∧
  tX12_seeks 34 = some (a_get tT 12 25 37) ∧
  tX12_seeks 37 = some (a_cmp (fun x y => x = y) 40 50) ∧
  tX12_seeks 40 = some (a_iload 4 42) ∧
  tX12_seeks 42 = some (a_aload 0 43) ∧
  tX12_seeks 43 = some (a_get tT 12 26 46) ∧
  tX12_seeks 46 = some (a_cmp (fun x y => x < y) 50 49) := ⟨rfl, rfl, rfl, rfl, rfl, rfl, rfl, rfl, rfl, rfl, rfl, rfl, rfl, rfl, rfl, rfl, rfl, rfl, rfl, rfl, rfl, rfl, rfl, rfl⟩
theorem lX12_seeks_1 : tX12_seeks 49 = some (a_ret) ∧
  tX12_seeks 50 = some (a_aload 0 51) ∧
  tX12_seeks 51 = some (a_iload 5 53) ∧
  tX12_seeks 53 = some (a_put tT 12 25 56) ∧
  tX12_seeks 56 = some (a_aload 0 57) ∧
  tX12_seeks 57 = some (a_iload 4 59) ∧
  tX12_seeks 59 = some (a_put tT 12 26 62) ∧
  tX12_seeks 62 = some (a_const (nI 0) 63) ∧
  tX12_seeks 63 = some (a_istore 7 65) ∧
  tX12_seeks 65 = some (a_iload 7 67) ∧
  tX12_seeks 67 = some (a_iload 4 69) ∧
  tX12_seeks 69 = some (a_cmp (fun x y => y ≤ x) 92 72) ∧
  tX12_seeks 72 = some (a_aload 0 73) ∧
  tX12_seeks 73 = some (a_get tT 12 24 76) ∧
  tX12_seeks 76 = some (a_iload 7 78) ∧
  tX12_seeks 78 = some (a_aload 0 79) ∧
  tX12_seeks 79 = some (a_get tT 12 23 82) ∧
  tX12_seeks 82 = some (a_iload 7 84) ∧
  tX12_seeks 84 = some (a_iald tT 85) ∧
  tX12_seeks 85 = some (a_iast tT 86) ∧
  tX12_seeks 86 = some (a_iinc 7 (nI 1) 89) ∧
  tX12_seeks 89 = some (a_goto 65) ∧
  tX12_seeks 92 = some (a_ret) ∧
  tX12_seeks 93 = some (a_aload 0 94) := ⟨rfl, rfl, rfl, rfl, rfl, rfl, rfl, rfl, rfl, rfl, rfl, rfl, rfl, rfl, rfl, rfl, rfl, rfl, rfl, rfl, rfl, rfl, rfl, rfl⟩
theorem lX12_seeks_2 : tX12_seeks 94 = some (a_iload 4 96) ∧
  tX12_seeks 96 = some (a_cvV tT mX12_laysAside 12 1 99) ∧
  tX12_seeks 99 = some (a_const (nI 0) 100) ∧
  tX12_seeks 100 = some (a_istore 7 102) ∧
  tX12_seeks 102 = some (a_iload 7 104) ∧
  tX12_seeks 104 = some (a_aload 0 105) ∧
  tX12_seeks 105 = some (a_get tT 12 0 108) ∧
  tX12_seeks 108 = some (a_const (nI 2) 109) ∧
  tX12_seeks 109 = some (a_iald tT 110) ∧
  tX12_seeks 110 = some (a_cmp (fun x y => y ≤ x) 210 113) ∧
  tX12_seeks 113 = some (a_aload 0 114) ∧
  tX12_seeks 114 = some (a_iload 7 116) ∧
  tX12_seeks 116 = some (a_iload 6 118) ∧
  tX12_seeks 118 = some (a_cvI tT mX12_otherEnd 12 2 121) ∧
  tX12_seeks 121 = some (a_istore 8 123) ∧
  tX12_seeks 123 = some (a_iload 8 125) ∧
  tX12_seeks 125 = some (a_const (-1) 126) ∧
  tX12_seeks 126 = some (a_cmp (fun x y => x = y) 204 129) ∧
  tX12_seeks 129 = some (a_iload 3 130) ∧
  tX12_seeks 130 = some (a_iload 8 132) ∧
  tX12_seeks 132 = some (a_bin (fun x y => x >>> (y &&& 31)) 133) ∧
  tX12_seeks 133 = some (a_const (nI 1) 134) ∧
  tX12_seeks 134 = some (a_bin (fun x y => x &&& y) 135) ∧
  tX12_seeks 135 = some (a_const (nI 1) 136) := ⟨rfl, rfl, rfl, rfl, rfl, rfl, rfl, rfl, rfl, rfl, rfl, rfl, rfl, rfl, rfl, rfl, rfl, rfl, rfl, rfl, rfl, rfl, rfl, rfl⟩
theorem lX12_seeks_3 : tX12_seeks 136 = some (a_cmp (fun x y => x = y) 139 142) ∧
  tX12_seeks 139 = some (a_goto 204) ∧
  tX12_seeks 142 = some (a_aload 0 143) ∧
  tX12_seeks 143 = some (a_iload 1 144) ∧
  tX12_seeks 144 = some (a_iload 7 146) ∧
  tX12_seeks 146 = some (a_cvI tT mX12_crosses 12 2 149) ∧
  tX12_seeks 149 = some (a_istore 9 151) ∧
  tX12_seeks 151 = some (a_aload 0 152) ∧
  tX12_seeks 152 = some (a_get tT 12 23 155) ∧
  tX12_seeks 155 = some (a_iload 4 157) ∧
  tX12_seeks 157 = some (a_iload 7 159) ∧
  tX12_seeks 159 = some (a_iast tT 160) ∧
  tX12_seeks 160 = some (a_iload 9 162) ∧
  tX12_seeks 162 = some (a_const (-2) 164) ∧
  tX12_seeks 164 = some (a_cmp (fun x y => x = y) 198 167) ∧
  tX12_seeks 167 = some (a_aload 0 168) ∧
  tX12_seeks 168 = some (a_iload 1 169) ∧
  tX12_seeks 169 = some (a_iload 2 170) ∧
  tX12_seeks 170 = some (a_iload 3 171) ∧
  tX12_seeks 171 = some (a_const (nI 1) 172) ∧
  tX12_seeks 172 = some (a_iload 8 174) ∧
  tX12_seeks 174 = some (a_bin (fun x y => x <<< (y &&& 31)) 175) ∧
  tX12_seeks 175 = some (a_bin (fun x y => x ||| y) 176) ∧
  tX12_seeks 176 = some (a_iload 4 178) := ⟨rfl, rfl, rfl, rfl, rfl, rfl, rfl, rfl, rfl, rfl, rfl, rfl, rfl, rfl, rfl, rfl, rfl, rfl, rfl, rfl, rfl, rfl, rfl, rfl⟩
theorem lX12_seeks_4 : tX12_seeks 178 = some (a_const (nI 1) 179) ∧
  tX12_seeks 179 = some (a_bin (fun x y => x + y) 180) ∧
  tX12_seeks 180 = some (a_iload 5 182) ∧
  tX12_seeks 182 = some (a_iload 9 184) ∧
  tX12_seeks 184 = some (a_const (nI 100) 186) ∧
  tX12_seeks 186 = some (a_cmp (fun x y => x = y) 189 193) ∧
  tX12_seeks 189 = some (a_const (nI 0) 190) ∧
  tX12_seeks 190 = some (a_goto 194) ∧
  tX12_seeks 193 = some (a_const (nI 1) 194) ∧
  tX12_seeks 194 = some (a_bin (fun x y => x + y) 195) ∧
  tX12_seeks 195 = some (a_cvV tT mX12_seeks 12 5 198) ∧
  tX12_seeks 198 = some (a_aload 0 199) ∧
  tX12_seeks 199 = some (a_iload 4 201) ∧
  tX12_seeks 201 = some (a_cvV tT mX12_putsBack 12 1 204) ∧
  tX12_seeks 204 = some (a_iinc 7 (nI 1) 207) ∧
  tX12_seeks 207 = some (a_goto 102) ∧
  tX12_seeks 210 = some (a_ret) := ⟨rfl, rfl, rfl, rfl, rfl, rfl, rfl, rfl, rfl, rfl, rfl, rfl, rfl, rfl, rfl, rfl, rfl⟩
theorem lX12_best_0 : tX12_best 0 = some (a_aload 0 1) ∧
  tX12_best 1 = some (a_iload 1 2) ∧
  tX12_best 2 = some (a_cvI tT mX12_isPerson 12 1 5) ∧
  tX12_best 5 = some (a_if (fun x => x = nI 0) 45 8) ∧
  tX12_best 8 = some (a_iload 2 9) ∧
  tX12_best 9 = some (a_csI mX12_isPlace 1 12) ∧
  tX12_best 12 = some (a_if (fun x => x = nI 0) 45 15) ∧
  tX12_best 15 = some (a_aload 0 16) ∧
  tX12_best 16 = some (a_iload 1 17) ∧
  tX12_best 17 = some (a_const (nI 0) 18) ∧
  tX12_best 18 = some (a_cvI tT mX12_own 12 2 21) ∧
  tX12_best 21 = some (a_iload 2 22) ∧
  tX12_best 22 = some (a_cmp (fun x y => x = y) 45 25) ∧
  tX12_best 25 = some (a_iload 3 26) ∧
  tX12_best 26 = some (a_const (nI 0) 27) ∧
  tX12_best 27 = some (a_const (nI 1) 28) ∧
  tX12_best 28 = some (a_csI mX12_isIn 3 31) ∧
  tX12_best 31 = some (a_if (fun x => x = nI 0) 34 47) ∧
  tX12_best 34 = some (a_iload 3 35) ∧
  tX12_best 35 = some (a_const (nI 10) 37) ∧
  tX12_best 37 = some (a_const (nI 16) 39) ∧
  tX12_best 39 = some (a_csI mX12_isIn 3 42) ∧
  tX12_best 42 = some (a_if (fun x => x = nI 0) 45 47) ∧
  tX12_best 45 = some (a_const (-1) 46) := ⟨rfl, rfl, rfl, rfl, rfl, rfl, rfl, rfl, rfl, rfl, rfl, rfl, rfl, rfl, rfl, rfl, rfl, rfl, rfl, rfl, rfl, rfl, rfl, rfl⟩
theorem lX12_best_1 : tX12_best 46 = some (a_iret) ∧
  tX12_best 47 = some (a_aload 0 48) ∧
  tX12_best 48 = some (a_const (-1) 49) ∧
  tX12_best 49 = some (a_put tT 12 25 52) ∧
  tX12_best 52 = some (a_aload 0 53) ∧
  tX12_best 53 = some (a_const (nI 0) 54) ∧
  tX12_best 54 = some (a_put tT 12 26 57) ∧
  tX12_best 57 = some (a_aload 0 58) ∧
  tX12_best 58 = some (a_iload 1 59) ∧
  tX12_best 59 = some (a_iload 2 60) ∧
  tX12_best 60 = some (a_const (nI 1) 61) ∧
  tX12_best 61 = some (a_aload 0 62) ∧
  tX12_best 62 = some (a_iload 1 63) ∧
  tX12_best 63 = some (a_const (nI 0) 64) ∧
  tX12_best 64 = some (a_cvI tT mX12_own 12 2 67) ∧
  tX12_best 67 = some (a_bin (fun x y => x <<< (y &&& 31)) 68) ∧
  tX12_best 68 = some (a_const (nI 0) 69) ∧
  tX12_best 69 = some (a_const (nI 0) 70) ∧
  tX12_best 70 = some (a_cvV tT mX12_seeks 12 5 73) ∧
  tX12_best 73 = some (a_aload 0 74) ∧
  tX12_best 74 = some (a_get tT 12 25 77) ∧
  tX12_best 77 = some (a_const (-1) 78) ∧
  tX12_best 78 = some (a_cmp (fun x y => x = y) 85 81) ∧
  tX12_best 81 = some (a_iload 3 82) := ⟨rfl, rfl, rfl, rfl, rfl, rfl, rfl, rfl, rfl, rfl, rfl, rfl, rfl, rfl, rfl, rfl, rfl, rfl, rfl, rfl, rfl, rfl, rfl, rfl⟩
theorem lX12_best_2 : tX12_best 82 = some (a_if (fun x => x = nI 0) 85 90) ∧
  tX12_best 85 = some (a_aload 0 86) ∧
  tX12_best 86 = some (a_get tT 12 25 89) ∧
  tX12_best 89 = some (a_iret) ∧
  tX12_best 90 = some (a_iload 3 91) ∧
  tX12_best 91 = some (a_const (nI 1) 92) ∧
  tX12_best 92 = some (a_cmp (fun x y => x = y) 95 102) ∧
  tX12_best 95 = some (a_aload 0 96) ∧
  tX12_best 96 = some (a_get tT 12 26 99) ∧
  tX12_best 99 = some (a_goto 131) ∧
  tX12_best 102 = some (a_iload 3 103) ∧
  tX12_best 103 = some (a_const (nI 10) 105) ∧
  tX12_best 105 = some (a_const (nI 9) 107) ∧
  tX12_best 107 = some (a_aload 0 108) ∧
  tX12_best 108 = some (a_get tT 12 26 111) ∧
  tX12_best 111 = some (a_bin (fun x y => x + y) 112) ∧
  tX12_best 112 = some (a_csI mX12_isIn 3 115) ∧
  tX12_best 115 = some (a_if (fun x => x = nI 0) 130 118) ∧
  tX12_best 118 = some (a_aload 0 119) ∧
  tX12_best 119 = some (a_get tT 12 24 122) ∧
  tX12_best 122 = some (a_iload 3 123) ∧
  tX12_best 123 = some (a_const (nI 10) 125) ∧
  tX12_best 125 = some (a_bin (fun x y => x - y) 126) ∧
  tX12_best 126 = some (a_iald tT 127) := ⟨rfl, rfl, rfl, rfl, rfl, rfl, rfl, rfl, rfl, rfl, rfl, rfl, rfl, rfl, rfl, rfl, rfl, rfl, rfl, rfl, rfl, rfl, rfl, rfl⟩
theorem lX12_best_3 : tX12_best 127 = some (a_goto 131) ∧
  tX12_best 130 = some (a_const (-1) 131) ∧
  tX12_best 131 = some (a_iret) := ⟨rfl, rfl, rfl⟩
theorem lX12_round_0 : tX12_round 0 = some (a_iload 1 1) ∧
  tX12_round 1 = some (a_const (-1) 2) ∧
  tX12_round 2 = some (a_cmp (fun x y => x = y) 5 15) ∧
  tX12_round 5 = some (a_aload 0 6) ∧
  tX12_round 6 = some (a_get tT 12 0 9) ∧
  tX12_round 9 = some (a_const (nI 8) 11) ∧
  tX12_round 11 = some (a_const (nI 0) 12) ∧
  tX12_round 12 = some (a_iast tT 13) ∧
  tX12_round 13 = some (a_const (nI 0) 14) ∧
  tX12_round 14 = some (a_iret) ∧
  tX12_round 15 = some (a_aload 0 16) ∧
  tX12_round 16 = some (a_iload 1 17) ∧
  tX12_round 17 = some (a_cvI tT mX12_isBridge 12 1 20) ∧
  tX12_round 20 = some (a_if (fun x => x = nI 0) 35 23) ∧
  tX12_round 23 = some (a_aload 0 24) ∧
  tX12_round 24 = some (a_get tT 12 0 27) ∧
  tX12_round 27 = some (a_const (nI 8) 29) ∧
  tX12_round 29 = some (a_iald tT 30) ∧
  tX12_round 30 = some (a_const (nI 12) 32) ∧
  tX12_round 32 = some (a_cmp (fun x y => x = y) 35 37) ∧
  tX12_round 35 = some (a_const (-1) 36) ∧
  tX12_round 36 = some (a_iret) ∧
  tX12_round 37 = some (a_aload 0 38) ∧
  tX12_round 38 = some (a_get tT 12 0 41) := ⟨rfl, rfl, rfl, rfl, rfl, rfl, rfl, rfl, rfl, rfl, rfl, rfl, rfl, rfl, rfl, rfl, rfl, rfl, rfl, rfl, rfl, rfl, rfl, rfl⟩
theorem lX12_round_1 : tX12_round 41 = some (a_const (nI 75) 43) ∧
  tX12_round 43 = some (a_aload 0 44) ∧
  tX12_round 44 = some (a_get tT 12 0 47) ∧
  tX12_round 47 = some (a_const (nI 8) 49) ∧
  tX12_round 49 = some (a_iald tT 50) ∧
  tX12_round 50 = some (a_bin (fun x y => x + y) 51) ∧
  tX12_round 51 = some (a_iload 1 52) ∧
  tX12_round 52 = some (a_iast tT 53) ∧
  tX12_round 53 = some (a_aload 0 54) ∧
  tX12_round 54 = some (a_get tT 12 0 57) ∧
  tX12_round 57 = some (a_const (nI 8) 59) ∧
  tX12_round 59 = some (a_dup2 60) ∧
  tX12_round 60 = some (a_iald tT 61) ∧
  tX12_round 61 = some (a_const (nI 1) 62) ∧
  tX12_round 62 = some (a_bin (fun x y => x + y) 63) ∧
  tX12_round 63 = some (a_iast tT 64) ∧
  tX12_round 64 = some (a_aload 0 65) ∧
  tX12_round 65 = some (a_get tT 12 0 68) ∧
  tX12_round 68 = some (a_const (nI 8) 70) ∧
  tX12_round 70 = some (a_iald tT 71) ∧
  tX12_round 71 = some (a_iret) := ⟨rfl, rfl, rfl, rfl, rfl, rfl, rfl, rfl, rfl, rfl, rfl, rfl, rfl, rfl, rfl, rfl, rfl, rfl, rfl, rfl, rfl⟩
theorem lX12_isRound_0 : tX12_isRound 0 = some (a_aload 0 1) ∧
  tX12_isRound 1 = some (a_iload 1 2) ∧
  tX12_isRound 2 = some (a_const (nI 0) 3) ∧
  tX12_isRound 3 = some (a_cvI tT mX12_own 12 2 6) ∧
  tX12_isRound 6 = some (a_istore 2 7) ∧
  tX12_isRound 7 = some (a_const (nI 0) 8) ∧
  tX12_isRound 8 = some (a_istore 3 9) ∧
  tX12_isRound 9 = some (a_iload 3 10) ∧
  tX12_isRound 10 = some (a_aload 0 11) ∧
  tX12_isRound 11 = some (a_get tT 12 0 14) ∧
  tX12_isRound 14 = some (a_const (nI 8) 16) ∧
  tX12_isRound 16 = some (a_iald tT 17) ∧
  tX12_isRound 17 = some (a_cmp (fun x y => y ≤ x) 48 20) ∧
  tX12_isRound 20 = some (a_aload 0 21) ∧
  tX12_isRound 21 = some (a_aload 0 22) ∧
  tX12_isRound 22 = some (a_get tT 12 0 25) ∧
  tX12_isRound 25 = some (a_const (nI 75) 27) ∧
  tX12_isRound 27 = some (a_iload 3 28) ∧
  tX12_isRound 28 = some (a_bin (fun x y => x + y) 29) ∧
  tX12_isRound 29 = some (a_iald tT 30) ∧
  tX12_isRound 30 = some (a_iload 2 31) ∧
  tX12_isRound 31 = some (a_cvI tT mX12_otherEnd 12 2 34) ∧
  tX12_isRound 34 = some (a_istore 2 35) ∧
  tX12_isRound 35 = some (a_iload 2 36) := ⟨rfl, rfl, rfl, rfl, rfl, rfl, rfl, rfl, rfl, rfl, rfl, rfl, rfl, rfl, rfl, rfl, rfl, rfl, rfl, rfl, rfl, rfl, rfl, rfl⟩
theorem lX12_isRound_1 : tX12_isRound 36 = some (a_const (-1) 37) ∧
  tX12_isRound 37 = some (a_cmp (fun x y => x = y) 40 42) ∧
  tX12_isRound 40 = some (a_const (nI 0) 41) ∧
  tX12_isRound 41 = some (a_zret) ∧
  tX12_isRound 42 = some (a_iinc 3 (nI 1) 45) ∧
  tX12_isRound 45 = some (a_goto 9) ∧
  tX12_isRound 48 = some (a_aload 0 49) ∧
  tX12_isRound 49 = some (a_get tT 12 0 52) ∧
  tX12_isRound 52 = some (a_const (nI 8) 54) ∧
  tX12_isRound 54 = some (a_iald tT 55) ∧
  tX12_isRound 55 = some (a_if (fun x => x ≤ nI 0) 62 58) ∧
  tX12_isRound 58 = some (a_const (nI 1) 59) ∧
  tX12_isRound 59 = some (a_goto 63) ∧
  tX12_isRound 62 = some (a_const (nI 0) 63) ∧
  tX12_isRound 63 = some (a_zret) := ⟨rfl, rfl, rfl, rfl, rfl, rfl, rfl, rfl, rfl, rfl, rfl, rfl, rfl, rfl, rfl⟩
theorem lX12_getsRound_0 : tX12_getsRound 0 = some (a_const (nI 0) 1) ∧
  tX12_getsRound 1 = some (a_istore 2 2) ∧
  tX12_getsRound 2 = some (a_iload 2 3) ∧
  tX12_getsRound 3 = some (a_aload 0 4) ∧
  tX12_getsRound 4 = some (a_get tT 12 0 7) ∧
  tX12_getsRound 7 = some (a_const (nI 8) 9) ∧
  tX12_getsRound 9 = some (a_iald tT 10) ∧
  tX12_getsRound 10 = some (a_cmp (fun x y => y ≤ x) 40 13) ∧
  tX12_getsRound 13 = some (a_aload 0 14) ∧
  tX12_getsRound 14 = some (a_iload 1 15) ∧
  tX12_getsRound 15 = some (a_aload 0 16) ∧
  tX12_getsRound 16 = some (a_get tT 12 0 19) ∧
  tX12_getsRound 19 = some (a_const (nI 75) 21) ∧
  tX12_getsRound 21 = some (a_iload 2 22) ∧
  tX12_getsRound 22 = some (a_bin (fun x y => x + y) 23) ∧
  tX12_getsRound 23 = some (a_iald tT 24) ∧
  tX12_getsRound 24 = some (a_cvI tT mX12_crosses 12 2 27) ∧
  tX12_getsRound 27 = some (a_const (-2) 29) ∧
  tX12_getsRound 29 = some (a_cmp (fun x y => x = y) 32 34) ∧
  tX12_getsRound 32 = some (a_const (nI 0) 33) ∧
  tX12_getsRound 33 = some (a_zret) ∧
  tX12_getsRound 34 = some (a_iinc 2 (nI 1) 37) ∧
  tX12_getsRound 37 = some (a_goto 2) ∧
  tX12_getsRound 40 = some (a_const (nI 1) 41) := ⟨rfl, rfl, rfl, rfl, rfl, rfl, rfl, rfl, rfl, rfl, rfl, rfl, rfl, rfl, rfl, rfl, rfl, rfl, rfl, rfl, rfl, rfl, rfl, rfl⟩
theorem lX12_getsRound_1 : tX12_getsRound 41 = some (a_zret) := rfl
theorem lX12_isPlanned_0 : tX12_isPlanned 0 = some (a_iload 2 1) ∧
  tX12_isPlanned 1 = some (a_iload 3 2) ∧
  tX12_isPlanned 2 = some (a_cmp (fun x y => x = y) 5 52) ∧
  tX12_isPlanned 5 = some (a_aload 0 6) ∧
  tX12_isPlanned 6 = some (a_const (nI 0) 7) ∧
  tX12_isPlanned 7 = some (a_cvV tT mX12_laysAside 12 1 10) ∧
  tX12_isPlanned 10 = some (a_const (nI 0) 11) ∧
  tX12_isPlanned 11 = some (a_istore 5 13) ∧
  tX12_isPlanned 13 = some (a_iload 5 15) ∧
  tX12_isPlanned 15 = some (a_iload 3 16) ∧
  tX12_isPlanned 16 = some (a_cmp (fun x y => y ≤ x) 37 19) ∧
  tX12_isPlanned 19 = some (a_aload 0 20) ∧
  tX12_isPlanned 20 = some (a_iload 1 21) ∧
  tX12_isPlanned 21 = some (a_aload 0 22) ∧
  tX12_isPlanned 22 = some (a_get tT 12 27 25) ∧
  tX12_isPlanned 25 = some (a_iload 5 27) ∧
  tX12_isPlanned 27 = some (a_iald tT 28) ∧
  tX12_isPlanned 28 = some (a_cvV tT mX12_comes 12 2 31) ∧
  tX12_isPlanned 31 = some (a_iinc 5 (nI 1) 34) ∧
  tX12_isPlanned 34 = some (a_goto 13) ∧
  tX12_isPlanned 37 = some (a_aload 0 38) ∧
  tX12_isPlanned 38 = some (a_iload 1 39) ∧
  tX12_isPlanned 39 = some (a_cvI tT mX12_getsRound 12 1 42) ∧
  tX12_isPlanned 42 = some (a_istore 5 44) := ⟨rfl, rfl, rfl, rfl, rfl, rfl, rfl, rfl, rfl, rfl, rfl, rfl, rfl, rfl, rfl, rfl, rfl, rfl, rfl, rfl, rfl, rfl, rfl, rfl⟩
theorem lX12_isPlanned_1 : tX12_isPlanned 44 = some (a_aload 0 45) ∧
  tX12_isPlanned 45 = some (a_const (nI 0) 46) ∧
  tX12_isPlanned 46 = some (a_cvV tT mX12_putsBack 12 1 49) ∧
  tX12_isPlanned 49 = some (a_iload 5 51) ∧
  tX12_isPlanned 51 = some (a_zret) ∧
  tX12_isPlanned 52 = some (a_iload 4 54) ∧
  tX12_isPlanned 54 = some (a_istore 5 56) ∧
  tX12_isPlanned 56 = some (a_iload 5 58) ∧
  tX12_isPlanned 58 = some (a_aload 0 59) ∧
  tX12_isPlanned 59 = some (a_get tT 12 0 62) ∧
  tX12_isPlanned 62 = some (a_const (nI 0) 63) ∧
  tX12_isPlanned 63 = some (a_iald tT 64) ∧
  tX12_isPlanned 64 = some (a_cmp (fun x y => y ≤ x) 112 67) ∧
  tX12_isPlanned 67 = some (a_aload 0 68) ∧
  tX12_isPlanned 68 = some (a_iload 1 69) ∧
  tX12_isPlanned 69 = some (a_iload 5 71) ∧
  tX12_isPlanned 71 = some (a_cvI tT mX12_has 12 2 74) ∧
  tX12_isPlanned 74 = some (a_if (fun x => x = nI 0) 80 77) ∧
  tX12_isPlanned 77 = some (a_goto 106) ∧
  tX12_isPlanned 80 = some (a_aload 0 81) ∧
  tX12_isPlanned 81 = some (a_get tT 12 27 84) ∧
  tX12_isPlanned 84 = some (a_iload 2 85) ∧
  tX12_isPlanned 85 = some (a_iload 5 87) ∧
  tX12_isPlanned 87 = some (a_iast tT 88) := ⟨rfl, rfl, rfl, rfl, rfl, rfl, rfl, rfl, rfl, rfl, rfl, rfl, rfl, rfl, rfl, rfl, rfl, rfl, rfl, rfl, rfl, rfl, rfl, rfl⟩
theorem lX12_isPlanned_2 : tX12_isPlanned 88 = some (a_aload 0 89) ∧
  tX12_isPlanned 89 = some (a_iload 1 90) ∧
  tX12_isPlanned 90 = some (a_iload 2 91) ∧
  tX12_isPlanned 91 = some (a_const (nI 1) 92) ∧
  tX12_isPlanned 92 = some (a_bin (fun x y => x + y) 93) ∧
  tX12_isPlanned 93 = some (a_iload 3 94) ∧
  tX12_isPlanned 94 = some (a_iload 5 96) ∧
  tX12_isPlanned 96 = some (a_const (nI 1) 97) ∧
  tX12_isPlanned 97 = some (a_bin (fun x y => x + y) 98) ∧
  tX12_isPlanned 98 = some (a_cvI tT mX12_isPlanned 12 4 101) ∧
  tX12_isPlanned 101 = some (a_if (fun x => x = nI 0) 106 104) ∧
  tX12_isPlanned 104 = some (a_const (nI 1) 105) ∧
  tX12_isPlanned 105 = some (a_zret) ∧
  tX12_isPlanned 106 = some (a_iinc 5 (nI 1) 109) ∧
  tX12_isPlanned 109 = some (a_goto 56) ∧
  tX12_isPlanned 112 = some (a_const (nI 0) 113) ∧
  tX12_isPlanned 113 = some (a_zret) := ⟨rfl, rfl, rfl, rfl, rfl, rfl, rfl, rfl, rfl, rfl, rfl, rfl, rfl, rfl, rfl, rfl, rfl⟩
theorem lX12_plan_0 : tX12_plan 0 = some (a_aload 0 1) ∧
  tX12_plan 1 = some (a_iload 1 2) ∧
  tX12_plan 2 = some (a_cvI tT mX12_isPerson 12 1 5) ∧
  tX12_plan 5 = some (a_if (fun x => x = nI 0) 31 8) ∧
  tX12_plan 8 = some (a_iload 2 9) ∧
  tX12_plan 9 = some (a_if (fun x => x = nI 0) 23 12) ∧
  tX12_plan 12 = some (a_iload 2 13) ∧
  tX12_plan 13 = some (a_const (nI 10) 15) ∧
  tX12_plan 15 = some (a_const (nI 12) 17) ∧
  tX12_plan 17 = some (a_csI mX12_isIn 3 20) ∧
  tX12_plan 20 = some (a_if (fun x => x = nI 0) 31 23) ∧
  tX12_plan 23 = some (a_aload 0 24) ∧
  tX12_plan 24 = some (a_iload 1 25) ∧
  tX12_plan 25 = some (a_cvI tT mX12_isRound 12 1 28) ∧
  tX12_plan 28 = some (a_if (fun x => x = nI 0) 31 33) ∧
  tX12_plan 31 = some (a_const (-1) 32) ∧
  tX12_plan 32 = some (a_iret) ∧
  tX12_plan 33 = some (a_const (nI 0) 34) ∧
  tX12_plan 34 = some (a_istore 3 35) ∧
  tX12_plan 35 = some (a_iload 3 36) ∧
  tX12_plan 36 = some (a_const (nI 4) 37) ∧
  tX12_plan 37 = some (a_cmp (fun x y => y ≤ x) 100 40) ∧
  tX12_plan 40 = some (a_aload 0 41) ∧
  tX12_plan 41 = some (a_iload 1 42) := ⟨rfl, rfl, rfl, rfl, rfl, rfl, rfl, rfl, rfl, rfl, rfl, rfl, rfl, rfl, rfl, rfl, rfl, rfl, rfl, rfl, rfl, rfl, rfl, rfl⟩
theorem lX12_plan_1 : tX12_plan 42 = some (a_const (nI 2) 43) ∧
  tX12_plan 43 = some (a_cvI tT mX12_own 12 2 46) ∧
  tX12_plan 46 = some (a_iload 3 47) ∧
  tX12_plan 47 = some (a_bin (fun x y => x + y) 48) ∧
  tX12_plan 48 = some (a_const (nI 9) 50) ∧
  tX12_plan 50 = some (a_cmp (fun x y => y < x) 100 53) ∧
  tX12_plan 53 = some (a_aload 0 54) ∧
  tX12_plan 54 = some (a_iload 1 55) ∧
  tX12_plan 55 = some (a_const (nI 0) 56) ∧
  tX12_plan 56 = some (a_iload 3 57) ∧
  tX12_plan 57 = some (a_const (nI 0) 58) ∧
  tX12_plan 58 = some (a_cvI tT mX12_isPlanned 12 4 61) ∧
  tX12_plan 61 = some (a_if (fun x => x = nI 0) 94 64) ∧
  tX12_plan 64 = some (a_iload 2 65) ∧
  tX12_plan 65 = some (a_if (fun x => x = nI 0) 68 72) ∧
  tX12_plan 68 = some (a_iload 3 69) ∧
  tX12_plan 69 = some (a_goto 93) ∧
  tX12_plan 72 = some (a_iload 2 73) ∧
  tX12_plan 73 = some (a_const (nI 10) 75) ∧
  tX12_plan 75 = some (a_bin (fun x y => x - y) 76) ∧
  tX12_plan 76 = some (a_iload 3 77) ∧
  tX12_plan 77 = some (a_cmp (fun x y => y ≤ x) 92 80) ∧
  tX12_plan 80 = some (a_aload 0 81) ∧
  tX12_plan 81 = some (a_get tT 12 27 84) := ⟨rfl, rfl, rfl, rfl, rfl, rfl, rfl, rfl, rfl, rfl, rfl, rfl, rfl, rfl, rfl, rfl, rfl, rfl, rfl, rfl, rfl, rfl, rfl, rfl⟩
theorem lX12_plan_2 : tX12_plan 84 = some (a_iload 2 85) ∧
  tX12_plan 85 = some (a_const (nI 10) 87) ∧
  tX12_plan 87 = some (a_bin (fun x y => x - y) 88) ∧
  tX12_plan 88 = some (a_iald tT 89) ∧
  tX12_plan 89 = some (a_goto 93) ∧
  tX12_plan 92 = some (a_const (-1) 93) ∧
  tX12_plan 93 = some (a_iret) ∧
  tX12_plan 94 = some (a_iinc 3 (nI 1) 97) ∧
  tX12_plan 97 = some (a_goto 35) ∧
  tX12_plan 100 = some (a_const (-1) 101) ∧
  tX12_plan 101 = some (a_iret) := ⟨rfl, rfl, rfl, rfl, rfl, rfl, rfl, rfl, rfl, rfl, rfl⟩
theorem lX12_night_0 : tX12_night 0 = some (a_aload 0 1) ∧
  tX12_night 1 = some (a_iload 1 2) ∧
  tX12_night 2 = some (a_cvI tT mX12_isPerson 12 1 5) ∧
  tX12_night 5 = some (a_if (fun x => x = nI 0) 21 8) ∧
  tX12_night 8 = some (a_aload 0 9) ∧
  tX12_night 9 = some (a_iload 2 10) ∧
  tX12_night 10 = some (a_cvI tT mX12_isPerson 12 1 13) ∧
  tX12_night 13 = some (a_if (fun x => x = nI 0) 21 16) ∧
  tX12_night 16 = some (a_iload 1 17) ∧
  tX12_night 17 = some (a_iload 2 18) ∧
  tX12_night 18 = some (a_cmp (fun x y => x = y) 21 23) ∧
  tX12_night 21 = some (a_const (-1) 22) ∧
  tX12_night 22 = some (a_iret) ∧
  tX12_night 23 = some (a_aload 0 24) ∧
  tX12_night 24 = some (a_iload 2 25) ∧
  tX12_night 25 = some (a_cvI tT mX12_had 12 1 28) ∧
  tX12_night 28 = some (a_aload 0 29) ∧
  tX12_night 29 = some (a_iload 1 30) ∧
  tX12_night 30 = some (a_cvI tT mX12_had 12 1 33) ∧
  tX12_night 33 = some (a_const (-1) 34) ∧
  tX12_night 34 = some (a_bin (fun x y => x ^^^ y) 35) ∧
  tX12_night 35 = some (a_bin (fun x y => x &&& y) 36) ∧
  tX12_night 36 = some (a_istore 3 37) ∧
  tX12_night 37 = some (a_const (nI 0) 38) := ⟨rfl, rfl, rfl, rfl, rfl, rfl, rfl, rfl, rfl, rfl, rfl, rfl, rfl, rfl, rfl, rfl, rfl, rfl, rfl, rfl, rfl, rfl, rfl, rfl⟩
theorem lX12_night_1 : tX12_night 38 = some (a_istore 4 40) ∧
  tX12_night 40 = some (a_iload 4 42) ∧
  tX12_night 42 = some (a_aload 0 43) ∧
  tX12_night 43 = some (a_get tT 12 0 46) ∧
  tX12_night 46 = some (a_const (nI 0) 47) ∧
  tX12_night 47 = some (a_iald tT 48) ∧
  tX12_night 48 = some (a_cmp (fun x y => y ≤ x) 132 51) ∧
  tX12_night 51 = some (a_iload 3 52) ∧
  tX12_night 52 = some (a_iload 4 54) ∧
  tX12_night 54 = some (a_bin (fun x y => x >>> (y &&& 31)) 55) ∧
  tX12_night 55 = some (a_const (nI 1) 56) ∧
  tX12_night 56 = some (a_bin (fun x y => x &&& y) 57) ∧
  tX12_night 57 = some (a_if (fun x => x = nI 0) 60 64) ∧
  tX12_night 60 = some (a_const (nI 1) 61) ∧
  tX12_night 61 = some (a_goto 65) ∧
  tX12_night 64 = some (a_const (nI 0) 65) ∧
  tX12_night 65 = some (a_istore 5 67) ∧
  tX12_night 67 = some (a_const (nI 0) 68) ∧
  tX12_night 68 = some (a_istore 6 70) ∧
  tX12_night 70 = some (a_iload 6 72) ∧
  tX12_night 72 = some (a_aload 0 73) ∧
  tX12_night 73 = some (a_get tT 12 0 76) ∧
  tX12_night 76 = some (a_const (nI 2) 77) ∧
  tX12_night 77 = some (a_iald tT 78) := ⟨rfl, rfl, rfl, rfl, rfl, rfl, rfl, rfl, rfl, rfl, rfl, rfl, rfl, rfl, rfl, rfl, rfl, rfl, rfl, rfl, rfl, rfl, rfl, rfl⟩
theorem lX12_night_2 : tX12_night 78 = some (a_cmp (fun x y => y ≤ x) 119 81) ∧
  tX12_night 81 = some (a_iload 5 83) ∧
  tX12_night 83 = some (a_if (fun x => x = nI 0) 86 106) ∧
  tX12_night 86 = some (a_aload 0 87) ∧
  tX12_night 87 = some (a_get tT 12 0 90) ∧
  tX12_night 90 = some (a_const (nI 220) 93) ∧
  tX12_night 93 = some (a_const (nI 20) 95) ∧
  tX12_night 95 = some (a_iload 6 97) ∧
  tX12_night 97 = some (a_bin (fun x y => x * y) 98) ∧
  tX12_night 98 = some (a_bin (fun x y => x + y) 99) ∧
  tX12_night 99 = some (a_iload 4 101) ∧
  tX12_night 101 = some (a_bin (fun x y => x + y) 102) ∧
  tX12_night 102 = some (a_iald tT 103) ∧
  tX12_night 103 = some (a_if (fun x => x ≤ nI 0) 110 106) ∧
  tX12_night 106 = some (a_const (nI 1) 107) ∧
  tX12_night 107 = some (a_goto 111) ∧
  tX12_night 110 = some (a_const (nI 0) 111) ∧
  tX12_night 111 = some (a_istore 5 113) ∧
  tX12_night 113 = some (a_iinc 6 (nI 1) 116) ∧
  tX12_night 116 = some (a_goto 70) ∧
  tX12_night 119 = some (a_iload 5 121) ∧
  tX12_night 121 = some (a_if (fun x => x = nI 0) 124 126) ∧
  tX12_night 124 = some (a_const (-1) 125) ∧
  tX12_night 125 = some (a_iret) := ⟨rfl, rfl, rfl, rfl, rfl, rfl, rfl, rfl, rfl, rfl, rfl, rfl, rfl, rfl, rfl, rfl, rfl, rfl, rfl, rfl, rfl, rfl, rfl, rfl⟩
theorem lX12_night_3 : tX12_night 126 = some (a_iinc 4 (nI 1) 129) ∧
  tX12_night 129 = some (a_goto 40) ∧
  tX12_night 132 = some (a_aload 0 133) ∧
  tX12_night 133 = some (a_iload 1 134) ∧
  tX12_night 134 = some (a_const (nI 2) 135) ∧
  tX12_night 135 = some (a_cvI tT mX12_own 12 2 138) ∧
  tX12_night 138 = some (a_iload 3 139) ∧
  tX12_night 139 = some (a_csI mX12_count 1 142) ∧
  tX12_night 142 = some (a_bin (fun x y => x + y) 143) ∧
  tX12_night 143 = some (a_const (nI 9) 145) ∧
  tX12_night 145 = some (a_cmp (fun x y => x ≤ y) 152 148) ∧
  tX12_night 148 = some (a_const (-1) 149) ∧
  tX12_night 149 = some (a_goto 156) ∧
  tX12_night 152 = some (a_iload 3 153) ∧
  tX12_night 153 = some (a_csI mX12_count 1 156) ∧
  tX12_night 156 = some (a_iret) := ⟨rfl, rfl, rfl, rfl, rfl, rfl, rfl, rfl, rfl, rfl, rfl, rfl, rfl, rfl, rfl, rfl⟩
theorem lX12_tries_0 : tX12_tries 0 = some (a_iload 2 1) ∧
  tX12_tries 1 = some (a_if (fun x => x = nI 0) 4 61) ∧
  tX12_tries 4 = some (a_aload 0 5) ∧
  tX12_tries 5 = some (a_iload 1 6) ∧
  tX12_tries 6 = some (a_cvI tT mX12_aloneOf 12 1 9) ∧
  tX12_tries 9 = some (a_csI mX12_count 1 12) ∧
  tX12_tries 12 = some (a_istore 5 14) ∧
  tX12_tries 14 = some (a_iload 5 16) ∧
  tX12_tries 16 = some (a_aload 0 17) ∧
  tX12_tries 17 = some (a_get tT 12 30 20) ∧
  tX12_tries 20 = some (a_cmp (fun x y => y < x) 24 23) ∧
  tX12_tries 23 = some (a_ret) ∧
  tX12_tries 24 = some (a_aload 0 25) ∧
  tX12_tries 25 = some (a_iload 5 27) ∧
  tX12_tries 27 = some (a_put tT 12 30 30) ∧
  tX12_tries 30 = some (a_const (nI 0) 31) ∧
  tX12_tries 31 = some (a_istore 6 33) ∧
  tX12_tries 33 = some (a_iload 6 35) ∧
  tX12_tries 35 = some (a_iload 4 37) ∧
  tX12_tries 37 = some (a_cmp (fun x y => y ≤ x) 60 40) ∧
  tX12_tries 40 = some (a_aload 0 41) ∧
  tX12_tries 41 = some (a_get tT 12 29 44) ∧
  tX12_tries 44 = some (a_iload 6 46) ∧
  tX12_tries 46 = some (a_aload 0 47) := ⟨rfl, rfl, rfl, rfl, rfl, rfl, rfl, rfl, rfl, rfl, rfl, rfl, rfl, rfl, rfl, rfl, rfl, rfl, rfl, rfl, rfl, rfl, rfl, rfl⟩
theorem lX12_tries_1 : tX12_tries 47 = some (a_get tT 12 28 50) ∧
  tX12_tries 50 = some (a_iload 6 52) ∧
  tX12_tries 52 = some (a_iald tT 53) ∧
  tX12_tries 53 = some (a_iast tT 54) ∧
  tX12_tries 54 = some (a_iinc 6 (nI 1) 57) ∧
  tX12_tries 57 = some (a_goto 33) ∧
  tX12_tries 60 = some (a_ret) ∧
  tX12_tries 61 = some (a_aload 0 62) ∧
  tX12_tries 62 = some (a_iload 4 64) ∧
  tX12_tries 64 = some (a_cvV tT mX12_laysAside 12 1 67) ∧
  tX12_tries 67 = some (a_const (nI 0) 68) ∧
  tX12_tries 68 = some (a_istore 5 70) ∧
  tX12_tries 70 = some (a_iload 5 72) ∧
  tX12_tries 72 = some (a_aload 0 73) ∧
  tX12_tries 73 = some (a_get tT 12 0 76) ∧
  tX12_tries 76 = some (a_const (nI 1) 77) ∧
  tX12_tries 77 = some (a_iald tT 78) ∧
  tX12_tries 78 = some (a_cmp (fun x y => y ≤ x) 144 81) ∧
  tX12_tries 81 = some (a_iload 2 82) ∧
  tX12_tries 82 = some (a_iload 5 84) ∧
  tX12_tries 84 = some (a_bin (fun x y => x >>> (y &&& 31)) 85) ∧
  tX12_tries 85 = some (a_const (nI 1) 86) ∧
  tX12_tries 86 = some (a_bin (fun x y => x &&& y) 87) ∧
  tX12_tries 87 = some (a_if (fun x => x = nI 0) 90 93) := ⟨rfl, rfl, rfl, rfl, rfl, rfl, rfl, rfl, rfl, rfl, rfl, rfl, rfl, rfl, rfl, rfl, rfl, rfl, rfl, rfl, rfl, rfl, rfl, rfl⟩
theorem lX12_tries_2 : tX12_tries 90 = some (a_goto 138) ∧
  tX12_tries 93 = some (a_aload 0 94) ∧
  tX12_tries 94 = some (a_get tT 12 28 97) ∧
  tX12_tries 97 = some (a_iload 4 99) ∧
  tX12_tries 99 = some (a_iload 5 101) ∧
  tX12_tries 101 = some (a_iast tT 102) ∧
  tX12_tries 102 = some (a_aload 0 103) ∧
  tX12_tries 103 = some (a_iload 5 105) ∧
  tX12_tries 105 = some (a_iload 3 106) ∧
  tX12_tries 106 = some (a_cvI tT mX12_crosses 12 2 109) ∧
  tX12_tries 109 = some (a_const (-2) 111) ∧
  tX12_tries 111 = some (a_cmp (fun x y => x = y) 132 114) ∧
  tX12_tries 114 = some (a_aload 0 115) ∧
  tX12_tries 115 = some (a_iload 1 116) ∧
  tX12_tries 116 = some (a_iload 2 117) ∧
  tX12_tries 117 = some (a_const (nI 1) 118) ∧
  tX12_tries 118 = some (a_iload 5 120) ∧
  tX12_tries 120 = some (a_bin (fun x y => x <<< (y &&& 31)) 121) ∧
  tX12_tries 121 = some (a_const (-1) 122) ∧
  tX12_tries 122 = some (a_bin (fun x y => x ^^^ y) 123) ∧
  tX12_tries 123 = some (a_bin (fun x y => x &&& y) 124) ∧
  tX12_tries 124 = some (a_iload 3 125) ∧
  tX12_tries 125 = some (a_iload 4 127) ∧
  tX12_tries 127 = some (a_const (nI 1) 128) := ⟨rfl, rfl, rfl, rfl, rfl, rfl, rfl, rfl, rfl, rfl, rfl, rfl, rfl, rfl, rfl, rfl, rfl, rfl, rfl, rfl, rfl, rfl, rfl, rfl⟩
theorem lX12_tries_3 : tX12_tries 128 = some (a_bin (fun x y => x + y) 129) ∧
  tX12_tries 129 = some (a_cvV tT mX12_tries 12 4 132) ∧
  tX12_tries 132 = some (a_aload 0 133) ∧
  tX12_tries 133 = some (a_iload 4 135) ∧
  tX12_tries 135 = some (a_cvV tT mX12_putsBack 12 1 138) ∧
  tX12_tries 138 = some (a_iinc 5 (nI 1) 141) ∧
  tX12_tries 141 = some (a_goto 70) ∧
  tX12_tries 144 = some (a_ret) := ⟨rfl, rfl, rfl, rfl, rfl, rfl, rfl, rfl⟩
theorem lX12_order_0 : tX12_order 0 = some (a_aload 0 1) ∧
  tX12_order 1 = some (a_iload 2 2) ∧
  tX12_order 2 = some (a_cvI tT mX12_isBridge 12 1 5) ∧
  tX12_order 5 = some (a_if (fun x => x = nI 0) 55 8) ∧
  tX12_order 8 = some (a_iload 1 9) ∧
  tX12_order 9 = some (a_const (nI 1) 10) ∧
  tX12_order 10 = some (a_const (nI 1) 11) ∧
  tX12_order 11 = some (a_aload 0 12) ∧
  tX12_order 12 = some (a_get tT 12 0 15) ∧
  tX12_order 15 = some (a_const (nI 1) 16) ∧
  tX12_order 16 = some (a_iald tT 17) ∧
  tX12_order 17 = some (a_bin (fun x y => x <<< (y &&& 31)) 18) ∧
  tX12_order 18 = some (a_const (nI 1) 19) ∧
  tX12_order 19 = some (a_bin (fun x y => x - y) 20) ∧
  tX12_order 20 = some (a_csI mX12_isIn 3 23) ∧
  tX12_order 23 = some (a_if (fun x => x = nI 0) 55 26) ∧
  tX12_order 26 = some (a_iload 1 27) ∧
  tX12_order 27 = some (a_csI mX12_count 1 30) ∧
  tX12_order 30 = some (a_const (nI 6) 32) ∧
  tX12_order 32 = some (a_cmp (fun x y => y < x) 55 35) ∧
  tX12_order 35 = some (a_iload 3 36) ∧
  tX12_order 36 = some (a_if (fun x => x = nI 0) 57 39) ∧
  tX12_order 39 = some (a_iload 3 40) ∧
  tX12_order 40 = some (a_const (nI 10) 42) := ⟨rfl, rfl, rfl, rfl, rfl, rfl, rfl, rfl, rfl, rfl, rfl, rfl, rfl, rfl, rfl, rfl, rfl, rfl, rfl, rfl, rfl, rfl, rfl, rfl⟩
theorem lX12_order_1 : tX12_order 42 = some (a_const (nI 9) 44) ∧
  tX12_order 44 = some (a_iload 1 45) ∧
  tX12_order 45 = some (a_csI mX12_count 1 48) ∧
  tX12_order 48 = some (a_bin (fun x y => x + y) 49) ∧
  tX12_order 49 = some (a_csI mX12_isIn 3 52) ∧
  tX12_order 52 = some (a_if (fun x => x = nI 0) 55 57) ∧
  tX12_order 55 = some (a_const (-1) 56) ∧
  tX12_order 56 = some (a_iret) ∧
  tX12_order 57 = some (a_const (-1) 58) ∧
  tX12_order 58 = some (a_istore 4 60) ∧
  tX12_order 60 = some (a_aload 0 61) ∧
  tX12_order 61 = some (a_get tT 12 0 64) ∧
  tX12_order 64 = some (a_const (nI 1) 65) ∧
  tX12_order 65 = some (a_iald tT 66) ∧
  tX12_order 66 = some (a_const (nI 1) 67) ∧
  tX12_order 67 = some (a_bin (fun x y => x - y) 68) ∧
  tX12_order 68 = some (a_istore 5 70) ∧
  tX12_order 70 = some (a_iload 5 72) ∧
  tX12_order 72 = some (a_if (fun x => x < nI 0) 105 75) ∧
  tX12_order 75 = some (a_iload 1 76) ∧
  tX12_order 76 = some (a_iload 5 78) ∧
  tX12_order 78 = some (a_bin (fun x y => x >>> (y &&& 31)) 79) ∧
  tX12_order 79 = some (a_const (nI 1) 80) ∧
  tX12_order 80 = some (a_bin (fun x y => x &&& y) 81) := ⟨rfl, rfl, rfl, rfl, rfl, rfl, rfl, rfl, rfl, rfl, rfl, rfl, rfl, rfl, rfl, rfl, rfl, rfl, rfl, rfl, rfl, rfl, rfl, rfl⟩
theorem lX12_order_2 : tX12_order 81 = some (a_const (nI 1) 82) ∧
  tX12_order 82 = some (a_cmp (fun x y => x = y) 85 95) ∧
  tX12_order 85 = some (a_aload 0 86) ∧
  tX12_order 86 = some (a_iload 5 88) ∧
  tX12_order 88 = some (a_const (nI 0) 89) ∧
  tX12_order 89 = some (a_cvI tT mX12_own 12 2 92) ∧
  tX12_order 92 = some (a_goto 97) ∧
  tX12_order 95 = some (a_iload 4 97) ∧
  tX12_order 97 = some (a_istore 4 99) ∧
  tX12_order 99 = some (a_iinc 5 (-1) 102) ∧
  tX12_order 102 = some (a_goto 70) ∧
  tX12_order 105 = some (a_const (nI 0) 106) ∧
  tX12_order 106 = some (a_istore 5 108) ∧
  tX12_order 108 = some (a_iload 5 110) ∧
  tX12_order 110 = some (a_aload 0 111) ∧
  tX12_order 111 = some (a_get tT 12 0 114) ∧
  tX12_order 114 = some (a_const (nI 1) 115) ∧
  tX12_order 115 = some (a_iald tT 116) ∧
  tX12_order 116 = some (a_cmp (fun x y => y ≤ x) 149 119) ∧
  tX12_order 119 = some (a_iload 1 120) ∧
  tX12_order 120 = some (a_iload 5 122) ∧
  tX12_order 122 = some (a_bin (fun x y => x >>> (y &&& 31)) 123) ∧
  tX12_order 123 = some (a_const (nI 1) 124) ∧
  tX12_order 124 = some (a_bin (fun x y => x &&& y) 125) := ⟨rfl, rfl, rfl, rfl, rfl, rfl, rfl, rfl, rfl, rfl, rfl, rfl, rfl, rfl, rfl, rfl, rfl, rfl, rfl, rfl, rfl, rfl, rfl, rfl⟩
theorem lX12_order_3 : tX12_order 125 = some (a_const (nI 1) 126) ∧
  tX12_order 126 = some (a_cmp (fun x y => x = y) 129 143) ∧
  tX12_order 129 = some (a_aload 0 130) ∧
  tX12_order 130 = some (a_iload 5 132) ∧
  tX12_order 132 = some (a_const (nI 0) 133) ∧
  tX12_order 133 = some (a_cvI tT mX12_own 12 2 136) ∧
  tX12_order 136 = some (a_iload 4 138) ∧
  tX12_order 138 = some (a_cmp (fun x y => x = y) 143 141) ∧
  tX12_order 141 = some (a_const (-1) 142) ∧
  tX12_order 142 = some (a_iret) ∧
  tX12_order 143 = some (a_iinc 5 (nI 1) 146) ∧
  tX12_order 146 = some (a_goto 108) ∧
  tX12_order 149 = some (a_aload 0 150) ∧
  tX12_order 150 = some (a_iload 2 151) ∧
  tX12_order 151 = some (a_iload 4 153) ∧
  tX12_order 153 = some (a_cvI tT mX12_otherEnd 12 2 156) ∧
  tX12_order 156 = some (a_const (-1) 157) ∧
  tX12_order 157 = some (a_cmp (fun x y => x = y) 160 162) ∧
  tX12_order 160 = some (a_const (-1) 161) ∧
  tX12_order 161 = some (a_iret) ∧
  tX12_order 162 = some (a_aload 0 163) ∧
  tX12_order 163 = some (a_const (-1) 164) ∧
  tX12_order 164 = some (a_put tT 12 30 167) ∧
  tX12_order 167 = some (a_aload 0 168) := ⟨rfl, rfl, rfl, rfl, rfl, rfl, rfl, rfl, rfl, rfl, rfl, rfl, rfl, rfl, rfl, rfl, rfl, rfl, rfl, rfl, rfl, rfl, rfl, rfl⟩
theorem lX12_order_4 : tX12_order 168 = some (a_iload 1 169) ∧
  tX12_order 169 = some (a_iload 1 170) ∧
  tX12_order 170 = some (a_iload 2 171) ∧
  tX12_order 171 = some (a_const (nI 0) 172) ∧
  tX12_order 172 = some (a_cvV tT mX12_tries 12 4 175) ∧
  tX12_order 175 = some (a_aload 0 176) ∧
  tX12_order 176 = some (a_get tT 12 30 179) ∧
  tX12_order 179 = some (a_const (-1) 180) ∧
  tX12_order 180 = some (a_cmp (fun x y => x = y) 187 183) ∧
  tX12_order 183 = some (a_iload 3 184) ∧
  tX12_order 184 = some (a_if (fun x => x = nI 0) 187 194) ∧
  tX12_order 187 = some (a_aload 0 188) ∧
  tX12_order 188 = some (a_get tT 12 30 191) ∧
  tX12_order 191 = some (a_goto 203) ∧
  tX12_order 194 = some (a_aload 0 195) ∧
  tX12_order 195 = some (a_get tT 12 29 198) ∧
  tX12_order 198 = some (a_iload 3 199) ∧
  tX12_order 199 = some (a_const (nI 10) 201) ∧
  tX12_order 201 = some (a_bin (fun x y => x - y) 202) ∧
  tX12_order 202 = some (a_iald tT 203) ∧
  tX12_order 203 = some (a_iret) := ⟨rfl, rfl, rfl, rfl, rfl, rfl, rfl, rfl, rfl, rfl, rfl, rfl, rfl, rfl, rfl, rfl, rfl, rfl, rfl, rfl, rfl⟩
theorem lX12_image_0 : tX12_image 0 = some (a_iload 1 1) ∧
  tX12_image 1 = some (a_if (fun x => x = nI 0) 4 13) ∧
  tX12_image 4 = some (a_aload 0 5) ∧
  tX12_image 5 = some (a_get tT 12 5 8) ∧
  tX12_image 8 = some (a_if (fun x => x = nI 0) 11 13) ∧
  tX12_image 11 = some (a_const (nI 0) 12) ∧
  tX12_image 12 = some (a_zret) ∧
  tX12_image 13 = some (a_const (nI 0) 14) ∧
  tX12_image 14 = some (a_istore 2 15) ∧
  tX12_image 15 = some (a_iload 2 16) ∧
  tX12_image 16 = some (a_const (nI 1750) 19) ∧
  tX12_image 19 = some (a_cmp (fun x y => y ≤ x) 59 22) ∧
  tX12_image 22 = some (a_iload 1 23) ∧
  tX12_image 23 = some (a_if (fun x => x = nI 0) 41 26) ∧
  tX12_image 26 = some (a_aload 0 27) ∧
  tX12_image 27 = some (a_get tT 12 1 30) ∧
  tX12_image 30 = some (a_iload 2 31) ∧
  tX12_image 31 = some (a_aload 0 32) ∧
  tX12_image 32 = some (a_get tT 12 0 35) ∧
  tX12_image 35 = some (a_iload 2 36) ∧
  tX12_image 36 = some (a_iald tT 37) ∧
  tX12_image 37 = some (a_iast tT 38) ∧
  tX12_image 38 = some (a_goto 53) ∧
  tX12_image 41 = some (a_aload 0 42) := ⟨rfl, rfl, rfl, rfl, rfl, rfl, rfl, rfl, rfl, rfl, rfl, rfl, rfl, rfl, rfl, rfl, rfl, rfl, rfl, rfl, rfl, rfl, rfl, rfl⟩
theorem lX12_image_1 : tX12_image 42 = some (a_get tT 12 0 45) ∧
  tX12_image 45 = some (a_iload 2 46) ∧
  tX12_image 46 = some (a_aload 0 47) ∧
  tX12_image 47 = some (a_get tT 12 1 50) ∧
  tX12_image 50 = some (a_iload 2 51) ∧
  tX12_image 51 = some (a_iald tT 52) ∧
  tX12_image 52 = some (a_iast tT 53) ∧
  tX12_image 53 = some (a_iinc 2 (nI 1) 56) ∧
  tX12_image 56 = some (a_goto 15) ∧
  tX12_image 59 = some (a_iload 1 60) ∧
  tX12_image 60 = some (a_if (fun x => x = nI 0) 63 67) ∧
  tX12_image 63 = some (a_aload 0 64) ∧
  tX12_image 64 = some (a_cvV tT mX12_forgets 12 0 67) ∧
  tX12_image 67 = some (a_aload 0 68) ∧
  tX12_image 68 = some (a_const (nI 1) 69) ∧
  tX12_image 69 = some (a_putz tT 12 5 72) ∧
  tX12_image 72 = some (a_const (nI 1) 73) ∧
  tX12_image 73 = some (a_zret) := ⟨rfl, rfl, rfl, rfl, rfl, rfl, rfl, rfl, rfl, rfl, rfl, rfl, rfl, rfl, rfl, rfl, rfl, rfl⟩
theorem lX12_look_0 : tX12_look 0 = some (a_iload 1 1) ∧
  tX12_look 1 = some (a_const (nI 0) 2) ∧
  tX12_look 2 = some (a_const (nI 7) 4) ∧
  tX12_look 4 = some (a_csI mX12_isIn 3 7) ∧
  tX12_look 7 = some (a_if (fun x => x = nI 0) 17 10) ∧
  tX12_look 10 = some (a_aload 0 11) ∧
  tX12_look 11 = some (a_get tT 12 0 14) ∧
  tX12_look 14 = some (a_iload 1 15) ∧
  tX12_look 15 = some (a_iald tT 16) ∧
  tX12_look 16 = some (a_iret) ∧
  tX12_look 17 = some (a_iload 1 18) ∧
  tX12_look 18 = some (a_const (nI 8) 20) ∧
  tX12_look 20 = some (a_cmp (fun x y => x = y) 23 32) ∧
  tX12_look 23 = some (a_aload 0 24) ∧
  tX12_look 24 = some (a_get tT 12 0 27) ∧
  tX12_look 27 = some (a_const (nI 865) 30) ∧
  tX12_look 30 = some (a_iald tT 31) ∧
  tX12_look 31 = some (a_iret) ∧
  tX12_look 32 = some (a_iload 1 33) ∧
  tX12_look 33 = some (a_const (nI 9) 35) ∧
  tX12_look 35 = some (a_cmp (fun x y => x = y) 38 46) ∧
  tX12_look 38 = some (a_aload 0 39) ∧
  tX12_look 39 = some (a_get tT 12 0 42) ∧
  tX12_look 42 = some (a_const (nI 8) 44) := ⟨rfl, rfl, rfl, rfl, rfl, rfl, rfl, rfl, rfl, rfl, rfl, rfl, rfl, rfl, rfl, rfl, rfl, rfl, rfl, rfl, rfl, rfl, rfl, rfl⟩
theorem lX12_look_1 : tX12_look 44 = some (a_iald tT 45) ∧
  tX12_look 45 = some (a_iret) ∧
  tX12_look 46 = some (a_iload 1 47) ∧
  tX12_look 47 = some (a_const (nI 10) 49) ∧
  tX12_look 49 = some (a_cmp (fun x y => x = y) 52 57) ∧
  tX12_look 52 = some (a_aload 0 53) ∧
  tX12_look 53 = some (a_get tT 12 4 56) ∧
  tX12_look 56 = some (a_iret) ∧
  tX12_look 57 = some (a_iload 1 58) ∧
  tX12_look 58 = some (a_const (nI 20) 60) ∧
  tX12_look 60 = some (a_const (nI 19) 62) ∧
  tX12_look 62 = some (a_aload 0 63) ∧
  tX12_look 63 = some (a_get tT 12 0 66) ∧
  tX12_look 66 = some (a_const (nI 0) 67) ∧
  tX12_look 67 = some (a_iald tT 68) ∧
  tX12_look 68 = some (a_bin (fun x y => x + y) 69) ∧
  tX12_look 69 = some (a_csI mX12_isIn 3 72) ∧
  tX12_look 72 = some (a_if (fun x => x = nI 0) 88 75) ∧
  tX12_look 75 = some (a_aload 0 76) ∧
  tX12_look 76 = some (a_get tT 12 0 79) ∧
  tX12_look 79 = some (a_const (nI 10) 81) ∧
  tX12_look 81 = some (a_iload 1 82) ∧
  tX12_look 82 = some (a_bin (fun x y => x + y) 83) ∧
  tX12_look 83 = some (a_const (nI 20) 85) := ⟨rfl, rfl, rfl, rfl, rfl, rfl, rfl, rfl, rfl, rfl, rfl, rfl, rfl, rfl, rfl, rfl, rfl, rfl, rfl, rfl, rfl, rfl, rfl, rfl⟩
theorem lX12_look_2 : tX12_look 85 = some (a_bin (fun x y => x - y) 86) ∧
  tX12_look 86 = some (a_iald tT 87) ∧
  tX12_look 87 = some (a_iret) ∧
  tX12_look 88 = some (a_iload 1 89) ∧
  tX12_look 89 = some (a_const (nI 40) 91) ∧
  tX12_look 91 = some (a_const (nI 39) 93) ∧
  tX12_look 93 = some (a_aload 0 94) ∧
  tX12_look 94 = some (a_get tT 12 0 97) ∧
  tX12_look 97 = some (a_const (nI 0) 98) ∧
  tX12_look 98 = some (a_iald tT 99) ∧
  tX12_look 99 = some (a_bin (fun x y => x + y) 100) ∧
  tX12_look 100 = some (a_csI mX12_isIn 3 103) ∧
  tX12_look 103 = some (a_if (fun x => x = nI 0) 119 106) ∧
  tX12_look 106 = some (a_aload 0 107) ∧
  tX12_look 107 = some (a_get tT 12 0 110) ∧
  tX12_look 110 = some (a_const (nI 30) 112) ∧
  tX12_look 112 = some (a_iload 1 113) ∧
  tX12_look 113 = some (a_bin (fun x y => x + y) 114) ∧
  tX12_look 114 = some (a_const (nI 40) 116) ∧
  tX12_look 116 = some (a_bin (fun x y => x - y) 117) ∧
  tX12_look 117 = some (a_iald tT 118) ∧
  tX12_look 118 = some (a_iret) ∧
  tX12_look 119 = some (a_iload 1 120) ∧
  tX12_look 120 = some (a_const (nI 60) 122) := ⟨rfl, rfl, rfl, rfl, rfl, rfl, rfl, rfl, rfl, rfl, rfl, rfl, rfl, rfl, rfl, rfl, rfl, rfl, rfl, rfl, rfl, rfl, rfl, rfl⟩
theorem lX12_look_3 : tX12_look 122 = some (a_const (nI 59) 124) ∧
  tX12_look 124 = some (a_const (nI 2) 125) ∧
  tX12_look 125 = some (a_aload 0 126) ∧
  tX12_look 126 = some (a_get tT 12 0 129) ∧
  tX12_look 129 = some (a_const (nI 2) 130) ∧
  tX12_look 130 = some (a_iald tT 131) ∧
  tX12_look 131 = some (a_bin (fun x y => x * y) 132) ∧
  tX12_look 132 = some (a_bin (fun x y => x + y) 133) ∧
  tX12_look 133 = some (a_csI mX12_isIn 3 136) ∧
  tX12_look 136 = some (a_if (fun x => x = nI 0) 154 139) ∧
  tX12_look 139 = some (a_aload 0 140) ∧
  tX12_look 140 = some (a_get tT 12 0 143) ∧
  tX12_look 143 = some (a_const (nI 50) 145) ∧
  tX12_look 145 = some (a_iload 1 146) ∧
  tX12_look 146 = some (a_bin (fun x y => x + y) 147) ∧
  tX12_look 147 = some (a_const (nI 60) 149) ∧
  tX12_look 149 = some (a_bin (fun x y => x - y) 150) ∧
  tX12_look 150 = some (a_iald tT 151) ∧
  tX12_look 151 = some (a_goto 155) ∧
  tX12_look 154 = some (a_const (-1) 155) ∧
  tX12_look 155 = some (a_iret) := ⟨rfl, rfl, rfl, rfl, rfl, rfl, rfl, rfl, rfl, rfl, rfl, rfl, rfl, rfl, rfl, rfl, rfl, rfl, rfl, rfl, rfl⟩
theorem lJ6_bitCount_0f7a4_0 : tJ6_bitCount_0f7a4 0 = some (a_iload 0 1) ∧
  tJ6_bitCount_0f7a4 1 = some (a_iload 0 2) ∧
  tJ6_bitCount_0f7a4 2 = some (a_const (nI 1) 3) ∧
  tJ6_bitCount_0f7a4 3 = some (a_bin am_ushr 4) ∧
  tJ6_bitCount_0f7a4 4 = some (a_const (nI 1431655765) 7) ∧
  tJ6_bitCount_0f7a4 7 = some (a_bin (fun x y => x &&& y) 8) ∧
  tJ6_bitCount_0f7a4 8 = some (a_bin (fun x y => x - y) 9) ∧
  tJ6_bitCount_0f7a4 9 = some (a_istore 0 10) ∧
  tJ6_bitCount_0f7a4 10 = some (a_iload 0 11) ∧
  tJ6_bitCount_0f7a4 11 = some (a_const (nI 858993459) 14) ∧
  tJ6_bitCount_0f7a4 14 = some (a_bin (fun x y => x &&& y) 15) ∧
  tJ6_bitCount_0f7a4 15 = some (a_iload 0 16) ∧
  tJ6_bitCount_0f7a4 16 = some (a_const (nI 2) 17) ∧
  tJ6_bitCount_0f7a4 17 = some (a_bin am_ushr 18) ∧
  tJ6_bitCount_0f7a4 18 = some (a_const (nI 858993459) 21) ∧
  tJ6_bitCount_0f7a4 21 = some (a_bin (fun x y => x &&& y) 22) ∧
  tJ6_bitCount_0f7a4 22 = some (a_bin (fun x y => x + y) 23) ∧
  tJ6_bitCount_0f7a4 23 = some (a_istore 0 24) ∧
  tJ6_bitCount_0f7a4 24 = some (a_iload 0 25) ∧
  tJ6_bitCount_0f7a4 25 = some (a_iload 0 26) ∧
  tJ6_bitCount_0f7a4 26 = some (a_const (nI 4) 27) ∧
  tJ6_bitCount_0f7a4 27 = some (a_bin am_ushr 28) ∧
  tJ6_bitCount_0f7a4 28 = some (a_bin (fun x y => x + y) 29) ∧
  tJ6_bitCount_0f7a4 29 = some (a_const (nI 252645135) 32) := ⟨rfl, rfl, rfl, rfl, rfl, rfl, rfl, rfl, rfl, rfl, rfl, rfl, rfl, rfl, rfl, rfl, rfl, rfl, rfl, rfl, rfl, rfl, rfl, rfl⟩
theorem lJ6_bitCount_0f7a4_1 : tJ6_bitCount_0f7a4 32 = some (a_bin (fun x y => x &&& y) 33) ∧
  tJ6_bitCount_0f7a4 33 = some (a_istore 0 34) ∧
  tJ6_bitCount_0f7a4 34 = some (a_iload 0 35) ∧
  tJ6_bitCount_0f7a4 35 = some (a_iload 0 36) ∧
  tJ6_bitCount_0f7a4 36 = some (a_const (nI 8) 38) ∧
  tJ6_bitCount_0f7a4 38 = some (a_bin am_ushr 39) ∧
  tJ6_bitCount_0f7a4 39 = some (a_bin (fun x y => x + y) 40) ∧
  tJ6_bitCount_0f7a4 40 = some (a_istore 0 41) ∧
  tJ6_bitCount_0f7a4 41 = some (a_iload 0 42) ∧
  tJ6_bitCount_0f7a4 42 = some (a_iload 0 43) ∧
  tJ6_bitCount_0f7a4 43 = some (a_const (nI 16) 45) ∧
  tJ6_bitCount_0f7a4 45 = some (a_bin am_ushr 46) ∧
  tJ6_bitCount_0f7a4 46 = some (a_bin (fun x y => x + y) 47) ∧
  tJ6_bitCount_0f7a4 47 = some (a_istore 0 48) ∧
  tJ6_bitCount_0f7a4 48 = some (a_iload 0 49) ∧
  tJ6_bitCount_0f7a4 49 = some (a_const (nI 63) 51) ∧
  tJ6_bitCount_0f7a4 51 = some (a_bin (fun x y => x &&& y) 52) ∧
  tJ6_bitCount_0f7a4 52 = some (a_iret) := ⟨rfl, rfl, rfl, rfl, rfl, rfl, rfl, rfl, rfl, rfl, rfl, rfl, rfl, rfl, rfl, rfl, rfl, rfl⟩
theorem lJ9_max_7cf53_0 : tJ9_max_7cf53 0 = some (a_iload 0 1) ∧
  tJ9_max_7cf53 1 = some (a_iload 1 2) ∧
  tJ9_max_7cf53 2 = some (a_cmp (fun x y => x < y) 9 5) ∧
  tJ9_max_7cf53 5 = some (a_iload 0 6) ∧
  tJ9_max_7cf53 6 = some (a_goto 10) ∧
  tJ9_max_7cf53 9 = some (a_iload 1 10) ∧
  tJ9_max_7cf53 10 = some (a_iret) := ⟨rfl, rfl, rfl, rfl, rfl, rfl, rfl⟩
theorem lJ9_min_7cf53_0 : tJ9_min_7cf53 0 = some (a_iload 0 1) ∧
  tJ9_min_7cf53 1 = some (a_iload 1 2) ∧
  tJ9_min_7cf53 2 = some (a_cmp (fun x y => y < x) 9 5) ∧
  tJ9_min_7cf53 5 = some (a_iload 0 6) ∧
  tJ9_min_7cf53 6 = some (a_goto 10) ∧
  tJ9_min_7cf53 9 = some (a_iload 1 10) ∧
  tJ9_min_7cf53 10 = some (a_iret) := ⟨rfl, rfl, rfl, rfl, rfl, rfl, rfl⟩
theorem lJ0_length_8abf5_0 : tJ0_length_8abf5 0 = some (a_aload 0 1) ∧
  tJ0_length_8abf5 1 = some (a_gsv tT 4) ∧
  tJ0_length_8abf5 4 = some (a_alen tT 5) ∧
  tJ0_length_8abf5 5 = some (a_aload 0 6) ∧
  tJ0_length_8abf5 6 = some (a_cvS tT mJ0_coder_7d493 0 9) ∧
  tJ0_length_8abf5 9 = some (a_bin (fun x y => x >>> (y &&& 31)) 10) ∧
  tJ0_length_8abf5 10 = some (a_iret) := ⟨rfl, rfl, rfl, rfl, rfl, rfl, rfl⟩
theorem lJ0_charAt_5068e_0 : tJ0_charAt_5068e 0 = some (a_aload 0 1) ∧
  tJ0_charAt_5068e 1 = some (a_cvS tT mJ0_isLatin1_aae02 0 4) ∧
  tJ0_charAt_5068e 4 = some (a_if (fun x => x = nI 0) 16 7) ∧
  tJ0_charAt_5068e 7 = some (a_aload 0 8) ∧
  tJ0_charAt_5068e 8 = some (a_gsv tT 11) ∧
  tJ0_charAt_5068e 11 = some (a_iload 1 12) ∧
  tJ0_charAt_5068e 12 = some (a_csI mJ1_charAt_3b067 2 15) ∧
  tJ0_charAt_5068e 15 = some (a_nret .char) ∧
  tJ0_charAt_5068e 16 = some (a_aload 0 17) ∧
  tJ0_charAt_5068e 17 = some (a_gsv tT 20) ∧
  tJ0_charAt_5068e 20 = some (a_iload 1 21) ∧
  tJ0_charAt_5068e 21 = some (a_csI mJ2_charAt_3b067 2 24) ∧
  tJ0_charAt_5068e 24 = some (a_nret .char) := ⟨rfl, rfl, rfl, rfl, rfl, rfl, rfl, rfl, rfl, rfl, rfl, rfl, rfl⟩
theorem lJ0_indexOf_0f7a4_0 : tJ0_indexOf_0f7a4 0 = some (a_aload 0 1) ∧
  tJ0_indexOf_0f7a4 1 = some (a_iload 1 2) ∧
  tJ0_indexOf_0f7a4 2 = some (a_const (nI 0) 3) ∧
  tJ0_indexOf_0f7a4 3 = some (a_cvS tT mJ0_indexOf_7cf53 2 6) ∧
  tJ0_indexOf_0f7a4 6 = some (a_iret) := ⟨rfl, rfl, rfl, rfl, rfl⟩
theorem lJ0_indexOf_7cf53_0 : tJ0_indexOf_7cf53 0 = some (a_aload 0 1) ∧
  tJ0_indexOf_7cf53 1 = some (a_cvS tT mJ0_isLatin1_aae02 0 4) ∧
  tJ0_indexOf_7cf53 4 = some (a_if (fun x => x = nI 0) 23 7) ∧
  tJ0_indexOf_7cf53 7 = some (a_aload 0 8) ∧
  tJ0_indexOf_7cf53 8 = some (a_gsv tT 11) ∧
  tJ0_indexOf_7cf53 11 = some (a_iload 1 12) ∧
  tJ0_indexOf_7cf53 12 = some (a_iload 2 13) ∧
  tJ0_indexOf_7cf53 13 = some (a_aload 0 14) ∧
  tJ0_indexOf_7cf53 14 = some (a_cvS tT mJ0_length_8abf5 0 17) ∧
  tJ0_indexOf_7cf53 17 = some (a_csI mJ1_indexOf_4cfef 4 20) ∧
  tJ0_indexOf_7cf53 20 = some (a_goto 36) ∧
  tJ0_indexOf_7cf53 23 = some (a_aload 0 24) ∧
  tJ0_indexOf_7cf53 24 = some (a_gsv tT 27) ∧
  tJ0_indexOf_7cf53 27 = some (a_iload 1 28) ∧
  tJ0_indexOf_7cf53 28 = some (a_iload 2 29) ∧
  tJ0_indexOf_7cf53 29 = some (a_aload 0 30) ∧
  tJ0_indexOf_7cf53 30 = some (a_cvS tT mJ0_length_8abf5 0 33) ∧
  tJ0_indexOf_7cf53 33 = some (a_csI mJ2_indexOf_4cfef 4 36) ∧
  tJ0_indexOf_7cf53 36 = some (a_iret) := ⟨rfl, rfl, rfl, rfl, rfl, rfl, rfl, rfl, rfl, rfl, rfl, rfl, rfl, rfl, rfl, rfl, rfl, rfl, rfl⟩
theorem lJ0_coder_7d493_0 : tJ0_coder_7d493 0 = some (a_gst 3) ∧
  tJ0_coder_7d493 3 = some (a_if (fun x => x = nI 0) 13 6) ∧
  tJ0_coder_7d493 6 = some (a_aload 0 7) ∧
  tJ0_coder_7d493 7 = some (a_gsc tT 10) ∧
  tJ0_coder_7d493 10 = some (a_goto 14) ∧
  tJ0_coder_7d493 13 = some (a_const (nI 1) 14) ∧
  tJ0_coder_7d493 14 = some (a_nret .byte) := ⟨rfl, rfl, rfl, rfl, rfl, rfl, rfl⟩
theorem lJ0_isLatin1_aae02_0 : tJ0_isLatin1_aae02 0 = some (a_gst 3) ∧
  tJ0_isLatin1_aae02 3 = some (a_if (fun x => x = nI 0) 17 6) ∧
  tJ0_isLatin1_aae02 6 = some (a_aload 0 7) ∧
  tJ0_isLatin1_aae02 7 = some (a_gsc tT 10) ∧
  tJ0_isLatin1_aae02 10 = some (a_if (fun x => x = nI 0) 13 17) ∧
  tJ0_isLatin1_aae02 13 = some (a_const (nI 1) 14) ∧
  tJ0_isLatin1_aae02 14 = some (a_goto 18) ∧
  tJ0_isLatin1_aae02 17 = some (a_const (nI 0) 18) ∧
  tJ0_isLatin1_aae02 18 = some (a_zret) := ⟨rfl, rfl, rfl, rfl, rfl, rfl, rfl, rfl, rfl⟩
theorem lJ0_checkIndex_df160_0 : tJ0_checkIndex_df160 0 = some (a_iload 0 1) ∧
  tJ0_checkIndex_df160 1 = some (a_iload 1 2) ∧
  tJ0_checkIndex_df160 5 = some (a_csI mJ3_checkIndex_8e157 3 8) ∧
  tJ0_checkIndex_df160 8 = some (a_pop 9) ∧
  tJ0_checkIndex_df160 9 = some (a_ret) := ⟨rfl, rfl, rfl, rfl, rfl⟩
theorem lJ0_checkBoundsBeginEnd_23922_0 : tJ0_checkBoundsBeginEnd_23922 0 = some (a_iload 0 1) ∧
  tJ0_checkBoundsBeginEnd_23922 1 = some (a_iload 1 2) ∧
  tJ0_checkBoundsBeginEnd_23922 2 = some (a_iload 2 3) ∧
  tJ0_checkBoundsBeginEnd_23922 6 = some (a_csI mJ3_checkFromToIndex_8c36e 4 9) ∧
  tJ0_checkBoundsBeginEnd_23922 9 = some (a_pop 10) ∧
  tJ0_checkBoundsBeginEnd_23922 10 = some (a_ret) := ⟨rfl, rfl, rfl, rfl, rfl, rfl⟩
theorem lJ1_charAt_3b067_0 : tJ1_charAt_3b067 0 = some (a_iload 1 1) ∧
  tJ1_charAt_3b067 1 = some (a_aload 0 2) ∧
  tJ1_charAt_3b067 2 = some (a_blen tT 3) ∧
  tJ1_charAt_3b067 3 = some (a_csV mJ0_checkIndex_df160 2 6) ∧
  tJ1_charAt_3b067 6 = some (a_aload 0 7) ∧
  tJ1_charAt_3b067 7 = some (a_iload 1 8) ∧
  tJ1_charAt_3b067 8 = some (a_bald tT 9) ∧
  tJ1_charAt_3b067 9 = some (a_const (nI 255) 12) ∧
  tJ1_charAt_3b067 12 = some (a_bin (fun x y => x &&& y) 13) ∧
  tJ1_charAt_3b067 13 = some (a_un am_i2c 14) ∧
  tJ1_charAt_3b067 14 = some (a_nret .char) := ⟨rfl, rfl, rfl, rfl, rfl, rfl, rfl, rfl, rfl, rfl, rfl⟩
theorem lJ1_canEncode_9a6ad_0 : tJ1_canEncode_9a6ad 0 = some (a_iload 0 1) ∧
  tJ1_canEncode_9a6ad 1 = some (a_if (fun x => x < nI 0) 15 4) ∧
  tJ1_canEncode_9a6ad 4 = some (a_iload 0 5) ∧
  tJ1_canEncode_9a6ad 5 = some (a_const (nI 255) 8) ∧
  tJ1_canEncode_9a6ad 8 = some (a_cmp (fun x y => y < x) 15 11) ∧
  tJ1_canEncode_9a6ad 11 = some (a_const (nI 1) 12) ∧
  tJ1_canEncode_9a6ad 12 = some (a_goto 16) ∧
  tJ1_canEncode_9a6ad 15 = some (a_const (nI 0) 16) ∧
  tJ1_canEncode_9a6ad 16 = some (a_zret) := ⟨rfl, rfl, rfl, rfl, rfl, rfl, rfl, rfl, rfl⟩
theorem lJ1_indexOf_4cfef_0 : tJ1_indexOf_4cfef 0 = some (a_iload 1 1) ∧
  tJ1_indexOf_4cfef 1 = some (a_csI mJ1_canEncode_9a6ad 1 4) ∧
  tJ1_indexOf_4cfef 4 = some (a_if (fun x => x = nI 0) 7 9) ∧
  tJ1_indexOf_4cfef 7 = some (a_const (-1) 8) ∧
  tJ1_indexOf_4cfef 8 = some (a_iret) ∧
  tJ1_indexOf_4cfef 9 = some (a_iload 2 10) ∧
  tJ1_indexOf_4cfef 10 = some (a_const (nI 0) 11) ∧
  tJ1_indexOf_4cfef 11 = some (a_csI mJ9_max_7cf53 2 14) ∧
  tJ1_indexOf_4cfef 14 = some (a_istore 2 15) ∧
  tJ1_indexOf_4cfef 15 = some (a_iload 3 16) ∧
  tJ1_indexOf_4cfef 16 = some (a_aload 0 17) ∧
  tJ1_indexOf_4cfef 17 = some (a_blen tT 18) ∧
  tJ1_indexOf_4cfef 18 = some (a_csI mJ9_min_7cf53 2 21) ∧
  tJ1_indexOf_4cfef 21 = some (a_istore 3 22) ∧
  tJ1_indexOf_4cfef 22 = some (a_iload 2 23) ∧
  tJ1_indexOf_4cfef 23 = some (a_iload 3 24) ∧
  tJ1_indexOf_4cfef 24 = some (a_cmp (fun x y => x < y) 29 27) ∧
  tJ1_indexOf_4cfef 27 = some (a_const (-1) 28) ∧
  tJ1_indexOf_4cfef 28 = some (a_iret) ∧
  tJ1_indexOf_4cfef 29 = some (a_aload 0 30) ∧
  tJ1_indexOf_4cfef 30 = some (a_iload 1 31) ∧
  tJ1_indexOf_4cfef 31 = some (a_iload 2 32) ∧
  tJ1_indexOf_4cfef 32 = some (a_iload 3 33) ∧
  tJ1_indexOf_4cfef 33 = some (a_csI mJ1_indexOfChar_4cfef 4 36) := ⟨rfl, rfl, rfl, rfl, rfl, rfl, rfl, rfl, rfl, rfl, rfl, rfl, rfl, rfl, rfl, rfl, rfl, rfl, rfl, rfl, rfl, rfl, rfl, rfl⟩
theorem lJ1_indexOf_4cfef_1 : tJ1_indexOf_4cfef 36 = some (a_iret) := rfl
theorem lJ1_indexOfChar_4cfef_0 : tJ1_indexOfChar_4cfef 0 = some (a_iload 1 1) ∧
  tJ1_indexOfChar_4cfef 1 = some (a_un am_i2b 2) ∧
  tJ1_indexOfChar_4cfef 2 = some (a_istore 4 4) ∧
  tJ1_indexOfChar_4cfef 4 = some (a_iload 2 5) ∧
  tJ1_indexOfChar_4cfef 5 = some (a_istore 5 7) ∧
  tJ1_indexOfChar_4cfef 7 = some (a_iload 5 9) ∧
  tJ1_indexOfChar_4cfef 9 = some (a_iload 3 10) ∧
  tJ1_indexOfChar_4cfef 10 = some (a_cmp (fun x y => y ≤ x) 31 13) ∧
  tJ1_indexOfChar_4cfef 13 = some (a_aload 0 14) ∧
  tJ1_indexOfChar_4cfef 14 = some (a_iload 5 16) ∧
  tJ1_indexOfChar_4cfef 16 = some (a_bald tT 17) ∧
  tJ1_indexOfChar_4cfef 17 = some (a_iload 4 19) ∧
  tJ1_indexOfChar_4cfef 19 = some (a_cmp (fun x y => x = y) 22 25) ∧
  tJ1_indexOfChar_4cfef 22 = some (a_iload 5 24) ∧
  tJ1_indexOfChar_4cfef 24 = some (a_iret) ∧
  tJ1_indexOfChar_4cfef 25 = some (a_iinc 5 (nI 1) 28) ∧
  tJ1_indexOfChar_4cfef 28 = some (a_goto 7) ∧
  tJ1_indexOfChar_4cfef 31 = some (a_const (-1) 32) ∧
  tJ1_indexOfChar_4cfef 32 = some (a_iret) := ⟨rfl, rfl, rfl, rfl, rfl, rfl, rfl, rfl, rfl, rfl, rfl, rfl, rfl, rfl, rfl, rfl, rfl, rfl, rfl⟩
theorem lJ7_rangeCheck_23922_0 : tJ7_rangeCheck_23922 0 = some (a_iload 1 1) ∧
  tJ7_rangeCheck_23922 1 = some (a_iload 2 2) ∧
  tJ7_rangeCheck_23922 2 = some (a_cmp (fun x y => x ≤ y) 46 5) ∧
  tJ7_rangeCheck_23922 8 = some (a_dup 9) ∧
  tJ7_rangeCheck_23922 12 = some (a_dup 13) ∧
  tJ7_rangeCheck_23922 21 = some (a_iload 1 22) ∧
  tJ7_rangeCheck_23922 30 = some (a_iload 2 31) ∧
  tJ7_rangeCheck_23922 46 = some (a_iload 1 47) ∧
  tJ7_rangeCheck_23922 47 = some (a_if (fun x => nI 0 ≤ x) 59 50) ∧
  tJ7_rangeCheck_23922 53 = some (a_dup 54) ∧
  tJ7_rangeCheck_23922 54 = some (a_iload 1 55) ∧
  tJ7_rangeCheck_23922 59 = some (a_iload 2 60) ∧
  tJ7_rangeCheck_23922 60 = some (a_iload 0 61) ∧
  tJ7_rangeCheck_23922 61 = some (a_cmp (fun x y => x ≤ y) 73 64) ∧
  tJ7_rangeCheck_23922 67 = some (a_dup 68) ∧
  tJ7_rangeCheck_23922 68 = some (a_iload 2 69) ∧
  tJ7_rangeCheck_23922 73 = some (a_ret) := ⟨rfl, rfl, rfl, rfl, rfl, rfl, rfl, rfl, rfl, rfl, rfl, rfl, rfl, rfl, rfl, rfl, rfl⟩
theorem lJ7_fill_53178_0 : tJ7_fill_53178 0 = some (a_const (nI 0) 1) ∧
  tJ7_fill_53178 1 = some (a_istore 2 2) ∧
  tJ7_fill_53178 2 = some (a_aload 0 3) ∧
  tJ7_fill_53178 3 = some (a_alen tT 4) ∧
  tJ7_fill_53178 4 = some (a_istore 3 5) ∧
  tJ7_fill_53178 5 = some (a_iload 2 6) ∧
  tJ7_fill_53178 6 = some (a_iload 3 7) ∧
  tJ7_fill_53178 7 = some (a_cmp (fun x y => y ≤ x) 20 10) ∧
  tJ7_fill_53178 10 = some (a_aload 0 11) ∧
  tJ7_fill_53178 11 = some (a_iload 2 12) ∧
  tJ7_fill_53178 12 = some (a_iload 1 13) ∧
  tJ7_fill_53178 13 = some (a_iast tT 14) ∧
  tJ7_fill_53178 14 = some (a_iinc 2 (nI 1) 17) ∧
  tJ7_fill_53178 17 = some (a_goto 5) ∧
  tJ7_fill_53178 20 = some (a_ret) := ⟨rfl, rfl, rfl, rfl, rfl, rfl, rfl, rfl, rfl, rfl, rfl, rfl, rfl, rfl, rfl⟩
theorem lJ7_fill_fda19_0 : tJ7_fill_fda19 0 = some (a_aload 0 1) ∧
  tJ7_fill_fda19 1 = some (a_alen tT 2) ∧
  tJ7_fill_fda19 2 = some (a_iload 1 3) ∧
  tJ7_fill_fda19 3 = some (a_iload 2 4) ∧
  tJ7_fill_fda19 4 = some (a_csV mJ7_rangeCheck_23922 3 7) ∧
  tJ7_fill_fda19 7 = some (a_iload 1 8) ∧
  tJ7_fill_fda19 8 = some (a_istore 4 10) ∧
  tJ7_fill_fda19 10 = some (a_iload 4 12) ∧
  tJ7_fill_fda19 12 = some (a_iload 2 13) ∧
  tJ7_fill_fda19 13 = some (a_cmp (fun x y => y ≤ x) 27 16) ∧
  tJ7_fill_fda19 16 = some (a_aload 0 17) ∧
  tJ7_fill_fda19 17 = some (a_iload 4 19) ∧
  tJ7_fill_fda19 19 = some (a_iload 3 20) ∧
  tJ7_fill_fda19 20 = some (a_iast tT 21) ∧
  tJ7_fill_fda19 21 = some (a_iinc 4 (nI 1) 24) ∧
  tJ7_fill_fda19 24 = some (a_goto 10) ∧
  tJ7_fill_fda19 27 = some (a_ret) := ⟨rfl, rfl, rfl, rfl, rfl, rfl, rfl, rfl, rfl, rfl, rfl, rfl, rfl, rfl, rfl, rfl, rfl⟩
