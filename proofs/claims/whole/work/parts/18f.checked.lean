theorem zz_okp88 : zz_okP 88 = true := by
  refine zz_okP_of (n := 27) (fun mi h => ?_) (fun j hj => ?_)
  · have e : zz_prog 88 = some zz_m88 := rfl
    rw [e] at h
    cases h
    decide +kernel
  rcases Nat.lt_or_ge j 4 with h0 | h0
  · exact List.all_eq_true.mp zz_okc88_0 j (by simp only [List.mem_cons, List.not_mem_nil, or_false]; omega)
  rcases Nat.lt_or_ge j 8 with h0 | h0
  · exact List.all_eq_true.mp zz_okc88_4 j (by simp only [List.mem_cons, List.not_mem_nil, or_false]; omega)
  rcases Nat.lt_or_ge j 12 with h0 | h0
  · exact List.all_eq_true.mp zz_okc88_8 j (by simp only [List.mem_cons, List.not_mem_nil, or_false]; omega)
  rcases Nat.lt_or_ge j 16 with h0 | h0
  · exact List.all_eq_true.mp zz_okc88_12 j (by simp only [List.mem_cons, List.not_mem_nil, or_false]; omega)
  rcases Nat.lt_or_ge j 20 with h0 | h0
  · exact List.all_eq_true.mp zz_okc88_16 j (by simp only [List.mem_cons, List.not_mem_nil, or_false]; omega)
  rcases Nat.lt_or_ge j 24 with h0 | h0
  · exact List.all_eq_true.mp zz_okc88_20 j (by simp only [List.mem_cons, List.not_mem_nil, or_false]; omega)
  rcases Nat.lt_or_ge j 27 with h0 | h0
  · exact List.all_eq_true.mp zz_okc88_24 j (by simp only [List.mem_cons, List.not_mem_nil, or_false]; omega)
  omega
theorem zz_okp179 : zz_okP 179 = true := by
  refine zz_okP_of (n := 49) (fun mi h => ?_) (fun j hj => ?_)
  · have e : zz_prog 179 = some zz_m179 := rfl
    rw [e] at h
    cases h
    decide +kernel
  rcases Nat.lt_or_ge j 4 with h0 | h0
  · exact List.all_eq_true.mp zz_okc179_0 j (by simp only [List.mem_cons, List.not_mem_nil, or_false]; omega)
  rcases Nat.lt_or_ge j 8 with h0 | h0
  · exact List.all_eq_true.mp zz_okc179_4 j (by simp only [List.mem_cons, List.not_mem_nil, or_false]; omega)
  rcases Nat.lt_or_ge j 12 with h0 | h0
  · exact List.all_eq_true.mp zz_okc179_8 j (by simp only [List.mem_cons, List.not_mem_nil, or_false]; omega)
  rcases Nat.lt_or_ge j 16 with h0 | h0
  · exact List.all_eq_true.mp zz_okc179_12 j (by simp only [List.mem_cons, List.not_mem_nil, or_false]; omega)
  rcases Nat.lt_or_ge j 20 with h0 | h0
  · exact List.all_eq_true.mp zz_okc179_16 j (by simp only [List.mem_cons, List.not_mem_nil, or_false]; omega)
  rcases Nat.lt_or_ge j 24 with h0 | h0
  · exact List.all_eq_true.mp zz_okc179_20 j (by simp only [List.mem_cons, List.not_mem_nil, or_false]; omega)
  rcases Nat.lt_or_ge j 28 with h0 | h0
  · exact List.all_eq_true.mp zz_okc179_24 j (by simp only [List.mem_cons, List.not_mem_nil, or_false]; omega)
  rcases Nat.lt_or_ge j 32 with h0 | h0
  · exact List.all_eq_true.mp zz_okc179_28 j (by simp only [List.mem_cons, List.not_mem_nil, or_false]; omega)
  rcases Nat.lt_or_ge j 36 with h0 | h0
  · exact List.all_eq_true.mp zz_okc179_32 j (by simp only [List.mem_cons, List.not_mem_nil, or_false]; omega)
  rcases Nat.lt_or_ge j 40 with h0 | h0
  · exact List.all_eq_true.mp zz_okc179_36 j (by simp only [List.mem_cons, List.not_mem_nil, or_false]; omega)
  rcases Nat.lt_or_ge j 44 with h0 | h0
  · exact List.all_eq_true.mp zz_okc179_40 j (by simp only [List.mem_cons, List.not_mem_nil, or_false]; omega)
  rcases Nat.lt_or_ge j 48 with h0 | h0
  · exact List.all_eq_true.mp zz_okc179_44 j (by simp only [List.mem_cons, List.not_mem_nil, or_false]; omega)
  rcases Nat.lt_or_ge j 49 with h0 | h0
  · exact List.all_eq_true.mp zz_okc179_48 j (by simp only [List.mem_cons, List.not_mem_nil, or_false]; omega)
  omega
theorem zz_ok_all {M : Nat} (h : M < 180) : zz_okP M = true := by
  by_cases e88 : M = 88
  · subst e88; exact zz_okp88
  by_cases e179 : M = 179
  · subst e179; exact zz_okp179
  rcases Nat.lt_or_ge M 5 with h0 | h0
  · exact List.all_eq_true.mp zz_okp0 M (by simp only [List.mem_cons, List.not_mem_nil, or_false]; omega)
  rcases Nat.lt_or_ge M 10 with h0 | h0
  · exact List.all_eq_true.mp zz_okp5 M (by simp only [List.mem_cons, List.not_mem_nil, or_false]; omega)
  rcases Nat.lt_or_ge M 15 with h0 | h0
  · exact List.all_eq_true.mp zz_okp10 M (by simp only [List.mem_cons, List.not_mem_nil, or_false]; omega)
  rcases Nat.lt_or_ge M 20 with h0 | h0
  · exact List.all_eq_true.mp zz_okp15 M (by simp only [List.mem_cons, List.not_mem_nil, or_false]; omega)
  rcases Nat.lt_or_ge M 25 with h0 | h0
  · exact List.all_eq_true.mp zz_okp20 M (by simp only [List.mem_cons, List.not_mem_nil, or_false]; omega)
  rcases Nat.lt_or_ge M 30 with h0 | h0
  · exact List.all_eq_true.mp zz_okp25 M (by simp only [List.mem_cons, List.not_mem_nil, or_false]; omega)
  rcases Nat.lt_or_ge M 35 with h0 | h0
  · exact List.all_eq_true.mp zz_okp30 M (by simp only [List.mem_cons, List.not_mem_nil, or_false]; omega)
  rcases Nat.lt_or_ge M 40 with h0 | h0
  · exact List.all_eq_true.mp zz_okp35 M (by simp only [List.mem_cons, List.not_mem_nil, or_false]; omega)
  rcases Nat.lt_or_ge M 45 with h0 | h0
  · exact List.all_eq_true.mp zz_okp40 M (by simp only [List.mem_cons, List.not_mem_nil, or_false]; omega)
  rcases Nat.lt_or_ge M 50 with h0 | h0
  · exact List.all_eq_true.mp zz_okp45 M (by simp only [List.mem_cons, List.not_mem_nil, or_false]; omega)
  rcases Nat.lt_or_ge M 55 with h0 | h0
  · exact List.all_eq_true.mp zz_okp50 M (by simp only [List.mem_cons, List.not_mem_nil, or_false]; omega)
  rcases Nat.lt_or_ge M 60 with h0 | h0
  · exact List.all_eq_true.mp zz_okp55 M (by simp only [List.mem_cons, List.not_mem_nil, or_false]; omega)
  rcases Nat.lt_or_ge M 65 with h0 | h0
  · exact List.all_eq_true.mp zz_okp60 M (by simp only [List.mem_cons, List.not_mem_nil, or_false]; omega)
  rcases Nat.lt_or_ge M 70 with h0 | h0
  · exact List.all_eq_true.mp zz_okp65 M (by simp only [List.mem_cons, List.not_mem_nil, or_false]; omega)
  rcases Nat.lt_or_ge M 75 with h0 | h0
  · exact List.all_eq_true.mp zz_okp70 M (by simp only [List.mem_cons, List.not_mem_nil, or_false]; omega)
  rcases Nat.lt_or_ge M 80 with h0 | h0
  · exact List.all_eq_true.mp zz_okp75 M (by simp only [List.mem_cons, List.not_mem_nil, or_false]; omega)
  rcases Nat.lt_or_ge M 85 with h0 | h0
  · exact List.all_eq_true.mp zz_okp80 M (by simp only [List.mem_cons, List.not_mem_nil, or_false]; omega)
  rcases Nat.lt_or_ge M 91 with h0 | h0
  · exact List.all_eq_true.mp zz_okp85 M (by simp only [List.mem_cons, List.not_mem_nil, or_false]; omega)
  rcases Nat.lt_or_ge M 96 with h0 | h0
  · exact List.all_eq_true.mp zz_okp91 M (by simp only [List.mem_cons, List.not_mem_nil, or_false]; omega)
  rcases Nat.lt_or_ge M 101 with h0 | h0
  · exact List.all_eq_true.mp zz_okp96 M (by simp only [List.mem_cons, List.not_mem_nil, or_false]; omega)
  rcases Nat.lt_or_ge M 106 with h0 | h0
  · exact List.all_eq_true.mp zz_okp101 M (by simp only [List.mem_cons, List.not_mem_nil, or_false]; omega)
  rcases Nat.lt_or_ge M 111 with h0 | h0
  · exact List.all_eq_true.mp zz_okp106 M (by simp only [List.mem_cons, List.not_mem_nil, or_false]; omega)
  rcases Nat.lt_or_ge M 116 with h0 | h0
  · exact List.all_eq_true.mp zz_okp111 M (by simp only [List.mem_cons, List.not_mem_nil, or_false]; omega)
  rcases Nat.lt_or_ge M 121 with h0 | h0
  · exact List.all_eq_true.mp zz_okp116 M (by simp only [List.mem_cons, List.not_mem_nil, or_false]; omega)
  rcases Nat.lt_or_ge M 126 with h0 | h0
  · exact List.all_eq_true.mp zz_okp121 M (by simp only [List.mem_cons, List.not_mem_nil, or_false]; omega)
  rcases Nat.lt_or_ge M 131 with h0 | h0
  · exact List.all_eq_true.mp zz_okp126 M (by simp only [List.mem_cons, List.not_mem_nil, or_false]; omega)
  rcases Nat.lt_or_ge M 136 with h0 | h0
  · exact List.all_eq_true.mp zz_okp131 M (by simp only [List.mem_cons, List.not_mem_nil, or_false]; omega)
  rcases Nat.lt_or_ge M 141 with h0 | h0
  · exact List.all_eq_true.mp zz_okp136 M (by simp only [List.mem_cons, List.not_mem_nil, or_false]; omega)
  rcases Nat.lt_or_ge M 146 with h0 | h0
  · exact List.all_eq_true.mp zz_okp141 M (by simp only [List.mem_cons, List.not_mem_nil, or_false]; omega)
  rcases Nat.lt_or_ge M 151 with h0 | h0
  · exact List.all_eq_true.mp zz_okp146 M (by simp only [List.mem_cons, List.not_mem_nil, or_false]; omega)
  rcases Nat.lt_or_ge M 156 with h0 | h0
  · exact List.all_eq_true.mp zz_okp151 M (by simp only [List.mem_cons, List.not_mem_nil, or_false]; omega)
  rcases Nat.lt_or_ge M 161 with h0 | h0
  · exact List.all_eq_true.mp zz_okp156 M (by simp only [List.mem_cons, List.not_mem_nil, or_false]; omega)
  rcases Nat.lt_or_ge M 166 with h0 | h0
  · exact List.all_eq_true.mp zz_okp161 M (by simp only [List.mem_cons, List.not_mem_nil, or_false]; omega)
  rcases Nat.lt_or_ge M 171 with h0 | h0
  · exact List.all_eq_true.mp zz_okp166 M (by simp only [List.mem_cons, List.not_mem_nil, or_false]; omega)
  rcases Nat.lt_or_ge M 176 with h0 | h0
  · exact List.all_eq_true.mp zz_okp171 M (by simp only [List.mem_cons, List.not_mem_nil, or_false]; omega)
  rcases Nat.lt_or_ge M 179 with h0 | h0
  · exact List.all_eq_true.mp zz_okp176 M (by simp only [List.mem_cons, List.not_mem_nil, or_false]; omega)
  omega
theorem zz_okm0 : [0, 1, 2, 3, 4, 5, 6, 7, 8, 9, 10, 11, 12, 13, 14, 15, 16, 17, 18, 19].all zz_okM = true := by decide +kernel
theorem zz_okm20 : [20, 21, 22, 23, 24, 25, 26, 27, 28, 29, 30, 31, 32, 33, 34, 35, 36, 37, 38, 39].all zz_okM = true := by decide +kernel
theorem zz_okm40 : [40, 41, 42, 43, 44, 45, 46, 47, 48, 49, 50, 51, 52, 53, 54, 55, 56, 57, 58, 59].all zz_okM = true := by decide +kernel
theorem zz_okm60 : [60, 61, 62, 63, 64, 65, 66, 67, 68, 69, 70, 71, 72, 73, 74, 75, 76, 77, 78, 79].all zz_okM = true := by decide +kernel
theorem zz_okm80 : [80, 81, 82, 83, 84, 85, 86, 87, 88, 89, 90, 91, 92, 93, 94, 95, 96, 97, 98, 99].all zz_okM = true := by decide +kernel
theorem zz_okm100 : [100, 101, 102, 103, 104, 105, 106, 107, 108, 109, 110, 111, 112, 113, 114, 115, 116, 117, 118, 119].all zz_okM = true := by decide +kernel
theorem zz_okm120 : [120, 121, 122, 123, 124, 125, 126, 127, 128, 129, 130, 131, 132, 133, 134, 135, 136, 137, 138, 139].all zz_okM = true := by decide +kernel
theorem zz_okm140 : [140, 141, 142, 143, 144, 145, 146, 147, 148, 149, 150, 151, 152, 153, 154, 155, 156, 157, 158, 159].all zz_okM = true := by decide +kernel
theorem zz_okm160 : [160, 161, 162, 163, 164, 165, 166, 167, 168, 169, 170, 171, 172, 173, 174, 175, 176, 177, 178].all zz_okM = true := by decide +kernel
theorem zz_okm_all {M : Nat} (h : M < 179) : zz_okM M = true := by
  rcases Nat.lt_or_ge M 20 with h0 | h0
  · exact List.all_eq_true.mp zz_okm0 M (by simp only [List.mem_cons, List.not_mem_nil, or_false]; omega)
  rcases Nat.lt_or_ge M 40 with h0 | h0
  · exact List.all_eq_true.mp zz_okm20 M (by simp only [List.mem_cons, List.not_mem_nil, or_false]; omega)
  rcases Nat.lt_or_ge M 60 with h0 | h0
  · exact List.all_eq_true.mp zz_okm40 M (by simp only [List.mem_cons, List.not_mem_nil, or_false]; omega)
  rcases Nat.lt_or_ge M 80 with h0 | h0
  · exact List.all_eq_true.mp zz_okm60 M (by simp only [List.mem_cons, List.not_mem_nil, or_false]; omega)
  rcases Nat.lt_or_ge M 100 with h0 | h0
  · exact List.all_eq_true.mp zz_okm80 M (by simp only [List.mem_cons, List.not_mem_nil, or_false]; omega)
  rcases Nat.lt_or_ge M 120 with h0 | h0
  · exact List.all_eq_true.mp zz_okm100 M (by simp only [List.mem_cons, List.not_mem_nil, or_false]; omega)
  rcases Nat.lt_or_ge M 140 with h0 | h0
  · exact List.all_eq_true.mp zz_okm120 M (by simp only [List.mem_cons, List.not_mem_nil, or_false]; omega)
  rcases Nat.lt_or_ge M 160 with h0 | h0
  · exact List.all_eq_true.mp zz_okm140 M (by simp only [List.mem_cons, List.not_mem_nil, or_false]; omega)
  rcases Nat.lt_or_ge M 179 with h0 | h0
  · exact List.all_eq_true.mp zz_okm160 M (by simp only [List.mem_cons, List.not_mem_nil, or_false]; omega)
  omega
