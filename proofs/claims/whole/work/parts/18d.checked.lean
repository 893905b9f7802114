theorem zz_okc179_0 : [0, 1, 2, 3].all (zz_okCh 179) = true := by decide +kernel
theorem zz_okc179_4 : [4, 5, 6, 7].all (zz_okCh 179) = true := by decide +kernel
theorem zz_okc179_8 : [8, 9, 10, 11].all (zz_okCh 179) = true := by decide +kernel
theorem zz_okc179_12 : [12, 13, 14, 15].all (zz_okCh 179) = true := by decide +kernel
theorem zz_okc179_16 : [16, 17, 18, 19].all (zz_okCh 179) = true := by decide +kernel
theorem zz_okc179_20 : [20, 21, 22, 23].all (zz_okCh 179) = true := by decide +kernel
