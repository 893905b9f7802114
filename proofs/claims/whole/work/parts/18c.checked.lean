theorem zz_okc88_0 : [0, 1, 2, 3].all (zz_okCh 88) = true := by decide +kernel
theorem zz_okc88_4 : [4, 5, 6, 7].all (zz_okCh 88) = true := by decide +kernel
theorem zz_okc88_8 : [8, 9, 10, 11].all (zz_okCh 88) = true := by decide +kernel
theorem zz_okc88_12 : [12, 13, 14, 15].all (zz_okCh 88) = true := by decide +kernel
theorem zz_okc88_16 : [16, 17, 18, 19].all (zz_okCh 88) = true := by decide +kernel
theorem zz_okc88_20 : [20, 21, 22, 23].all (zz_okCh 88) = true := by decide +kernel
theorem zz_okc88_24 : [24, 25, 26].all (zz_okCh 88) = true := by decide +kernel
