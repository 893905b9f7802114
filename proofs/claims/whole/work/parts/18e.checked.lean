theorem zz_okc179_24 : [24, 25, 26, 27].all (zz_okCh 179) = true := by decide +kernel
theorem zz_okc179_28 : [28, 29, 30, 31].all (zz_okCh 179) = true := by decide +kernel
theorem zz_okc179_32 : [32, 33, 34, 35].all (zz_okCh 179) = true := by decide +kernel
theorem zz_okc179_36 : [36, 37, 38, 39].all (zz_okCh 179) = true := by decide +kernel
theorem zz_okc179_40 : [40, 41, 42, 43].all (zz_okCh 179) = true := by decide +kernel
theorem zz_okc179_44 : [44, 45, 46, 47].all (zz_okCh 179) = true := by decide +kernel
theorem zz_okc179_48 : [48].all (zz_okCh 179) = true := by decide +kernel
