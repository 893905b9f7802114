theorem zz_okp0 : [0, 1, 2, 3, 4].all zz_okP = true := by decide +kernel
theorem zz_okp5 : [5, 6, 7, 8, 9].all zz_okP = true := by decide +kernel
theorem zz_okp10 : [10, 11, 12, 13, 14].all zz_okP = true := by decide +kernel
theorem zz_okp15 : [15, 16, 17, 18, 19].all zz_okP = true := by decide +kernel
theorem zz_okp20 : [20, 21, 22, 23, 24].all zz_okP = true := by decide +kernel
theorem zz_okp25 : [25, 26, 27, 28, 29].all zz_okP = true := by decide +kernel
theorem zz_okp30 : [30, 31, 32, 33, 34].all zz_okP = true := by decide +kernel
theorem zz_okp35 : [35, 36, 37, 38, 39].all zz_okP = true := by decide +kernel
theorem zz_okp40 : [40, 41, 42, 43, 44].all zz_okP = true := by decide +kernel
theorem zz_okp45 : [45, 46, 47, 48, 49].all zz_okP = true := by decide +kernel
theorem zz_okp50 : [50, 51, 52, 53, 54].all zz_okP = true := by decide +kernel
theorem zz_okp55 : [55, 56, 57, 58, 59].all zz_okP = true := by decide +kernel
theorem zz_okp60 : [60, 61, 62, 63, 64].all zz_okP = true := by decide +kernel
theorem zz_okp65 : [65, 66, 67, 68, 69].all zz_okP = true := by decide +kernel
theorem zz_okp70 : [70, 71, 72, 73, 74].all zz_okP = true := by decide +kernel
theorem zz_okp75 : [75, 76, 77, 78, 79].all zz_okP = true := by decide +kernel
theorem zz_okp80 : [80, 81, 82, 83, 84].all zz_okP = true := by decide +kernel
theorem zz_okp85 : [85, 86, 87, 88, 89].all zz_okP = true := by decide +kernel
theorem zz_okp90 : [90, 91, 92, 93, 94].all zz_okP = true := by decide +kernel
theorem zz_okp95 : [95, 96, 97, 98, 99].all zz_okP = true := by decide +kernel
theorem zz_okp100 : [100, 101, 102, 103, 104].all zz_okP = true := by decide +kernel
theorem zz_okp105 : [105, 106, 107, 108, 109].all zz_okP = true := by decide +kernel
theorem zz_okp110 : [110, 111, 112, 113, 114].all zz_okP = true := by decide +kernel
theorem zz_okp115 : [115, 116, 117, 118, 119].all zz_okP = true := by decide +kernel
theorem zz_okp120 : [120, 121, 122, 123, 124].all zz_okP = true := by decide +kernel
theorem zz_okp125 : [125, 126, 127, 128, 129].all zz_okP = true := by decide +kernel
theorem zz_okp130 : [130, 131, 132, 133, 134].all zz_okP = true := by decide +kernel
theorem zz_okp135 : [135, 136, 137, 138, 139].all zz_okP = true := by decide +kernel
theorem zz_okp140 : [140, 141, 142, 143, 144].all zz_okP = true := by decide +kernel
theorem zz_okp145 : [145, 146, 147, 148, 149].all zz_okP = true := by decide +kernel
theorem zz_okp150 : [150, 151, 152, 153, 154].all zz_okP = true := by decide +kernel
theorem zz_okp155 : [155, 156, 157, 158, 159].all zz_okP = true := by decide +kernel
theorem zz_okp160 : [160, 161, 162, 163, 164].all zz_okP = true := by decide +kernel
theorem zz_okp165 : [165, 166, 167, 168, 169].all zz_okP = true := by decide +kernel
theorem zz_okp170 : [170, 171, 172, 173, 174].all zz_okP = true := by decide +kernel
theorem zz_okp175 : [175, 176, 177, 178].all zz_okP = true := by decide +kernel
theorem zz_okp179 : zz_okP 179 = true := by decide +kernel
theorem zz_okm0 : [0, 1, 2, 3, 4, 5, 6, 7, 8, 9, 10, 11, 12, 13, 14, 15, 16, 17, 18, 19].all zz_okM = true := by decide +kernel
theorem zz_okm20 : [20, 21, 22, 23, 24, 25, 26, 27, 28, 29, 30, 31, 32, 33, 34, 35, 36, 37, 38, 39].all zz_okM = true := by decide +kernel
theorem zz_okm40 : [40, 41, 42, 43, 44, 45, 46, 47, 48, 49, 50, 51, 52, 53, 54, 55, 56, 57, 58, 59].all zz_okM = true := by decide +kernel
theorem zz_okm60 : [60, 61, 62, 63, 64, 65, 66, 67, 68, 69, 70, 71, 72, 73, 74, 75, 76, 77, 78, 79].all zz_okM = true := by decide +kernel
theorem zz_okm80 : [80, 81, 82, 83, 84, 85, 86, 87, 88, 89, 90, 91, 92, 93, 94, 95, 96, 97, 98, 99].all zz_okM = true := by decide +kernel
theorem zz_okm100 : [100, 101, 102, 103, 104, 105, 106, 107, 108, 109, 110, 111, 112, 113, 114, 115, 116, 117, 118, 119].all zz_okM = true := by decide +kernel
theorem zz_okm120 : [120, 121, 122, 123, 124, 125, 126, 127, 128, 129, 130, 131, 132, 133, 134, 135, 136, 137, 138, 139].all zz_okM = true := by decide +kernel
theorem zz_okm140 : [140, 141, 142, 143, 144, 145, 146, 147, 148, 149, 150, 151, 152, 153, 154, 155, 156, 157, 158, 159].all zz_okM = true := by decide +kernel
theorem zz_okm160 : [160, 161, 162, 163, 164, 165, 166, 167, 168, 169, 170, 171, 172, 173, 174, 175, 176, 177, 178].all zz_okM = true := by decide +kernel
