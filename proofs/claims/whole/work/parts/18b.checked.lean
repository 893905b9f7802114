theorem zz_okp91 : [91, 92, 93, 94, 95].all zz_okP = true := by decide +kernel
theorem zz_okp96 : [96, 97, 98, 99, 100].all zz_okP = true := by decide +kernel
theorem zz_okp101 : [101, 102, 103, 104, 105].all zz_okP = true := by decide +kernel
theorem zz_okp106 : [106, 107, 108, 109, 110].all zz_okP = true := by decide +kernel
theorem zz_okp111 : [111, 112, 113, 114, 115].all zz_okP = true := by decide +kernel
theorem zz_okp116 : [116, 117, 118, 119, 120].all zz_okP = true := by decide +kernel
theorem zz_okp121 : [121, 122, 123, 124, 125].all zz_okP = true := by decide +kernel
theorem zz_okp126 : [126, 127, 128, 129, 130].all zz_okP = true := by decide +kernel
theorem zz_okp131 : [131, 132, 133, 134, 135].all zz_okP = true := by decide +kernel
theorem zz_okp136 : [136, 137, 138, 139, 140].all zz_okP = true := by decide +kernel
theorem zz_okp141 : [141, 142, 143, 144, 145].all zz_okP = true := by decide +kernel
theorem zz_okp146 : [146, 147, 148, 149, 150].all zz_okP = true := by decide +kernel
theorem zz_okp151 : [151, 152, 153, 154, 155].all zz_okP = true := by decide +kernel
theorem zz_okp156 : [156, 157, 158, 159, 160].all zz_okP = true := by decide +kernel
theorem zz_okp161 : [161, 162, 163, 164, 165].all zz_okP = true := by decide +kernel
theorem zz_okp166 : [166, 167, 168, 169, 170].all zz_okP = true := by decide +kernel
theorem zz_okp171 : [171, 172, 173, 174, 175].all zz_okP = true := by decide +kernel
theorem zz_okp176 : [176, 177, 178].all zz_okP = true := by decide +kernel
