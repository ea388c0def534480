set_option maxRecDepth 1000000 in
theorem nm_ok_m0 : px_okM nm_cl nm_T nm_P nm_W0 nm_EXT "NamesInBags" nm_m0 = true := by decide +kernel
set_option maxRecDepth 1000000 in
theorem nm_ok_m1 : px_okM nm_cl nm_T nm_P nm_W0 nm_EXT "NamesInBags" nm_m1 = true := by decide +kernel
set_option maxRecDepth 1000000 in
theorem nm_ok_m2 : px_okM nm_cl nm_T nm_P nm_W0 nm_EXT "NamesInBags" nm_m2 = true := by decide +kernel
set_option maxRecDepth 1000000 in
theorem nm_ok_m3 : px_okM nm_cl nm_T nm_P nm_W0 nm_EXT "NamesInBags" nm_m3 = true := by decide +kernel
set_option maxRecDepth 1000000 in
theorem nm_ok_m4 : px_okM nm_cl nm_T nm_P nm_W0 nm_EXT "NamesInBags" nm_m4 = true := by decide +kernel
set_option maxRecDepth 1000000 in
theorem nm_ok_m5 : px_okM nm_cl nm_T nm_P nm_W0 nm_EXT "NamesInBags" nm_m5 = true := by decide +kernel
set_option maxRecDepth 1000000 in
theorem nm_ok_m10 : px_okM nm_cl nm_T nm_P nm_W0 nm_EXT "NamesInBags" nm_m10 = true := by decide +kernel
set_option maxRecDepth 1000000 in
theorem nm_ok_m12 : px_okM nm_cl nm_T nm_P nm_W0 nm_EXT "NamesInBags" nm_m12 = true := by decide +kernel
set_option maxRecDepth 1000000 in
theorem nm_ok_m13 : px_okM nm_cl nm_T nm_P nm_W0 nm_EXT "NamesInBags" nm_m13 = true := by decide +kernel
set_option maxRecDepth 1000000 in
theorem nm_ok_m14 : px_okM nm_cl nm_T nm_P nm_W0 nm_EXT "NamesInBags" nm_m14 = true := by decide +kernel
set_option maxRecDepth 1000000 in
theorem nm_ok_m6 : px_okM nm_cl nm_T nm_P nm_W1 nm_EXT "NamesInBags" nm_m6 = true := by decide +kernel
set_option maxRecDepth 1000000 in
theorem nm_ok_m7 : px_okM nm_cl nm_T nm_P nm_W1 nm_EXT "NamesInBags" nm_m7 = true := by decide +kernel
set_option maxRecDepth 1000000 in
theorem nm_ok_m8 : px_okM nm_cl nm_T nm_P nm_W1 nm_EXT "NamesInBags" nm_m8 = true := by decide +kernel
set_option maxRecDepth 1000000 in
theorem nm_ok_m9 : px_okM nm_cl nm_T nm_P nm_W1 nm_EXT "NamesInBags" nm_m9 = true := by decide +kernel
set_option maxRecDepth 1000000 in
theorem nm_ok_m16 : px_okM nm_cl nm_T nm_P nm_W1 nm_EXT "NamesInBags" nm_m16 = true := by decide +kernel
set_option maxRecDepth 1000000 in
theorem nm_ok_m17 : px_okM nm_cl nm_T nm_P nm_W1 nm_EXT "NamesInBags" nm_m17 = true := by decide +kernel
set_option maxRecDepth 1000000 in
theorem nm_ok_m23 : px_okM nm_cl nm_T nm_P nm_W1 nm_EXT "NamesInBags" nm_m23 = true := by decide +kernel
set_option maxRecDepth 1000000 in
theorem nm_ok_m24 : px_okM nm_cl nm_T nm_P nm_W1 nm_EXT "NamesInBags" nm_m24 = true := by decide +kernel
set_option maxRecDepth 1000000 in
theorem nm_ok_m25 : px_okM nm_cl nm_T nm_P nm_W1 nm_EXT "NamesInBags" nm_m25 = true := by decide +kernel
set_option maxRecDepth 1000000 in
theorem nm_ok_m11 : px_okM nm_cl nm_T nm_P nm_W2 nm_EXT "NamesInBags" nm_m11 = true := by decide +kernel
set_option maxRecDepth 1000000 in
theorem nm_ok_m15 : px_okM nm_cl nm_T nm_P nm_W3 nm_EXT "NamesInBags" nm_m15 = true := by decide +kernel
set_option maxRecDepth 1000000 in
theorem nm_ok_m30 : px_okM nm_cl nm_T nm_P nm_W3 nm_EXT "NamesInBags" nm_m30 = true := by decide +kernel
set_option maxRecDepth 1000000 in
theorem nm_ok_m18 : px_okM nm_cl nm_T nm_P nm_W4 nm_EXT "NamesInBags" nm_m18 = true := by decide +kernel
set_option maxRecDepth 1000000 in
theorem nm_ok_m19 : px_okM nm_cl nm_T nm_P nm_W4 nm_EXT "NamesInBags" nm_m19 = true := by decide +kernel
set_option maxRecDepth 1000000 in
theorem nm_ok_m20 : px_okM nm_cl nm_T nm_P nm_W4 nm_EXT "NamesInBags" nm_m20 = true := by decide +kernel
set_option maxRecDepth 1000000 in
theorem nm_ok_m21 : px_okM nm_cl nm_T nm_P nm_W4 nm_EXT "NamesInBags" nm_m21 = true := by decide +kernel
set_option maxRecDepth 1000000 in
theorem nm_ok_m22 : px_okM nm_cl nm_T nm_P nm_W4 nm_EXT "NamesInBags" nm_m22 = true := by decide +kernel
set_option maxRecDepth 1000000 in
theorem nm_ok_m41 : px_okM nm_cl nm_T nm_P nm_W4 nm_EXT "NamesInBags" nm_m41 = true := by decide +kernel
set_option maxRecDepth 1000000 in
theorem nm_ok_m42 : px_okM nm_cl nm_T nm_P nm_W4 nm_EXT "NamesInBags" nm_m42 = true := by decide +kernel
set_option maxRecDepth 1000000 in
theorem nm_ok_m43 : px_okM nm_cl nm_T nm_P nm_W4 nm_EXT "NamesInBags" nm_m43 = true := by decide +kernel
set_option maxRecDepth 1000000 in
theorem nm_ok_m44 : px_okM nm_cl nm_T nm_P nm_W4 nm_EXT "NamesInBags" nm_m44 = true := by decide +kernel
set_option maxRecDepth 1000000 in
theorem nm_ok_m45 : px_okM nm_cl nm_T nm_P nm_W4 nm_EXT "NamesInBags" nm_m45 = true := by decide +kernel
set_option maxRecDepth 1000000 in
theorem nm_ok_m46 : px_okM nm_cl nm_T nm_P nm_W4 nm_EXT "NamesInBags" nm_m46 = true := by decide +kernel
set_option maxRecDepth 1000000 in
theorem nm_ok_m47 : px_okM nm_cl nm_T nm_P nm_W4 nm_EXT "NamesInBags" nm_m47 = true := by decide +kernel
set_option maxRecDepth 1000000 in
theorem nm_ok_m26 : px_okM nm_cl nm_T nm_P nm_W5 nm_EXT "NamesInBags" nm_m26 = true := by decide +kernel
set_option maxRecDepth 1000000 in
theorem nm_ok_m27 : px_okM nm_cl nm_T nm_P nm_W5 nm_EXT "NamesInBags" nm_m27 = true := by decide +kernel
set_option maxRecDepth 1000000 in
theorem nm_ok_m28 : px_okM nm_cl nm_T nm_P nm_W5 nm_EXT "NamesInBags" nm_m28 = true := by decide +kernel
set_option maxRecDepth 1000000 in
theorem nm_ok_m29 : px_okM nm_cl nm_T nm_P nm_W5 nm_EXT "NamesInBags" nm_m29 = true := by decide +kernel
set_option maxRecDepth 1000000 in
theorem nm_ok_m31 : px_okM nm_cl nm_T nm_P nm_W6 nm_EXT "NamesInBags" nm_m31 = true := by decide +kernel
set_option maxRecDepth 1000000 in
theorem nm_ok_m32 : px_okM nm_cl nm_T nm_P nm_W6 nm_EXT "NamesInBags" nm_m32 = true := by decide +kernel
set_option maxRecDepth 1000000 in
theorem nm_ok_m33 : px_okM nm_cl nm_T nm_P nm_W6 nm_EXT "NamesInBags" nm_m33 = true := by decide +kernel
set_option maxRecDepth 1000000 in
theorem nm_ok_m34 : px_okM nm_cl nm_T nm_P nm_W6 nm_EXT "NamesInBags" nm_m34 = true := by decide +kernel
set_option maxRecDepth 1000000 in
theorem nm_ok_m35 : px_okM nm_cl nm_T nm_P nm_W6 nm_EXT "NamesInBags" nm_m35 = true := by decide +kernel
set_option maxRecDepth 1000000 in
theorem nm_ok_m36 : px_okM nm_cl nm_T nm_P nm_W7 nm_EXT "NamesInBags" nm_m36 = true := by decide +kernel
set_option maxRecDepth 1000000 in
theorem nm_ok_m37 : px_okM nm_cl nm_T nm_P nm_W7 nm_EXT "NamesInBags" nm_m37 = true := by decide +kernel
set_option maxRecDepth 1000000 in
theorem nm_ok_m38 : px_okM nm_cl nm_T nm_P nm_W7 nm_EXT "NamesInBags" nm_m38 = true := by decide +kernel
set_option maxRecDepth 1000000 in
theorem nm_ok_m39 : px_okM nm_cl nm_T nm_P nm_W7 nm_EXT "NamesInBags" nm_m39 = true := by decide +kernel
set_option maxRecDepth 1000000 in
theorem nm_ok_m40 : px_okM nm_cl nm_T nm_P nm_W7 nm_EXT "NamesInBags" nm_m40 = true := by decide +kernel
set_option maxRecDepth 1000000 in
theorem nm_ok_m48 : px_okM nm_cl nm_T nm_P nm_W8 nm_EXT "NamesInBags" nm_m48 = true := by decide +kernel
set_option maxRecDepth 1000000 in
theorem nm_ok_m49 : px_okM nm_cl nm_T nm_P nm_W8 nm_EXT "NamesInBags" nm_m49 = true := by decide +kernel
set_option maxRecDepth 1000000 in
theorem nm_ok_m50 : px_okM nm_cl nm_T nm_P nm_W8 nm_EXT "NamesInBags" nm_m50 = true := by decide +kernel
set_option maxRecDepth 1000000 in
theorem nm_ok_m51 : px_okM nm_cl nm_T nm_P nm_W8 nm_EXT "NamesInBags" nm_m51 = true := by decide +kernel
set_option maxRecDepth 1000000 in
theorem nm_ok_m52 : px_okM nm_cl nm_T nm_P nm_W8 nm_EXT "NamesInBags" nm_m52 = true := by decide +kernel
set_option maxRecDepth 1000000 in
theorem nm_ok_m53 : px_okM nm_cl nm_T nm_P nm_W8 nm_EXT "NamesInBags" nm_m53 = true := by decide +kernel
set_option maxRecDepth 1000000 in
theorem nm_ok_m54 : px_okM nm_cl nm_T nm_P nm_W8 nm_EXT "NamesInBags" nm_m54 = true := by decide +kernel
set_option maxRecDepth 1000000 in
theorem nm_ok_m55 : px_okM nm_cl nm_T nm_P nm_W8 nm_EXT "NamesInBags" nm_m55 = true := by decide +kernel
set_option maxRecDepth 1000000 in
theorem nm_ok_m56 : px_okM nm_cl nm_T nm_P nm_W8 nm_EXT "NamesInBags" nm_m56 = true := by decide +kernel
set_option maxRecDepth 1000000 in
theorem nm_ok_m58 : px_okM nm_cl nm_T nm_P nm_W8 nm_EXT "NamesInBags" nm_m58 = true := by decide +kernel
set_option maxRecDepth 1000000 in
theorem nm_ok_m59 : px_okM nm_cl nm_T nm_P nm_W8 nm_EXT "NamesInBags" nm_m59 = true := by decide +kernel
set_option maxRecDepth 1000000 in
theorem nm_ok_m60 : px_okM nm_cl nm_T nm_P nm_W8 nm_EXT "NamesInBags" nm_m60 = true := by decide +kernel
set_option maxRecDepth 1000000 in
theorem nm_ok_m61 : px_okM nm_cl nm_T nm_P nm_W8 nm_EXT "NamesInBags" nm_m61 = true := by decide +kernel
set_option maxRecDepth 1000000 in
theorem nm_ok_m62 : px_okM nm_cl nm_T nm_P nm_W8 nm_EXT "NamesInBags" nm_m62 = true := by decide +kernel
set_option maxRecDepth 1000000 in
theorem nm_ok_m63 : px_okM nm_cl nm_T nm_P nm_W8 nm_EXT "NamesInBags" nm_m63 = true := by decide +kernel
set_option maxRecDepth 1000000 in
theorem nm_ok_m66 : px_okM nm_cl nm_T nm_P nm_W8 nm_EXT "NamesInBags" nm_m66 = true := by decide +kernel
set_option maxRecDepth 1000000 in
theorem nm_ok_m57 : px_okM nm_cl nm_T nm_P nm_W9 nm_EXT "NamesInBags" nm_m57 = true := by decide +kernel
set_option maxRecDepth 1000000 in
theorem nm_ok_m67 : px_okM nm_cl nm_T nm_P nm_W9 nm_EXT "NamesInBags" nm_m67 = true := by decide +kernel
set_option maxRecDepth 1000000 in
theorem nm_ok_m68 : px_okM nm_cl nm_T nm_P nm_W9 nm_EXT "NamesInBags" nm_m68 = true := by decide +kernel
set_option maxRecDepth 1000000 in
theorem nm_ok_m69 : px_okM nm_cl nm_T nm_P nm_W9 nm_EXT "NamesInBags" nm_m69 = true := by decide +kernel
set_option maxRecDepth 1000000 in
theorem nm_ok_m70 : px_okM nm_cl nm_T nm_P nm_W9 nm_EXT "NamesInBags" nm_m70 = true := by decide +kernel
set_option maxRecDepth 1000000 in
theorem nm_ok_m71 : px_okM nm_cl nm_T nm_P nm_W9 nm_EXT "NamesInBags" nm_m71 = true := by decide +kernel
set_option maxRecDepth 1000000 in
theorem nm_ok_m72 : px_okM nm_cl nm_T nm_P nm_W9 nm_EXT "NamesInBags" nm_m72 = true := by decide +kernel
set_option maxRecDepth 1000000 in
theorem nm_ok_m75 : px_okM nm_cl nm_T nm_P nm_W9 nm_EXT "NamesInBags" nm_m75 = true := by decide +kernel
set_option maxRecDepth 1000000 in
theorem nm_ok_m76 : px_okM nm_cl nm_T nm_P nm_W9 nm_EXT "NamesInBags" nm_m76 = true := by decide +kernel
set_option maxRecDepth 1000000 in
theorem nm_ok_m77 : px_okM nm_cl nm_T nm_P nm_W9 nm_EXT "NamesInBags" nm_m77 = true := by decide +kernel
set_option maxRecDepth 1000000 in
theorem nm_ok_m78 : px_okM nm_cl nm_T nm_P nm_W9 nm_EXT "NamesInBags" nm_m78 = true := by decide +kernel
set_option maxRecDepth 1000000 in
theorem nm_ok_m79 : px_okM nm_cl nm_T nm_P nm_W9 nm_EXT "NamesInBags" nm_m79 = true := by decide +kernel
set_option maxRecDepth 1000000 in
theorem nm_ok_m80 : px_okM nm_cl nm_T nm_P nm_W9 nm_EXT "NamesInBags" nm_m80 = true := by decide +kernel
set_option maxRecDepth 1000000 in
theorem nm_ok_m81 : px_okM nm_cl nm_T nm_P nm_W9 nm_EXT "NamesInBags" nm_m81 = true := by decide +kernel
set_option maxRecDepth 1000000 in
theorem nm_ok_m82 : px_okM nm_cl nm_T nm_P nm_W9 nm_EXT "NamesInBags" nm_m82 = true := by decide +kernel
set_option maxRecDepth 1000000 in
theorem nm_ok_m83 : px_okM nm_cl nm_T nm_P nm_W9 nm_EXT "NamesInBags" nm_m83 = true := by decide +kernel
set_option maxRecDepth 1000000 in
theorem nm_ok_m84 : px_okM nm_cl nm_T nm_P nm_W9 nm_EXT "NamesInBags" nm_m84 = true := by decide +kernel
set_option maxRecDepth 1000000 in
theorem nm_ok_m85 : px_okM nm_cl nm_T nm_P nm_W9 nm_EXT "NamesInBags" nm_m85 = true := by decide +kernel
set_option maxRecDepth 1000000 in
theorem nm_ok_m86 : px_okM nm_cl nm_T nm_P nm_W9 nm_EXT "NamesInBags" nm_m86 = true := by decide +kernel
set_option maxRecDepth 1000000 in
theorem nm_ok_m87 : px_okM nm_cl nm_T nm_P nm_W9 nm_EXT "NamesInBags" nm_m87 = true := by decide +kernel
set_option maxRecDepth 1000000 in
theorem nm_ok_m88 : px_okM nm_cl nm_T nm_P nm_W9 nm_EXT "NamesInBags" nm_m88 = true := by decide +kernel
set_option maxRecDepth 1000000 in
theorem nm_ok_m89 : px_okM nm_cl nm_T nm_P nm_W9 nm_EXT "NamesInBags" nm_m89 = true := by decide +kernel
set_option maxRecDepth 1000000 in
theorem nm_ok_m90 : px_okM nm_cl nm_T nm_P nm_W9 nm_EXT "NamesInBags" nm_m90 = true := by decide +kernel
set_option maxRecDepth 1000000 in
theorem nm_ok_m91 : px_okM nm_cl nm_T nm_P nm_W9 nm_EXT "NamesInBags" nm_m91 = true := by decide +kernel
set_option maxRecDepth 1000000 in
theorem nm_ok_m92 : px_okM nm_cl nm_T nm_P nm_W9 nm_EXT "NamesInBags" nm_m92 = true := by decide +kernel
set_option maxRecDepth 1000000 in
theorem nm_ok_m93 : px_okM nm_cl nm_T nm_P nm_W9 nm_EXT "NamesInBags" nm_m93 = true := by decide +kernel
set_option maxRecDepth 1000000 in
theorem nm_ok_m94 : px_okM nm_cl nm_T nm_P nm_W9 nm_EXT "NamesInBags" nm_m94 = true := by decide +kernel
set_option maxRecDepth 1000000 in
theorem nm_ok_m95 : px_okM nm_cl nm_T nm_P nm_W9 nm_EXT "NamesInBags" nm_m95 = true := by decide +kernel
set_option maxRecDepth 1000000 in
theorem nm_ok_m96 : px_okM nm_cl nm_T nm_P nm_W9 nm_EXT "NamesInBags" nm_m96 = true := by decide +kernel
set_option maxRecDepth 1000000 in
theorem nm_ok_m97 : px_okM nm_cl nm_T nm_P nm_W9 nm_EXT "NamesInBags" nm_m97 = true := by decide +kernel
set_option maxRecDepth 1000000 in
theorem nm_ok_m98 : px_okM nm_cl nm_T nm_P nm_W9 nm_EXT "NamesInBags" nm_m98 = true := by decide +kernel
set_option maxRecDepth 1000000 in
theorem nm_ok_m99 : px_okM nm_cl nm_T nm_P nm_W9 nm_EXT "NamesInBags" nm_m99 = true := by decide +kernel
set_option maxRecDepth 1000000 in
theorem nm_ok_m100 : px_okM nm_cl nm_T nm_P nm_W9 nm_EXT "NamesInBags" nm_m100 = true := by decide +kernel
set_option maxRecDepth 1000000 in
theorem nm_ok_m101 : px_okM nm_cl nm_T nm_P nm_W9 nm_EXT "NamesInBags" nm_m101 = true := by decide +kernel
set_option maxRecDepth 1000000 in
theorem nm_ok_m102 : px_okM nm_cl nm_T nm_P nm_W9 nm_EXT "NamesInBags" nm_m102 = true := by decide +kernel
set_option maxRecDepth 1000000 in
theorem nm_ok_m103 : px_okM nm_cl nm_T nm_P nm_W9 nm_EXT "NamesInBags" nm_m103 = true := by decide +kernel
set_option maxRecDepth 1000000 in
theorem nm_ok_m104 : px_okM nm_cl nm_T nm_P nm_W9 nm_EXT "NamesInBags" nm_m104 = true := by decide +kernel
set_option maxRecDepth 1000000 in
theorem nm_ok_m105 : px_okM nm_cl nm_T nm_P nm_W9 nm_EXT "NamesInBags" nm_m105 = true := by decide +kernel
set_option maxRecDepth 1000000 in
theorem nm_ok_m106 : px_okM nm_cl nm_T nm_P nm_W9 nm_EXT "NamesInBags" nm_m106 = true := by decide +kernel
set_option maxRecDepth 1000000 in
theorem nm_ok_m107 : px_okM nm_cl nm_T nm_P nm_W9 nm_EXT "NamesInBags" nm_m107 = true := by decide +kernel
set_option maxRecDepth 1000000 in
theorem nm_ok_m108 : px_okM nm_cl nm_T nm_P nm_W9 nm_EXT "NamesInBags" nm_m108 = true := by decide +kernel
set_option maxRecDepth 1000000 in
theorem nm_ok_m109 : px_okM nm_cl nm_T nm_P nm_W9 nm_EXT "NamesInBags" nm_m109 = true := by decide +kernel
set_option maxRecDepth 1000000 in
theorem nm_ok_m110 : px_okM nm_cl nm_T nm_P nm_W9 nm_EXT "NamesInBags" nm_m110 = true := by decide +kernel
set_option maxRecDepth 1000000 in
theorem nm_ok_m111 : px_okM nm_cl nm_T nm_P nm_W9 nm_EXT "NamesInBags" nm_m111 = true := by decide +kernel
set_option maxRecDepth 1000000 in
theorem nm_ok_m112 : px_okM nm_cl nm_T nm_P nm_W9 nm_EXT "NamesInBags" nm_m112 = true := by decide +kernel
set_option maxRecDepth 1000000 in
theorem nm_ok_m113 : px_okM nm_cl nm_T nm_P nm_W9 nm_EXT "NamesInBags" nm_m113 = true := by decide +kernel
set_option maxRecDepth 1000000 in
theorem nm_ok_m114 : px_okM nm_cl nm_T nm_P nm_W9 nm_EXT "NamesInBags" nm_m114 = true := by decide +kernel
set_option maxRecDepth 1000000 in
theorem nm_ok_m115 : px_okM nm_cl nm_T nm_P nm_W9 nm_EXT "NamesInBags" nm_m115 = true := by decide +kernel
set_option maxRecDepth 1000000 in
theorem nm_ok_m116 : px_okM nm_cl nm_T nm_P nm_W9 nm_EXT "NamesInBags" nm_m116 = true := by decide +kernel
set_option maxRecDepth 1000000 in
theorem nm_ok_m117 : px_okM nm_cl nm_T nm_P nm_W9 nm_EXT "NamesInBags" nm_m117 = true := by decide +kernel
set_option maxRecDepth 1000000 in
theorem nm_ok_m118 : px_okM nm_cl nm_T nm_P nm_W9 nm_EXT "NamesInBags" nm_m118 = true := by decide +kernel
set_option maxRecDepth 1000000 in
theorem nm_ok_m119 : px_okM nm_cl nm_T nm_P nm_W9 nm_EXT "NamesInBags" nm_m119 = true := by decide +kernel
set_option maxRecDepth 1000000 in
theorem nm_ok_m120 : px_okM nm_cl nm_T nm_P nm_W9 nm_EXT "NamesInBags" nm_m120 = true := by decide +kernel
set_option maxRecDepth 1000000 in
theorem nm_ok_m121 : px_okM nm_cl nm_T nm_P nm_W9 nm_EXT "NamesInBags" nm_m121 = true := by decide +kernel
set_option maxRecDepth 1000000 in
theorem nm_ok_m122 : px_okM nm_cl nm_T nm_P nm_W9 nm_EXT "NamesInBags" nm_m122 = true := by decide +kernel
set_option maxRecDepth 1000000 in
theorem nm_ok_m123 : px_okM nm_cl nm_T nm_P nm_W9 nm_EXT "NamesInBags" nm_m123 = true := by decide +kernel
set_option maxRecDepth 1000000 in
theorem nm_ok_m124 : px_okM nm_cl nm_T nm_P nm_W9 nm_EXT "NamesInBags" nm_m124 = true := by decide +kernel
set_option maxRecDepth 1000000 in
theorem nm_ok_m125 : px_okM nm_cl nm_T nm_P nm_W9 nm_EXT "NamesInBags" nm_m125 = true := by decide +kernel
set_option maxRecDepth 1000000 in
theorem nm_ok_m126 : px_okM nm_cl nm_T nm_P nm_W9 nm_EXT "NamesInBags" nm_m126 = true := by decide +kernel
set_option maxRecDepth 1000000 in
theorem nm_ok_m127 : px_okM nm_cl nm_T nm_P nm_W9 nm_EXT "NamesInBags" nm_m127 = true := by decide +kernel
set_option maxRecDepth 1000000 in
theorem nm_ok_m128 : px_okM nm_cl nm_T nm_P nm_W9 nm_EXT "NamesInBags" nm_m128 = true := by decide +kernel
set_option maxRecDepth 1000000 in
theorem nm_ok_m129 : px_okM nm_cl nm_T nm_P nm_W9 nm_EXT "NamesInBags" nm_m129 = true := by decide +kernel
set_option maxRecDepth 1000000 in
theorem nm_ok_m64 : px_okM nm_cl nm_T nm_P nm_W10 nm_EXT "NamesInBags" nm_m64 = true := by decide +kernel
set_option maxRecDepth 1000000 in
theorem nm_ok_m65 : px_okM nm_cl nm_T nm_P nm_W10 nm_EXT "NamesInBags" nm_m65 = true := by decide +kernel
set_option maxRecDepth 1000000 in
theorem nm_ok_m73 : px_okM nm_cl nm_T nm_P nm_W10 nm_EXT "NamesInBags" nm_m73 = true := by decide +kernel
set_option maxRecDepth 1000000 in
theorem nm_ok_m74 : px_okM nm_cl nm_T nm_P nm_W10 nm_EXT "NamesInBags" nm_m74 = true := by decide +kernel
set_option maxRecDepth 1000000 in
theorem nm_ok_m130 : px_okM nm_cl nm_T nm_P nm_W11 nm_EXT "NamesInBags" nm_m130 = true := by decide +kernel
set_option maxRecDepth 1000000 in
theorem nm_ok_m131 : px_okM nm_cl nm_T nm_P nm_W11 nm_EXT "NamesInBags" nm_m131 = true := by decide +kernel
set_option maxRecDepth 1000000 in
theorem nm_ok_m132 : px_okM nm_cl nm_T nm_P nm_W11 nm_EXT "NamesInBags" nm_m132 = true := by decide +kernel
set_option maxRecDepth 1000000 in
theorem nm_ok_m133 : px_okM nm_cl nm_T nm_P nm_W11 nm_EXT "NamesInBags" nm_m133 = true := by decide +kernel
set_option maxRecDepth 1000000 in
theorem nm_ok_m134 : px_okM nm_cl nm_T nm_P nm_W11 nm_EXT "NamesInBags" nm_m134 = true := by decide +kernel
set_option maxRecDepth 1000000 in
theorem nm_ok_m135 : px_okM nm_cl nm_T nm_P nm_W11 nm_EXT "NamesInBags" nm_m135 = true := by decide +kernel
set_option maxRecDepth 1000000 in
theorem nm_ok_m136 : px_okM nm_cl nm_T nm_P nm_W11 nm_EXT "NamesInBags" nm_m136 = true := by decide +kernel
set_option maxRecDepth 1000000 in
theorem nm_ok_m137 : px_okM nm_cl nm_T nm_P nm_W11 nm_EXT "NamesInBags" nm_m137 = true := by decide +kernel
set_option maxRecDepth 1000000 in
theorem nm_ok_m138 : px_okM nm_cl nm_T nm_P nm_W11 nm_EXT "NamesInBags" nm_m138 = true := by decide +kernel
set_option maxRecDepth 1000000 in
theorem nm_ok_m139 : px_okM nm_cl nm_T nm_P nm_W11 nm_EXT "NamesInBags" nm_m139 = true := by decide +kernel
set_option maxRecDepth 1000000 in
theorem nm_ok_m140 : px_okM nm_cl nm_T nm_P nm_W11 nm_EXT "NamesInBags" nm_m140 = true := by decide +kernel
set_option maxRecDepth 1000000 in
theorem nm_ok_m141 : px_okM nm_cl nm_T nm_P nm_W11 nm_EXT "NamesInBags" nm_m141 = true := by decide +kernel
set_option maxRecDepth 1000000 in
theorem nm_ok_m142 : px_okM nm_cl nm_T nm_P nm_W11 nm_EXT "NamesInBags" nm_m142 = true := by decide +kernel
set_option maxRecDepth 1000000 in
theorem nm_ok_m143 : px_okM nm_cl nm_T nm_P nm_W11 nm_EXT "NamesInBags" nm_m143 = true := by decide +kernel
set_option maxRecDepth 1000000 in
theorem nm_ok_m144 : px_okM nm_cl nm_T nm_P nm_W11 nm_EXT "NamesInBags" nm_m144 = true := by decide +kernel
set_option maxRecDepth 1000000 in
theorem nm_ok_m145 : px_okM nm_cl nm_T nm_P nm_W11 nm_EXT "NamesInBags" nm_m145 = true := by decide +kernel
set_option maxRecDepth 1000000 in
theorem nm_ok_m146 : px_okM nm_cl nm_T nm_P nm_W11 nm_EXT "NamesInBags" nm_m146 = true := by decide +kernel
set_option maxRecDepth 1000000 in
theorem nm_ok_m147 : px_okM nm_cl nm_T nm_P nm_W11 nm_EXT "NamesInBags" nm_m147 = true := by decide +kernel
set_option maxRecDepth 1000000 in
theorem nm_ok_m148 : px_okM nm_cl nm_T nm_P nm_W11 nm_EXT "NamesInBags" nm_m148 = true := by decide +kernel
set_option maxRecDepth 1000000 in
theorem nm_ok_m149 : px_okM nm_cl nm_T nm_P nm_W11 nm_EXT "NamesInBags" nm_m149 = true := by decide +kernel
set_option maxRecDepth 1000000 in
theorem nm_ok_m150 : px_okM nm_cl nm_T nm_P nm_W11 nm_EXT "NamesInBags" nm_m150 = true := by decide +kernel
set_option maxRecDepth 1000000 in
theorem nm_ok_m151 : px_okM nm_cl nm_T nm_P nm_W11 nm_EXT "NamesInBags" nm_m151 = true := by decide +kernel
set_option maxRecDepth 1000000 in
theorem nm_ok_m152 : px_okM nm_cl nm_T nm_P nm_W11 nm_EXT "NamesInBags" nm_m152 = true := by decide +kernel
set_option maxRecDepth 1000000 in
theorem nm_ok_m153 : px_okM nm_cl nm_T nm_P nm_W11 nm_EXT "NamesInBags" nm_m153 = true := by decide +kernel
set_option maxRecDepth 1000000 in
theorem nm_ok_m154 : px_okM nm_cl nm_T nm_P nm_W11 nm_EXT "NamesInBags" nm_m154 = true := by decide +kernel
set_option maxRecDepth 1000000 in
theorem nm_ok_m155 : px_okM nm_cl nm_T nm_P nm_W11 nm_EXT "NamesInBags" nm_m155 = true := by decide +kernel
set_option maxRecDepth 1000000 in
theorem nm_ok_m156 : px_okM nm_cl nm_T nm_P nm_W11 nm_EXT "NamesInBags" nm_m156 = true := by decide +kernel
set_option maxRecDepth 1000000 in
theorem nm_ok_m157 : px_okM nm_cl nm_T nm_P nm_W11 nm_EXT "NamesInBags" nm_m157 = true := by decide +kernel
set_option maxRecDepth 1000000 in
theorem nm_ok_m158 : px_okM nm_cl nm_T nm_P nm_W11 nm_EXT "NamesInBags" nm_m158 = true := by decide +kernel
set_option maxRecDepth 1000000 in
theorem nm_ok_m159 : px_okM nm_cl nm_T nm_P nm_W11 nm_EXT "NamesInBags" nm_m159 = true := by decide +kernel
set_option maxRecDepth 1000000 in
theorem nm_ok_m160 : px_okM nm_cl nm_T nm_P nm_W11 nm_EXT "NamesInBags" nm_m160 = true := by decide +kernel
set_option maxRecDepth 1000000 in
theorem nm_ok_m161 : px_okM nm_cl nm_T nm_P nm_W11 nm_EXT "NamesInBags" nm_m161 = true := by decide +kernel
set_option maxRecDepth 1000000 in
theorem nm_ok_m162 : px_okM nm_cl nm_T nm_P nm_W11 nm_EXT "NamesInBags" nm_m162 = true := by decide +kernel
set_option maxRecDepth 1000000 in
theorem nm_ok_m163 : px_okM nm_cl nm_T nm_P nm_W11 nm_EXT "NamesInBags" nm_m163 = true := by decide +kernel
set_option maxRecDepth 1000000 in
theorem nm_ok_m164 : px_okM nm_cl nm_T nm_P nm_W11 nm_EXT "NamesInBags" nm_m164 = true := by decide +kernel
set_option maxRecDepth 1000000 in
theorem nm_ok_m165 : px_okM nm_cl nm_T nm_P nm_W11 nm_EXT "NamesInBags" nm_m165 = true := by decide +kernel
set_option maxRecDepth 1000000 in
theorem nm_ok_m166 : px_okM nm_cl nm_T nm_P nm_W11 nm_EXT "NamesInBags" nm_m166 = true := by decide +kernel
set_option maxRecDepth 1000000 in
theorem nm_ok_m167 : px_okM nm_cl nm_T nm_P nm_W11 nm_EXT "NamesInBags" nm_m167 = true := by decide +kernel
set_option maxRecDepth 1000000 in
theorem nm_ok_m168 : px_okM nm_cl nm_T nm_P nm_W11 nm_EXT "NamesInBags" nm_m168 = true := by decide +kernel
set_option maxRecDepth 1000000 in
theorem nm_ok_m169 : px_okM nm_cl nm_T nm_P nm_W11 nm_EXT "NamesInBags" nm_m169 = true := by decide +kernel
set_option maxRecDepth 1000000 in
theorem nm_ok_m170 : px_okM nm_cl nm_T nm_P nm_W11 nm_EXT "NamesInBags" nm_m170 = true := by decide +kernel
set_option maxRecDepth 1000000 in
theorem nm_ok_m171 : px_okM nm_cl nm_T nm_P nm_W11 nm_EXT "NamesInBags" nm_m171 = true := by decide +kernel
set_option maxRecDepth 1000000 in
theorem nm_ok_m172 : px_okM nm_cl nm_T nm_P nm_W11 nm_EXT "NamesInBags" nm_m172 = true := by decide +kernel
set_option maxRecDepth 1000000 in
theorem nm_ok_m173 : px_okM nm_cl nm_T nm_P nm_W11 nm_EXT "NamesInBags" nm_m173 = true := by decide +kernel
set_option maxRecDepth 1000000 in
theorem nm_ok_m174 : px_okM nm_cl nm_T nm_P nm_W11 nm_EXT "NamesInBags" nm_m174 = true := by decide +kernel
set_option maxRecDepth 1000000 in
theorem nm_ok_m175 : px_okM nm_cl nm_T nm_P nm_W11 nm_EXT "NamesInBags" nm_m175 = true := by decide +kernel
set_option maxRecDepth 1000000 in
theorem nm_ok_m176 : px_okM nm_cl nm_T nm_P nm_W11 nm_EXT "NamesInBags" nm_m176 = true := by decide +kernel
set_option maxRecDepth 1000000 in
theorem nm_ok_m177 : px_okM nm_cl nm_T nm_P nm_W11 nm_EXT "NamesInBags" nm_m177 = true := by decide +kernel
set_option maxRecDepth 1000000 in
theorem nm_ok_m178 : px_okM nm_cl nm_T nm_P nm_W11 nm_EXT "NamesInBags" nm_m178 = true := by decide +kernel
set_option maxRecDepth 1000000 in
theorem nm_ok_m179 : px_okM nm_cl nm_T nm_P nm_W11 nm_EXT "NamesInBags" nm_m179 = true := by decide +kernel
set_option maxRecDepth 1000000 in
theorem nm_ok_m180 : px_okM nm_cl nm_T nm_P nm_W11 nm_EXT "NamesInBags" nm_m180 = true := by decide +kernel
set_option maxRecDepth 1000000 in
theorem nm_ok_m181 : px_okM nm_cl nm_T nm_P nm_W11 nm_EXT "NamesInBags" nm_m181 = true := by decide +kernel
set_option maxRecDepth 1000000 in
theorem nm_ok_m182 : px_okM nm_cl nm_T nm_P nm_W11 nm_EXT "NamesInBags" nm_m182 = true := by decide +kernel
set_option maxRecDepth 1000000 in
theorem nm_ok_m183 : px_okM nm_cl nm_T nm_P nm_W11 nm_EXT "NamesInBags" nm_m183 = true := by decide +kernel
set_option maxRecDepth 1000000 in
theorem nm_ok_m184 : px_okM nm_cl nm_T nm_P nm_W11 nm_EXT "NamesInBags" nm_m184 = true := by decide +kernel
set_option maxRecDepth 1000000 in
theorem nm_ok_m185 : px_okM nm_cl nm_T nm_P nm_W11 nm_EXT "NamesInBags" nm_m185 = true := by decide +kernel
set_option maxRecDepth 1000000 in
theorem nm_ok_m186 : px_okM nm_cl nm_T nm_P nm_W11 nm_EXT "NamesInBags" nm_m186 = true := by decide +kernel
set_option maxRecDepth 1000000 in
theorem nm_ok_m187 : px_okM nm_cl nm_T nm_P nm_W11 nm_EXT "NamesInBags" nm_m187 = true := by decide +kernel
set_option maxRecDepth 1000000 in
theorem nm_ok_m188 : px_okM nm_cl nm_T nm_P nm_W11 nm_EXT "NamesInBags" nm_m188 = true := by decide +kernel
set_option maxRecDepth 1000000 in
theorem nm_ok_m189 : px_okM nm_cl nm_T nm_P nm_W11 nm_EXT "NamesInBags" nm_m189 = true := by decide +kernel
set_option maxRecDepth 1000000 in
theorem nm_ok_m190 : px_okM nm_cl nm_T nm_P nm_W11 nm_EXT "NamesInBags" nm_m190 = true := by decide +kernel
set_option maxRecDepth 1000000 in
theorem nm_ok_m191 : px_okM nm_cl nm_T nm_P nm_W11 nm_EXT "NamesInBags" nm_m191 = true := by decide +kernel
set_option maxRecDepth 1000000 in
theorem nm_ok_m192 : px_okM nm_cl nm_T nm_P nm_W11 nm_EXT "NamesInBags" nm_m192 = true := by decide +kernel
set_option maxRecDepth 1000000 in
theorem nm_ok_m193 : px_okM nm_cl nm_T nm_P nm_W11 nm_EXT "NamesInBags" nm_m193 = true := by decide +kernel
set_option maxRecDepth 1000000 in
theorem nm_ok_m194 : px_okM nm_cl nm_T nm_P nm_W11 nm_EXT "NamesInBags" nm_m194 = true := by decide +kernel
set_option maxRecDepth 1000000 in
theorem nm_ok_m195 : px_okM nm_cl nm_T nm_P nm_W11 nm_EXT "NamesInBags" nm_m195 = true := by decide +kernel
set_option maxRecDepth 1000000 in
theorem nm_ok_m196 : px_okM nm_cl nm_T nm_P nm_W11 nm_EXT "NamesInBags" nm_m196 = true := by decide +kernel
set_option maxRecDepth 1000000 in
theorem nm_ok_m197 : px_okM nm_cl nm_T nm_P nm_W11 nm_EXT "NamesInBags" nm_m197 = true := by decide +kernel
set_option maxRecDepth 1000000 in
theorem nm_ok_m198 : px_okM nm_cl nm_T nm_P nm_W11 nm_EXT "NamesInBags" nm_m198 = true := by decide +kernel
set_option maxRecDepth 1000000 in
theorem nm_ok_m199 : px_okM nm_cl nm_T nm_P nm_W11 nm_EXT "NamesInBags" nm_m199 = true := by decide +kernel
set_option maxRecDepth 1000000 in
theorem nm_ok_m200 : px_okM nm_cl nm_T nm_P nm_W11 nm_EXT "NamesInBags" nm_m200 = true := by decide +kernel
set_option maxRecDepth 1000000 in
theorem nm_ok_m201 : px_okM nm_cl nm_T nm_P nm_W11 nm_EXT "NamesInBags" nm_m201 = true := by decide +kernel
set_option maxRecDepth 1000000 in
theorem nm_ok_m202 : px_okM nm_cl nm_T nm_P nm_W11 nm_EXT "NamesInBags" nm_m202 = true := by decide +kernel
set_option maxRecDepth 1000000 in
theorem nm_ok_m203 : px_okM nm_cl nm_T nm_P nm_W11 nm_EXT "NamesInBags" nm_m203 = true := by decide +kernel
set_option maxRecDepth 1000000 in
theorem nm_ok_m204 : px_okM nm_cl nm_T nm_P nm_W11 nm_EXT "NamesInBags" nm_m204 = true := by decide +kernel
set_option maxRecDepth 1000000 in
theorem nm_ok_m205 : px_okM nm_cl nm_T nm_P nm_W11 nm_EXT "NamesInBags" nm_m205 = true := by decide +kernel
set_option maxRecDepth 1000000 in
theorem nm_ok_m206 : px_okM nm_cl nm_T nm_P nm_W11 nm_EXT "NamesInBags" nm_m206 = true := by decide +kernel
set_option maxRecDepth 1000000 in
theorem nm_ok_m207 : px_okM nm_cl nm_T nm_P nm_W11 nm_EXT "NamesInBags" nm_m207 = true := by decide +kernel
set_option maxRecDepth 1000000 in
theorem nm_ok_m208 : px_okM nm_cl nm_T nm_P nm_W11 nm_EXT "NamesInBags" nm_m208 = true := by decide +kernel
set_option maxRecDepth 1000000 in
theorem nm_ok_m209 : px_okM nm_cl nm_T nm_P nm_W11 nm_EXT "NamesInBags" nm_m209 = true := by decide +kernel
set_option maxRecDepth 1000000 in
theorem nm_ok_m210 : px_okM nm_cl nm_T nm_P nm_W11 nm_EXT "NamesInBags" nm_m210 = true := by decide +kernel
set_option maxRecDepth 1000000 in
theorem nm_ok_m211 : px_okM nm_cl nm_T nm_P nm_W11 nm_EXT "NamesInBags" nm_m211 = true := by decide +kernel
set_option maxRecDepth 1000000 in
theorem nm_ok_m212 : px_okM nm_cl nm_T nm_P nm_W11 nm_EXT "NamesInBags" nm_m212 = true := by decide +kernel
set_option maxRecDepth 1000000 in
theorem nm_ok_m213 : px_okM nm_cl nm_T nm_P nm_W11 nm_EXT "NamesInBags" nm_m213 = true := by decide +kernel
set_option maxRecDepth 1000000 in
theorem nm_ok_m214 : px_okM nm_cl nm_T nm_P nm_W11 nm_EXT "NamesInBags" nm_m214 = true := by decide +kernel
set_option maxRecDepth 1000000 in
theorem nm_ok_m215 : px_okM nm_cl nm_T nm_P nm_W11 nm_EXT "NamesInBags" nm_m215 = true := by decide +kernel
set_option maxRecDepth 1000000 in
theorem nm_ok_m216 : px_okM nm_cl nm_T nm_P nm_W11 nm_EXT "NamesInBags" nm_m216 = true := by decide +kernel
set_option maxRecDepth 1000000 in
theorem nm_ok_m217 : px_okM nm_cl nm_T nm_P nm_W11 nm_EXT "NamesInBags" nm_m217 = true := by decide +kernel
set_option maxRecDepth 1000000 in
theorem nm_ok_m218 : px_okM nm_cl nm_T nm_P nm_W11 nm_EXT "NamesInBags" nm_m218 = true := by decide +kernel
set_option maxRecDepth 1000000 in
theorem nm_ok_m219 : px_okM nm_cl nm_T nm_P nm_W11 nm_EXT "NamesInBags" nm_m219 = true := by decide +kernel
set_option maxRecDepth 1000000 in
theorem nm_ok_m220 : px_okM nm_cl nm_T nm_P nm_W11 nm_EXT "NamesInBags" nm_m220 = true := by decide +kernel
set_option maxRecDepth 1000000 in
theorem nm_ok_m221 : px_okM nm_cl nm_T nm_P nm_W11 nm_EXT "NamesInBags" nm_m221 = true := by decide +kernel
set_option maxRecDepth 1000000 in
theorem nm_ok_m222 : px_okM nm_cl nm_T nm_P nm_W11 nm_EXT "NamesInBags" nm_m222 = true := by decide +kernel
set_option maxRecDepth 1000000 in
theorem nm_ok_m223 : px_okM nm_cl nm_T nm_P nm_W11 nm_EXT "NamesInBags" nm_m223 = true := by decide +kernel
set_option maxRecDepth 1000000 in
theorem nm_ok_m224 : px_okM nm_cl nm_T nm_P nm_W11 nm_EXT "NamesInBags" nm_m224 = true := by decide +kernel
set_option maxRecDepth 1000000 in
theorem nm_ok_m225 : px_okM nm_cl nm_T nm_P nm_W11 nm_EXT "NamesInBags" nm_m225 = true := by decide +kernel
set_option maxRecDepth 1000000 in
theorem nm_ok_m226 : px_okM nm_cl nm_T nm_P nm_W11 nm_EXT "NamesInBags" nm_m226 = true := by decide +kernel
set_option maxRecDepth 1000000 in
theorem nm_ok_m227 : px_okM nm_cl nm_T nm_P nm_W11 nm_EXT "NamesInBags" nm_m227 = true := by decide +kernel
set_option maxRecDepth 1000000 in
theorem nm_ok_m228 : px_okM nm_cl nm_T nm_P nm_W11 nm_EXT "NamesInBags" nm_m228 = true := by decide +kernel
set_option maxRecDepth 1000000 in
theorem nm_ok_law : px_okM nm_cl nm_T nm_P nm_W12 nm_EXT "NamesInBags" nm_law = true := by decide +kernel
