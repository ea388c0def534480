set_option maxRecDepth 1000000 in
theorem nm_ok_m61 : px_okM nm_cl nm_T nm_P nm_C8 nm_CE nm_mf 8 0 7 nm_m61 = true := px_okM2_ok (by decide +kernel)
set_option maxRecDepth 1000000 in
theorem nm_ok_m62 : px_okM nm_cl nm_T nm_P nm_C8 nm_CE nm_mf 8 0 7 nm_m62 = true := px_okM2_ok (by decide +kernel)
set_option maxRecDepth 1000000 in
theorem nm_ok_m63 : px_okM nm_cl nm_T nm_P nm_C8 nm_CE nm_mf 8 0 7 nm_m63 = true := px_okM2_ok (by decide +kernel)
set_option maxRecDepth 1000000 in
theorem nm_ok_m64 : px_okM nm_cl nm_T nm_P nm_C8 nm_CE nm_mf 8 0 7 nm_m64 = true := px_okM2_ok (by decide +kernel)
set_option maxRecDepth 1000000 in
theorem nm_ok_m57 : px_okM nm_cl nm_T nm_P nm_C9 nm_CE nm_mf 9 0 8 nm_m57 = true := px_okM2_ok (by decide +kernel)
set_option maxRecDepth 1000000 in
theorem nm_ok_m65 : px_okM nm_cl nm_T nm_P nm_C9 nm_CE nm_mf 9 2 8 nm_m65 = true := px_okM2_ok (by decide +kernel)
set_option maxRecDepth 1000000 in
theorem nm_ok_m66 : px_okM nm_cl nm_T nm_P nm_C9 nm_CE nm_mf 9 0 8 nm_m66 = true := px_okM2_ok (by decide +kernel)
set_option maxRecDepth 1000000 in
theorem nm_ok_m67 : px_okM nm_cl nm_T nm_P nm_C9 nm_CE nm_mf 9 0 8 nm_m67 = true := px_okM2_ok (by decide +kernel)
set_option maxRecDepth 1000000 in
theorem nm_ok_m68 : px_okM nm_cl nm_T nm_P nm_C9 nm_CE nm_mf 9 0 8 nm_m68 = true := px_okM2_ok (by decide +kernel)
set_option maxRecDepth 1000000 in
theorem nm_ok_m69 : px_okM nm_cl nm_T nm_P nm_C9 nm_CE nm_mf 9 0 8 nm_m69 = true := px_okM2_ok (by decide +kernel)
set_option maxRecDepth 1000000 in
theorem nm_ok_m70 : px_okM nm_cl nm_T nm_P nm_C9 nm_CE nm_mf 9 0 8 nm_m70 = true := px_okM2_ok (by decide +kernel)
set_option maxRecDepth 1000000 in
theorem nm_ok_m71 : px_okM nm_cl nm_T nm_P nm_C9 nm_CE nm_mf 9 0 8 nm_m71 = true := px_okM2_ok (by decide +kernel)
set_option maxRecDepth 1000000 in
theorem nm_ok_m72 : px_okM nm_cl nm_T nm_P nm_C9 nm_CE nm_mf 9 0 8 nm_m72 = true := px_okM2_ok (by decide +kernel)
set_option maxRecDepth 1000000 in
theorem nm_ok_m73 : px_okM nm_cl nm_T nm_P nm_C9 nm_CE nm_mf 9 0 8 nm_m73 = true := px_okM2_ok (by decide +kernel)
set_option maxRecDepth 1000000 in
theorem nm_ok_m74 : px_okM nm_cl nm_T nm_P nm_C9 nm_CE nm_mf 9 0 8 nm_m74 = true := px_okM2_ok (by decide +kernel)
set_option maxRecDepth 1000000 in
theorem nm_ok_m75 : px_okM nm_cl nm_T nm_P nm_C9 nm_CE nm_mf 9 0 8 nm_m75 = true := px_okM2_ok (by decide +kernel)
set_option maxRecDepth 1000000 in
theorem nm_ok_m76 : px_okM nm_cl nm_T nm_P nm_C9 nm_CE nm_mf 9 0 8 nm_m76 = true := px_okM2_ok (by decide +kernel)
set_option maxRecDepth 1000000 in
theorem nm_ok_m77 : px_okM nm_cl nm_T nm_P nm_C9 nm_CE nm_mf 9 0 8 nm_m77 = true := px_okM2_ok (by decide +kernel)
set_option maxRecDepth 1000000 in
theorem nm_ok_m78 : px_okM nm_cl nm_T nm_P nm_C9 nm_CE nm_mf 9 0 8 nm_m78 = true := px_okM2_ok (by decide +kernel)
set_option maxRecDepth 1000000 in
theorem nm_ok_m79 : px_okM nm_cl nm_T nm_P nm_C9 nm_CE nm_mf 9 0 8 nm_m79 = true := px_okM2_ok (by decide +kernel)
set_option maxRecDepth 1000000 in
theorem nm_ok_m80 : px_okM nm_cl nm_T nm_P nm_C9 nm_CE nm_mf 9 0 8 nm_m80 = true := px_okM2_ok (by decide +kernel)
set_option maxRecDepth 1000000 in
theorem nm_ok_m81 : px_okM nm_cl nm_T nm_P nm_C9 nm_CE nm_mf 9 0 8 nm_m81 = true := px_okM2_ok (by decide +kernel)
set_option maxRecDepth 1000000 in
theorem nm_ok_m82 : px_okM nm_cl nm_T nm_P nm_C9 nm_CE nm_mf 9 0 8 nm_m82 = true := px_okM2_ok (by decide +kernel)
set_option maxRecDepth 1000000 in
theorem nm_ok_m83 : px_okM nm_cl nm_T nm_P nm_C9 nm_CE nm_mf 9 0 8 nm_m83 = true := px_okM2_ok (by decide +kernel)
set_option maxRecDepth 1000000 in
theorem nm_ok_m84 : px_okM nm_cl nm_T nm_P nm_C9 nm_CE nm_mf 9 0 8 nm_m84 = true := px_okM2_ok (by decide +kernel)
set_option maxRecDepth 1000000 in
theorem nm_ok_m85 : px_okM nm_cl nm_T nm_P nm_C9 nm_CE nm_mf 9 0 8 nm_m85 = true := px_okM2_ok (by decide +kernel)
set_option maxRecDepth 1000000 in
theorem nm_ok_m86 : px_okM nm_cl nm_T nm_P nm_C9 nm_CE nm_mf 9 0 8 nm_m86 = true := px_okM2_ok (by decide +kernel)
set_option maxRecDepth 1000000 in
theorem nm_ok_m87 : px_okM nm_cl nm_T nm_P nm_C9 nm_CE nm_mf 9 0 8 nm_m87 = true := px_okM2_ok (by decide +kernel)
set_option maxRecDepth 1000000 in
theorem nm_ok_m88 : px_okM nm_cl nm_T nm_P nm_C9 nm_CE nm_mf 9 0 8 nm_m88 = true := px_okM2_ok (by decide +kernel)
set_option maxRecDepth 1000000 in
theorem nm_ok_m89 : px_okM nm_cl nm_T nm_P nm_C9 nm_CE nm_mf 9 0 8 nm_m89 = true := px_okM2_ok (by decide +kernel)
set_option maxRecDepth 1000000 in
theorem nm_ok_m90 : px_okM nm_cl nm_T nm_P nm_C9 nm_CE nm_mf 9 0 8 nm_m90 = true := px_okM2_ok (by decide +kernel)
set_option maxRecDepth 1000000 in
theorem nm_ok_m91 : px_okM nm_cl nm_T nm_P nm_C9 nm_CE nm_mf 9 0 8 nm_m91 = true := px_okM2_ok (by decide +kernel)
set_option maxRecDepth 1000000 in
theorem nm_ok_m92 : px_okM nm_cl nm_T nm_P nm_C9 nm_CE nm_mf 9 0 8 nm_m92 = true := px_okM2_ok (by decide +kernel)
set_option maxRecDepth 1000000 in
theorem nm_ok_m93 : px_okM nm_cl nm_T nm_P nm_C9 nm_CE nm_mf 9 0 8 nm_m93 = true := px_okM2_ok (by decide +kernel)
set_option maxRecDepth 1000000 in
theorem nm_ok_m94 : px_okM nm_cl nm_T nm_P nm_C9 nm_CE nm_mf 9 0 8 nm_m94 = true := px_okM2_ok (by decide +kernel)
set_option maxRecDepth 1000000 in
theorem nm_ok_m95 : px_okM nm_cl nm_T nm_P nm_C9 nm_CE nm_mf 9 0 8 nm_m95 = true := px_okM2_ok (by decide +kernel)
set_option maxRecDepth 1000000 in
theorem nm_ok_m96 : px_okM nm_cl nm_T nm_P nm_C9 nm_CE nm_mf 9 0 8 nm_m96 = true := px_okM2_ok (by decide +kernel)
set_option maxRecDepth 1000000 in
theorem nm_ok_m97 : px_okM nm_cl nm_T nm_P nm_C9 nm_CE nm_mf 9 0 8 nm_m97 = true := px_okM2_ok (by decide +kernel)
set_option maxRecDepth 1000000 in
theorem nm_ok_m98 : px_okM nm_cl nm_T nm_P nm_C9 nm_CE nm_mf 9 0 8 nm_m98 = true := px_okM2_ok (by decide +kernel)
set_option maxRecDepth 1000000 in
theorem nm_ok_m99 : px_okM nm_cl nm_T nm_P nm_C9 nm_CE nm_mf 9 0 8 nm_m99 = true := px_okM2_ok (by decide +kernel)
set_option maxRecDepth 1000000 in
theorem nm_ok_m100 : px_okM nm_cl nm_T nm_P nm_C9 nm_CE nm_mf 9 0 8 nm_m100 = true := px_okM2_ok (by decide +kernel)
set_option maxRecDepth 1000000 in
theorem nm_ok_m101 : px_okM nm_cl nm_T nm_P nm_C9 nm_CE nm_mf 9 0 8 nm_m101 = true := px_okM2_ok (by decide +kernel)
set_option maxRecDepth 1000000 in
theorem nm_ok_m102 : px_okM nm_cl nm_T nm_P nm_C9 nm_CE nm_mf 9 0 8 nm_m102 = true := px_okM2_ok (by decide +kernel)
set_option maxRecDepth 1000000 in
theorem nm_ok_m103 : px_okM nm_cl nm_T nm_P nm_C9 nm_CE nm_mf 9 0 8 nm_m103 = true := px_okM2_ok (by decide +kernel)
set_option maxRecDepth 1000000 in
theorem nm_ok_m104 : px_okM nm_cl nm_T nm_P nm_C9 nm_CE nm_mf 9 0 8 nm_m104 = true := px_okM2_ok (by decide +kernel)
set_option maxRecDepth 1000000 in
theorem nm_ok_m105 : px_okM nm_cl nm_T nm_P nm_C9 nm_CE nm_mf 9 0 8 nm_m105 = true := px_okM2_ok (by decide +kernel)
set_option maxRecDepth 1000000 in
theorem nm_ok_m106 : px_okM nm_cl nm_T nm_P nm_C9 nm_CE nm_mf 9 0 8 nm_m106 = true := px_okM2_ok (by decide +kernel)
set_option maxRecDepth 1000000 in
theorem nm_ok_m107 : px_okM nm_cl nm_T nm_P nm_C9 nm_CE nm_mf 9 0 8 nm_m107 = true := px_okM2_ok (by decide +kernel)
set_option maxRecDepth 1000000 in
theorem nm_ok_m108 : px_okM nm_cl nm_T nm_P nm_C9 nm_CE nm_mf 9 0 8 nm_m108 = true := px_okM2_ok (by decide +kernel)
set_option maxRecDepth 1000000 in
theorem nm_ok_m109 : px_okM nm_cl nm_T nm_P nm_C9 nm_CE nm_mf 9 0 8 nm_m109 = true := px_okM2_ok (by decide +kernel)
set_option maxRecDepth 1000000 in
theorem nm_ok_m110 : px_okM nm_cl nm_T nm_P nm_C9 nm_CE nm_mf 9 0 8 nm_m110 = true := px_okM2_ok (by decide +kernel)
set_option maxRecDepth 1000000 in
theorem nm_ok_m111 : px_okM nm_cl nm_T nm_P nm_C9 nm_CE nm_mf 9 0 8 nm_m111 = true := px_okM2_ok (by decide +kernel)
set_option maxRecDepth 1000000 in
theorem nm_ok_m112 : px_okM nm_cl nm_T nm_P nm_C9 nm_CE nm_mf 9 0 8 nm_m112 = true := px_okM2_ok (by decide +kernel)
set_option maxRecDepth 1000000 in
theorem nm_ok_m113 : px_okM nm_cl nm_T nm_P nm_C9 nm_CE nm_mf 9 0 8 nm_m113 = true := px_okM2_ok (by decide +kernel)
set_option maxRecDepth 1000000 in
theorem nm_ok_m114 : px_okM nm_cl nm_T nm_P nm_C9 nm_CE nm_mf 9 0 8 nm_m114 = true := px_okM2_ok (by decide +kernel)
set_option maxRecDepth 1000000 in
theorem nm_ok_m115 : px_okM nm_cl nm_T nm_P nm_C9 nm_CE nm_mf 9 0 8 nm_m115 = true := px_okM2_ok (by decide +kernel)
set_option maxRecDepth 1000000 in
theorem nm_ok_m116 : px_okM nm_cl nm_T nm_P nm_C9 nm_CE nm_mf 9 0 8 nm_m116 = true := px_okM2_ok (by decide +kernel)
set_option maxRecDepth 1000000 in
theorem nm_ok_m117 : px_okM nm_cl nm_T nm_P nm_C9 nm_CE nm_mf 9 0 8 nm_m117 = true := px_okM2_ok (by decide +kernel)
set_option maxRecDepth 1000000 in
theorem nm_ok_m118 : px_okM nm_cl nm_T nm_P nm_C9 nm_CE nm_mf 9 0 8 nm_m118 = true := px_okM2_ok (by decide +kernel)
set_option maxRecDepth 1000000 in
theorem nm_ok_m119 : px_okM nm_cl nm_T nm_P nm_C9 nm_CE nm_mf 9 0 8 nm_m119 = true := px_okM2_ok (by decide +kernel)
