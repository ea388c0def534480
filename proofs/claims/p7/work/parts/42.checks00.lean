set_option maxRecDepth 1000000 in
theorem nm_ok_m0 : px_okM nm_cl nm_T nm_P nm_C0 nm_CE nm_mf 0 2 0 nm_m0 = true := px_okM2_ok (by decide +kernel)
set_option maxRecDepth 1000000 in
theorem nm_ok_m1 : px_okM nm_cl nm_T nm_P nm_C0 nm_CE nm_mf 0 0 0 nm_m1 = true := px_okM2_ok (by decide +kernel)
set_option maxRecDepth 1000000 in
theorem nm_ok_m2 : px_okM nm_cl nm_T nm_P nm_C0 nm_CE nm_mf 0 0 0 nm_m2 = true := px_okM2_ok (by decide +kernel)
set_option maxRecDepth 1000000 in
theorem nm_ok_m3 : px_okM nm_cl nm_T nm_P nm_C0 nm_CE nm_mf 0 0 0 nm_m3 = true := px_okM2_ok (by decide +kernel)
set_option maxRecDepth 1000000 in
theorem nm_ok_m4 : px_okM nm_cl nm_T nm_P nm_C0 nm_CE nm_mf 0 0 0 nm_m4 = true := px_okM2_ok (by decide +kernel)
set_option maxRecDepth 1000000 in
theorem nm_ok_m5 : px_okM nm_cl nm_T nm_P nm_C0 nm_CE nm_mf 0 0 0 nm_m5 = true := px_okM2_ok (by decide +kernel)
set_option maxRecDepth 1000000 in
theorem nm_ok_m10 : px_okM nm_cl nm_T nm_P nm_C0 nm_CE nm_mf 0 0 0 nm_m10 = true := px_okM2_ok (by decide +kernel)
set_option maxRecDepth 1000000 in
theorem nm_ok_m12 : px_okM nm_cl nm_T nm_P nm_C0 nm_CE nm_mf 0 0 0 nm_m12 = true := px_okM2_ok (by decide +kernel)
set_option maxRecDepth 1000000 in
theorem nm_ok_m13 : px_okM nm_cl nm_T nm_P nm_C0 nm_CE nm_mf 0 0 0 nm_m13 = true := px_okM2_ok (by decide +kernel)
set_option maxRecDepth 1000000 in
theorem nm_ok_m14 : px_okM nm_cl nm_T nm_P nm_C0 nm_CE nm_mf 0 0 0 nm_m14 = true := px_okM2_ok (by decide +kernel)
set_option maxRecDepth 1000000 in
theorem nm_ok_m6 : px_okM nm_cl nm_T nm_P nm_C1 nm_CE nm_mf 1 0 1 nm_m6 = true := px_okM2_ok (by decide +kernel)
set_option maxRecDepth 1000000 in
theorem nm_ok_m7 : px_okM nm_cl nm_T nm_P nm_C1 nm_CE nm_mf 1 0 1 nm_m7 = true := px_okM2_ok (by decide +kernel)
set_option maxRecDepth 1000000 in
theorem nm_ok_m8 : px_okM nm_cl nm_T nm_P nm_C1 nm_CE nm_mf 1 0 1 nm_m8 = true := px_okM2_ok (by decide +kernel)
set_option maxRecDepth 1000000 in
theorem nm_ok_m9 : px_okM nm_cl nm_T nm_P nm_C1 nm_CE nm_mf 1 0 1 nm_m9 = true := px_okM2_ok (by decide +kernel)
set_option maxRecDepth 1000000 in
theorem nm_ok_m16 : px_okM nm_cl nm_T nm_P nm_C1 nm_CE nm_mf 1 2 1 nm_m16 = true := px_okM2_ok (by decide +kernel)
set_option maxRecDepth 1000000 in
theorem nm_ok_m17 : px_okM nm_cl nm_T nm_P nm_C1 nm_CE nm_mf 1 0 1 nm_m17 = true := px_okM2_ok (by decide +kernel)
set_option maxRecDepth 1000000 in
theorem nm_ok_m23 : px_okM nm_cl nm_T nm_P nm_C1 nm_CE nm_mf 1 0 1 nm_m23 = true := px_okM2_ok (by decide +kernel)
set_option maxRecDepth 1000000 in
theorem nm_ok_m24 : px_okM nm_cl nm_T nm_P nm_C1 nm_CE nm_mf 1 0 1 nm_m24 = true := px_okM2_ok (by decide +kernel)
set_option maxRecDepth 1000000 in
theorem nm_ok_m25 : px_okM nm_cl nm_T nm_P nm_C1 nm_CE nm_mf 1 0 1 nm_m25 = true := px_okM2_ok (by decide +kernel)
set_option maxRecDepth 1000000 in
theorem nm_ok_m11 : px_okM nm_cl nm_T nm_P nm_C2 nm_CE nm_mf 2 0 0 nm_m11 = true := px_okM2_ok (by decide +kernel)
set_option maxRecDepth 1000000 in
theorem nm_ok_m15 : px_okM nm_cl nm_T nm_P nm_C3 nm_CE nm_mf 3 2 3 nm_m15 = true := px_okM2_ok (by decide +kernel)
set_option maxRecDepth 1000000 in
theorem nm_ok_m30 : px_okM nm_cl nm_T nm_P nm_C3 nm_CE nm_mf 3 0 3 nm_m30 = true := px_okM2_ok (by decide +kernel)
set_option maxRecDepth 1000000 in
theorem nm_ok_m18 : px_okM nm_cl nm_T nm_P nm_C4 nm_CE nm_mf 4 0 6 nm_m18 = true := px_okM2_ok (by decide +kernel)
set_option maxRecDepth 1000000 in
theorem nm_ok_m19 : px_okM nm_cl nm_T nm_P nm_C4 nm_CE nm_mf 4 0 6 nm_m19 = true := px_okM2_ok (by decide +kernel)
set_option maxRecDepth 1000000 in
theorem nm_ok_m20 : px_okM nm_cl nm_T nm_P nm_C4 nm_CE nm_mf 4 0 6 nm_m20 = true := px_okM2_ok (by decide +kernel)
set_option maxRecDepth 1000000 in
theorem nm_ok_m21 : px_okM nm_cl nm_T nm_P nm_C4 nm_CE nm_mf 4 0 6 nm_m21 = true := px_okM2_ok (by decide +kernel)
set_option maxRecDepth 1000000 in
theorem nm_ok_m22 : px_okM nm_cl nm_T nm_P nm_C4 nm_CE nm_mf 4 0 6 nm_m22 = true := px_okM2_ok (by decide +kernel)
set_option maxRecDepth 1000000 in
theorem nm_ok_m41 : px_okM nm_cl nm_T nm_P nm_C4 nm_CE nm_mf 4 2 6 nm_m41 = true := px_okM2_ok (by decide +kernel)
set_option maxRecDepth 1000000 in
theorem nm_ok_m42 : px_okM nm_cl nm_T nm_P nm_C4 nm_CE nm_mf 4 0 6 nm_m42 = true := px_okM2_ok (by decide +kernel)
set_option maxRecDepth 1000000 in
theorem nm_ok_m43 : px_okM nm_cl nm_T nm_P nm_C4 nm_CE nm_mf 4 0 6 nm_m43 = true := px_okM2_ok (by decide +kernel)
set_option maxRecDepth 1000000 in
theorem nm_ok_m44 : px_okM nm_cl nm_T nm_P nm_C4 nm_CE nm_mf 4 0 6 nm_m44 = true := px_okM2_ok (by decide +kernel)
set_option maxRecDepth 1000000 in
theorem nm_ok_m45 : px_okM nm_cl nm_T nm_P nm_C4 nm_CE nm_mf 4 0 6 nm_m45 = true := px_okM2_ok (by decide +kernel)
set_option maxRecDepth 1000000 in
theorem nm_ok_m46 : px_okM nm_cl nm_T nm_P nm_C4 nm_CE nm_mf 4 0 6 nm_m46 = true := px_okM2_ok (by decide +kernel)
set_option maxRecDepth 1000000 in
theorem nm_ok_m47 : px_okM nm_cl nm_T nm_P nm_C4 nm_CE nm_mf 4 0 6 nm_m47 = true := px_okM2_ok (by decide +kernel)
set_option maxRecDepth 1000000 in
theorem nm_ok_m26 : px_okM nm_cl nm_T nm_P nm_C5 nm_CE nm_mf 5 2 2 nm_m26 = true := px_okM2_ok (by decide +kernel)
set_option maxRecDepth 1000000 in
theorem nm_ok_m27 : px_okM nm_cl nm_T nm_P nm_C5 nm_CE nm_mf 5 0 2 nm_m27 = true := px_okM2_ok (by decide +kernel)
set_option maxRecDepth 1000000 in
theorem nm_ok_m28 : px_okM nm_cl nm_T nm_P nm_C5 nm_CE nm_mf 5 0 2 nm_m28 = true := px_okM2_ok (by decide +kernel)
set_option maxRecDepth 1000000 in
theorem nm_ok_m29 : px_okM nm_cl nm_T nm_P nm_C5 nm_CE nm_mf 5 0 2 nm_m29 = true := px_okM2_ok (by decide +kernel)
set_option maxRecDepth 1000000 in
theorem nm_ok_m31 : px_okM nm_cl nm_T nm_P nm_C6 nm_CE nm_mf 6 2 4 nm_m31 = true := px_okM2_ok (by decide +kernel)
set_option maxRecDepth 1000000 in
theorem nm_ok_m32 : px_okM nm_cl nm_T nm_P nm_C6 nm_CE nm_mf 6 0 4 nm_m32 = true := px_okM2_ok (by decide +kernel)
set_option maxRecDepth 1000000 in
theorem nm_ok_m33 : px_okM nm_cl nm_T nm_P nm_C6 nm_CE nm_mf 6 0 4 nm_m33 = true := px_okM2_ok (by decide +kernel)
set_option maxRecDepth 1000000 in
theorem nm_ok_m34 : px_okM nm_cl nm_T nm_P nm_C6 nm_CE nm_mf 6 0 4 nm_m34 = true := px_okM2_ok (by decide +kernel)
set_option maxRecDepth 1000000 in
theorem nm_ok_m35 : px_okM nm_cl nm_T nm_P nm_C6 nm_CE nm_mf 6 0 4 nm_m35 = true := px_okM2_ok (by decide +kernel)
set_option maxRecDepth 1000000 in
theorem nm_ok_m36 : px_okM nm_cl nm_T nm_P nm_C7 nm_CE nm_mf 7 2 5 nm_m36 = true := px_okM2_ok (by decide +kernel)
set_option maxRecDepth 1000000 in
theorem nm_ok_m37 : px_okM nm_cl nm_T nm_P nm_C7 nm_CE nm_mf 7 0 5 nm_m37 = true := px_okM2_ok (by decide +kernel)
set_option maxRecDepth 1000000 in
theorem nm_ok_m38 : px_okM nm_cl nm_T nm_P nm_C7 nm_CE nm_mf 7 0 5 nm_m38 = true := px_okM2_ok (by decide +kernel)
set_option maxRecDepth 1000000 in
theorem nm_ok_m39 : px_okM nm_cl nm_T nm_P nm_C7 nm_CE nm_mf 7 0 5 nm_m39 = true := px_okM2_ok (by decide +kernel)
set_option maxRecDepth 1000000 in
theorem nm_ok_m40 : px_okM nm_cl nm_T nm_P nm_C7 nm_CE nm_mf 7 0 5 nm_m40 = true := px_okM2_ok (by decide +kernel)
set_option maxRecDepth 1000000 in
theorem nm_ok_m48 : px_okM nm_cl nm_T nm_P nm_C8 nm_CE nm_mf 8 2 7 nm_m48 = true := px_okM2_ok (by decide +kernel)
set_option maxRecDepth 1000000 in
theorem nm_ok_m49 : px_okM nm_cl nm_T nm_P nm_C8 nm_CE nm_mf 8 0 7 nm_m49 = true := px_okM2_ok (by decide +kernel)
set_option maxRecDepth 1000000 in
theorem nm_ok_m50 : px_okM nm_cl nm_T nm_P nm_C8 nm_CE nm_mf 8 0 7 nm_m50 = true := px_okM2_ok (by decide +kernel)
set_option maxRecDepth 1000000 in
theorem nm_ok_m51 : px_okM nm_cl nm_T nm_P nm_C8 nm_CE nm_mf 8 0 7 nm_m51 = true := px_okM2_ok (by decide +kernel)
set_option maxRecDepth 1000000 in
theorem nm_ok_m52 : px_okM nm_cl nm_T nm_P nm_C8 nm_CE nm_mf 8 0 7 nm_m52 = true := px_okM2_ok (by decide +kernel)
set_option maxRecDepth 1000000 in
theorem nm_ok_m53 : px_okM nm_cl nm_T nm_P nm_C8 nm_CE nm_mf 8 0 7 nm_m53 = true := px_okM2_ok (by decide +kernel)
set_option maxRecDepth 1000000 in
theorem nm_ok_m54 : px_okM nm_cl nm_T nm_P nm_C8 nm_CE nm_mf 8 0 7 nm_m54 = true := px_okM2_ok (by decide +kernel)
set_option maxRecDepth 1000000 in
theorem nm_ok_m55 : px_okM nm_cl nm_T nm_P nm_C8 nm_CE nm_mf 8 0 7 nm_m55 = true := px_okM2_ok (by decide +kernel)
set_option maxRecDepth 1000000 in
theorem nm_ok_m56 : px_okM nm_cl nm_T nm_P nm_C8 nm_CE nm_mf 8 0 7 nm_m56 = true := px_okM2_ok (by decide +kernel)
set_option maxRecDepth 1000000 in
theorem nm_ok_m58 : px_okM nm_cl nm_T nm_P nm_C8 nm_CE nm_mf 8 0 7 nm_m58 = true := px_okM2_ok (by decide +kernel)
set_option maxRecDepth 1000000 in
theorem nm_ok_m59 : px_okM nm_cl nm_T nm_P nm_C8 nm_CE nm_mf 8 0 7 nm_m59 = true := px_okM2_ok (by decide +kernel)
set_option maxRecDepth 1000000 in
theorem nm_ok_m60 : px_okM nm_cl nm_T nm_P nm_C8 nm_CE nm_mf 8 0 7 nm_m60 = true := px_okM2_ok (by decide +kernel)
