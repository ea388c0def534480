set_option maxRecDepth 1000000 in
theorem nm_ckm : nm_chk 300 6 nm_pcs 23 = true := by decide +kernel
set_option maxRecDepth 1000000 in
theorem nm_ckL0 : nm_chk 300 0 [] 23 = true := by decide +kernel
set_option maxRecDepth 1000000 in
theorem nm_ckL1 : nm_chk 300 1 [] 23 = true := by decide +kernel
set_option maxRecDepth 1000000 in
theorem nm_ckL2 : nm_chk 300 2 [] 23 = true := by decide +kernel
set_option maxRecDepth 1000000 in
theorem nm_ckL3 : nm_chk 300 3 [] 23 = true := by decide +kernel
set_option maxRecDepth 1000000 in
theorem nm_ckL4 : nm_chk 300 4 [] 23 = true := by decide +kernel
set_option maxRecDepth 1000000 in
theorem nm_ckL5 : nm_chk 300 5 [] 23 = true := by decide +kernel
set_option maxRecDepth 1000000 in
theorem nm_ck0 : nm_chk 3000 6 [] 228 = true := by decide +kernel
set_option maxRecDepth 1000000 in
theorem nm_ck1 : nm_chk 3000 6 [] 253 = true := by decide +kernel
set_option maxRecDepth 1000000 in
theorem nm_ck2 : nm_chk 3000 6 [] 290 = true := by decide +kernel
set_option maxRecDepth 1000000 in
theorem nm_ck3 : nm_chk 3000 6 [] 339 = true := by decide +kernel
set_option maxRecDepth 1000000 in
theorem nm_ck4 : nm_chk 3000 6 [] 376 = true := by decide +kernel
set_option maxRecDepth 1000000 in
theorem nm_ck5 : nm_chk 3000 6 [] 437 = true := by decide +kernel
set_option maxRecDepth 1000000 in
theorem nm_ck6 : nm_chk 3000 6 [] 474 = true := by decide +kernel
set_option maxRecDepth 1000000 in
theorem nm_ck7 : nm_chk 3000 6 [] 527 = true := by decide +kernel
set_option maxRecDepth 1000000 in
theorem nm_ck8 : nm_chk 3000 6 [] 576 = true := by decide +kernel
set_option maxRecDepth 1000000 in
theorem nm_ck9 : nm_chk 3000 6 [] 601 = true := by decide +kernel
set_option maxRecDepth 1000000 in
theorem nm_ck10 : nm_chk 3000 6 [] 626 = true := by decide +kernel
set_option maxRecDepth 1000000 in
theorem nm_ck11 : nm_chk 3000 6 [] 639 = true := by decide +kernel
set_option maxRecDepth 1000000 in
theorem nm_ck12 : nm_chk 3000 6 [] 664 = true := by decide +kernel
set_option maxRecDepth 1000000 in
theorem nm_ck13 : nm_chk 3000 6 [] 689 = true := by decide +kernel
set_option maxRecDepth 1000000 in
theorem nm_ck14 : nm_chk 3000 6 [] 702 = true := by decide +kernel
set_option maxRecDepth 1000000 in
theorem nm_ck15 : nm_chk 3000 6 [] 771 = true := by decide +kernel
set_option maxRecDepth 1000000 in
theorem nm_ck16 : nm_chk 3000 6 [] 840 = true := by decide +kernel
set_option maxRecDepth 1000000 in
theorem nm_ck17 : nm_chk 3000 6 [] 853 = true := by decide +kernel
set_option maxRecDepth 1000000 in
theorem nm_ck18 : nm_chk 3000 6 [] 890 = true := by decide +kernel
set_option maxRecDepth 1000000 in
theorem nm_ck19 : nm_chk 3000 6 [] 915 = true := by decide +kernel
set_option maxRecDepth 1000000 in
theorem nm_ck20 : nm_chk 3000 6 [] 952 = true := by decide +kernel
set_option maxRecDepth 1000000 in
theorem nm_ck21 : nm_chk 3000 6 [] 977 = true := by decide +kernel
set_option maxRecDepth 1000000 in
theorem nm_ck22 : nm_chk 3000 6 [] 1002 = true := by decide +kernel
set_option maxRecDepth 1000000 in
theorem nm_ck23 : nm_chk 3000 6 [] 1027 = true := by decide +kernel
set_option maxRecDepth 1000000 in
theorem nm_ck24 : nm_chk 3000 6 [] 1052 = true := by decide +kernel
set_option maxRecDepth 1000000 in
theorem nm_ck25 : nm_chk 3000 6 [] 1089 = true := by decide +kernel
set_option maxRecDepth 1000000 in
theorem nm_ck26 : nm_chk 3000 6 [] 1114 = true := by decide +kernel
set_option maxRecDepth 1000000 in
theorem nm_ck27 : nm_chk 3000 6 [] 1151 = true := by decide +kernel
set_option maxRecDepth 1000000 in
theorem nm_ck28 : nm_chk 3000 6 [] 1188 = true := by decide +kernel
set_option maxRecDepth 1000000 in
theorem nm_ck29 : nm_chk 3000 6 [] 1201 = true := by decide +kernel
set_option maxRecDepth 1000000 in
theorem nm_ck30 : nm_chk 3000 6 [] 1274 = true := by decide +kernel
set_option maxRecDepth 1000000 in
theorem nm_ck31 : nm_chk 3000 6 [] 1335 = true := by decide +kernel
set_option maxRecDepth 1000000 in
theorem nm_ck32 : nm_chk 3000 6 [] 1396 = true := by decide +kernel
set_option maxRecDepth 1000000 in
theorem nm_ck33 : nm_chk 3000 6 [] 1433 = true := by decide +kernel
set_option maxRecDepth 1000000 in
theorem nm_ck34 : nm_chk 3000 6 [] 1470 = true := by decide +kernel
set_option maxRecDepth 1000000 in
theorem nm_ck35 : nm_chk 3000 6 [] 1495 = true := by decide +kernel
set_option maxRecDepth 1000000 in
theorem nm_ck38 : nm_chk 3000 6 [] 1558 = true := by decide +kernel
set_option maxRecDepth 1000000 in
theorem nm_ck39 : nm_chk 3000 6 [] 1583 = true := by decide +kernel
set_option maxRecDepth 1000000 in
theorem nm_ck40 : nm_chk 3000 6 [] 1608 = true := by decide +kernel
set_option maxRecDepth 1000000 in
theorem nm_ck41 : nm_chk 3000 6 [] 1633 = true := by decide +kernel
