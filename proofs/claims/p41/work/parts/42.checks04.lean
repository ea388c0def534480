set_option maxRecDepth 1000000 in
theorem nm_okl15 : nm_lc15.all (fun q => decide (decode code q.1 = .ok (q.2.2, q.2.1)) && px_okI q.1 q.2.1 q.2.2) = true := by decide +kernel
set_option maxRecDepth 1000000 in
theorem nm_okl16 : nm_lc16.all (fun q => decide (decode code q.1 = .ok (q.2.2, q.2.1)) && px_okI q.1 q.2.1 q.2.2) = true := by decide +kernel
set_option maxRecDepth 1000000 in
theorem nm_okl17 : nm_lc17.all (fun q => decide (decode code q.1 = .ok (q.2.2, q.2.1)) && px_okI q.1 q.2.1 q.2.2) = true := by decide +kernel
set_option maxRecDepth 1000000 in
theorem nm_okl18 : nm_lc18.all (fun q => decide (decode code q.1 = .ok (q.2.2, q.2.1)) && px_okI q.1 q.2.1 q.2.2) = true := by decide +kernel
set_option maxRecDepth 1000000 in
theorem nm_okl19 : nm_lc19.all (fun q => decide (decode code q.1 = .ok (q.2.2, q.2.1)) && px_okI q.1 q.2.1 q.2.2) = true := by decide +kernel
set_option maxRecDepth 1000000 in
theorem nm_okl20 : nm_lc20.all (fun q => decide (decode code q.1 = .ok (q.2.2, q.2.1)) && px_okI q.1 q.2.1 q.2.2) = true := by decide +kernel
set_option maxRecDepth 1000000 in
theorem nm_okl21 : nm_lc21.all (fun q => decide (decode code q.1 = .ok (q.2.2, q.2.1)) && px_okI q.1 q.2.1 q.2.2) = true := by decide +kernel
set_option maxRecDepth 1000000 in
theorem nm_okl22 : nm_lc22.all (fun q => decide (decode code q.1 = .ok (q.2.2, q.2.1)) && px_okI q.1 q.2.1 q.2.2) = true := by decide +kernel
set_option maxRecDepth 1000000 in
theorem nm_okl23 : nm_lc23.all (fun q => decide (decode code q.1 = .ok (q.2.2, q.2.1)) && px_okI q.1 q.2.1 q.2.2) = true := by decide +kernel
set_option maxRecDepth 1000000 in
theorem nm_okl24 : nm_lc24.all (fun q => decide (decode code q.1 = .ok (q.2.2, q.2.1)) && px_okI q.1 q.2.1 q.2.2) = true := by decide +kernel
set_option maxRecDepth 1000000 in
theorem nm_okl25 : nm_lc25.all (fun q => decide (decode code q.1 = .ok (q.2.2, q.2.1)) && px_okI q.1 q.2.1 q.2.2) = true := by decide +kernel
set_option maxRecDepth 1000000 in
theorem nm_okl26 : nm_lc26.all (fun q => decide (decode code q.1 = .ok (q.2.2, q.2.1)) && px_okI q.1 q.2.1 q.2.2) = true := by decide +kernel
theorem nm_okC_law : px_okC nm_law = true := by
  show (nm_lc0 ++ (nm_lc1 ++ (nm_lc2 ++ (nm_lc3 ++ (nm_lc4 ++ (nm_lc5 ++ (nm_lc6 ++ (nm_lc7 ++ (nm_lc8 ++ (nm_lc9 ++ (nm_lc10 ++ (nm_lc11 ++ (nm_lc12 ++ (nm_lc13 ++ (nm_lc14 ++ (nm_lc15 ++ (nm_lc16 ++ (nm_lc17 ++ (nm_lc18 ++ (nm_lc19 ++ (nm_lc20 ++ (nm_lc21 ++ (nm_lc22 ++ (nm_lc23 ++ (nm_lc24 ++ (nm_lc25 ++ (nm_lc26))))))))))))))))))))))))))).all (fun q => decide (decode code q.1 = .ok (q.2.2, q.2.1)) && px_okI q.1 q.2.1 q.2.2) = true
  simp only [List.all_append, nm_okl0, nm_okl1, nm_okl2, nm_okl3, nm_okl4, nm_okl5, nm_okl6, nm_okl7, nm_okl8, nm_okl9, nm_okl10, nm_okl11, nm_okl12, nm_okl13, nm_okl14, nm_okl15, nm_okl16, nm_okl17, nm_okl18, nm_okl19, nm_okl20, nm_okl21, nm_okl22, nm_okl23, nm_okl24, nm_okl25, nm_okl26, Bool.and_self]
set_option maxRecDepth 1000000 in
theorem nm_okp_law : (px_cp nm_law).all (px_okR nm_cl nm_T nm_P nm_C11 nm_CE nm_mf 11 0 0 nm_law) = true := by decide +kernel
theorem nm_ok_law : px_okM nm_cl nm_T nm_P nm_C11 nm_CE nm_mf 11 0 0 nm_law = true := by
  show (px_okC nm_law && _) = true
  rw [nm_okC_law, nm_okp_law]
  rfl
set_option maxRecDepth 1000000 in
theorem nm_ok_lrow0 : px_okM nm_cl nm_T nm_P nm_C11 nm_CE nm_mf 11 0 0 nm_lrow0 = true := by decide +kernel
set_option maxRecDepth 1000000 in
theorem nm_ok_lrow1 : px_okM nm_cl nm_T nm_P nm_C11 nm_CE nm_mf 11 0 0 nm_lrow1 = true := by decide +kernel
set_option maxRecDepth 1000000 in
theorem nm_ok_xrow1 : px_okM nm_cl nm_T nm_P nm_C9 nm_CE nm_mf 9 0 8 nm_xrow1 = true := by decide +kernel
