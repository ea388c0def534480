set_option maxRecDepth 1000000 in
theorem nm_ok_m180 : px_okM nm_cl nm_T nm_P nm_C10 nm_CE nm_mf 10 0 9 nm_m180 = true := by decide +kernel
set_option maxRecDepth 1000000 in
theorem nm_ok_m181 : px_okM nm_cl nm_T nm_P nm_C10 nm_CE nm_mf 10 0 9 nm_m181 = true := by decide +kernel
set_option maxRecDepth 1000000 in
theorem nm_ok_m182 : px_okM nm_cl nm_T nm_P nm_C10 nm_CE nm_mf 10 0 9 nm_m182 = true := by decide +kernel
set_option maxRecDepth 1000000 in
theorem nm_ok_m183 : px_okM nm_cl nm_T nm_P nm_C10 nm_CE nm_mf 10 0 9 nm_m183 = true := by decide +kernel
set_option maxRecDepth 1000000 in
theorem nm_ok_m184 : px_okM nm_cl nm_T nm_P nm_C10 nm_CE nm_mf 10 0 9 nm_m184 = true := by decide +kernel
set_option maxRecDepth 1000000 in
theorem nm_ok_m185 : px_okM nm_cl nm_T nm_P nm_C10 nm_CE nm_mf 10 0 9 nm_m185 = true := by decide +kernel
set_option maxRecDepth 1000000 in
theorem nm_ok_m186 : px_okM nm_cl nm_T nm_P nm_C10 nm_CE nm_mf 10 0 9 nm_m186 = true := by decide +kernel
set_option maxRecDepth 1000000 in
theorem nm_ok_m187 : px_okM nm_cl nm_T nm_P nm_C10 nm_CE nm_mf 10 0 9 nm_m187 = true := by decide +kernel
set_option maxRecDepth 1000000 in
theorem nm_ok_m188 : px_okM nm_cl nm_T nm_P nm_C10 nm_CE nm_mf 10 0 9 nm_m188 = true := by decide +kernel
set_option maxRecDepth 1000000 in
theorem nm_ok_m189 : px_okM nm_cl nm_T nm_P nm_C10 nm_CE nm_mf 10 0 9 nm_m189 = true := by decide +kernel
set_option maxRecDepth 1000000 in
theorem nm_ok_m190 : px_okM nm_cl nm_T nm_P nm_C10 nm_CE nm_mf 10 0 9 nm_m190 = true := by decide +kernel
set_option maxRecDepth 1000000 in
theorem nm_ok_m191 : px_okM nm_cl nm_T nm_P nm_C10 nm_CE nm_mf 10 0 9 nm_m191 = true := by decide +kernel
set_option maxRecDepth 1000000 in
theorem nm_ok_m192 : px_okM nm_cl nm_T nm_P nm_C10 nm_CE nm_mf 10 0 9 nm_m192 = true := by decide +kernel
set_option maxRecDepth 1000000 in
theorem nm_ok_m193 : px_okM nm_cl nm_T nm_P nm_C10 nm_CE nm_mf 10 0 9 nm_m193 = true := by decide +kernel
set_option maxRecDepth 1000000 in
theorem nm_ok_m194 : px_okM nm_cl nm_T nm_P nm_C10 nm_CE nm_mf 10 0 9 nm_m194 = true := by decide +kernel
set_option maxRecDepth 1000000 in
theorem nm_ok_m195 : px_okM nm_cl nm_T nm_P nm_C10 nm_CE nm_mf 10 0 9 nm_m195 = true := by decide +kernel
set_option maxRecDepth 1000000 in
theorem nm_ok_m196 : px_okM nm_cl nm_T nm_P nm_C10 nm_CE nm_mf 10 0 9 nm_m196 = true := by decide +kernel
set_option maxRecDepth 1000000 in
theorem nm_ok_m197 : px_okM nm_cl nm_T nm_P nm_C10 nm_CE nm_mf 10 0 9 nm_m197 = true := by decide +kernel
set_option maxRecDepth 1000000 in
theorem nm_ok_m198 : px_okM nm_cl nm_T nm_P nm_C10 nm_CE nm_mf 10 0 9 nm_m198 = true := by decide +kernel
set_option maxRecDepth 1000000 in
theorem nm_ok_m199 : px_okM nm_cl nm_T nm_P nm_C10 nm_CE nm_mf 10 0 9 nm_m199 = true := by decide +kernel
set_option maxRecDepth 1000000 in
theorem nm_ok_m200 : px_okM nm_cl nm_T nm_P nm_C10 nm_CE nm_mf 10 0 9 nm_m200 = true := by decide +kernel
set_option maxRecDepth 1000000 in
theorem nm_ok_m201 : px_okM nm_cl nm_T nm_P nm_C10 nm_CE nm_mf 10 0 9 nm_m201 = true := by decide +kernel
set_option maxRecDepth 1000000 in
theorem nm_ok_m202 : px_okM nm_cl nm_T nm_P nm_C10 nm_CE nm_mf 10 0 9 nm_m202 = true := by decide +kernel
set_option maxRecDepth 1000000 in
theorem nm_ok_m203 : px_okM nm_cl nm_T nm_P nm_C10 nm_CE nm_mf 10 0 9 nm_m203 = true := by decide +kernel
set_option maxRecDepth 1000000 in
theorem nm_ok_m204 : px_okM nm_cl nm_T nm_P nm_C10 nm_CE nm_mf 10 0 9 nm_m204 = true := by decide +kernel
set_option maxRecDepth 1000000 in
theorem nm_ok_m205 : px_okM nm_cl nm_T nm_P nm_C10 nm_CE nm_mf 10 0 9 nm_m205 = true := by decide +kernel
set_option maxRecDepth 1000000 in
theorem nm_ok_m206 : px_okM nm_cl nm_T nm_P nm_C10 nm_CE nm_mf 10 0 9 nm_m206 = true := by decide +kernel
set_option maxRecDepth 1000000 in
theorem nm_ok_m207 : px_okM nm_cl nm_T nm_P nm_C10 nm_CE nm_mf 10 0 9 nm_m207 = true := by decide +kernel
set_option maxRecDepth 1000000 in
theorem nm_ok_m208 : px_okM nm_cl nm_T nm_P nm_C10 nm_CE nm_mf 10 0 9 nm_m208 = true := by decide +kernel
set_option maxRecDepth 1000000 in
theorem nm_ok_m209 : px_okM nm_cl nm_T nm_P nm_C10 nm_CE nm_mf 10 0 9 nm_m209 = true := by decide +kernel
set_option maxRecDepth 1000000 in
theorem nm_ok_m210 : px_okM nm_cl nm_T nm_P nm_C10 nm_CE nm_mf 10 0 9 nm_m210 = true := by decide +kernel
set_option maxRecDepth 1000000 in
theorem nm_ok_m211 : px_okM nm_cl nm_T nm_P nm_C10 nm_CE nm_mf 10 0 9 nm_m211 = true := by decide +kernel
set_option maxRecDepth 1000000 in
theorem nm_ok_m212 : px_okM nm_cl nm_T nm_P nm_C10 nm_CE nm_mf 10 0 9 nm_m212 = true := by decide +kernel
set_option maxRecDepth 1000000 in
theorem nm_ok_m213 : px_okM nm_cl nm_T nm_P nm_C10 nm_CE nm_mf 10 0 9 nm_m213 = true := by decide +kernel
set_option maxRecDepth 1000000 in
theorem nm_ok_m214 : px_okM nm_cl nm_T nm_P nm_C10 nm_CE nm_mf 10 0 9 nm_m214 = true := by decide +kernel
set_option maxRecDepth 1000000 in
theorem nm_ok_m215 : px_okM nm_cl nm_T nm_P nm_C10 nm_CE nm_mf 10 0 9 nm_m215 = true := by decide +kernel
set_option maxRecDepth 1000000 in
theorem nm_ok_m216 : px_okM nm_cl nm_T nm_P nm_C10 nm_CE nm_mf 10 0 9 nm_m216 = true := by decide +kernel
set_option maxRecDepth 1000000 in
theorem nm_ok_m217 : px_okM nm_cl nm_T nm_P nm_C10 nm_CE nm_mf 10 0 9 nm_m217 = true := by decide +kernel
set_option maxRecDepth 1000000 in
theorem nm_ok_m218 : px_okM nm_cl nm_T nm_P nm_C10 nm_CE nm_mf 10 0 9 nm_m218 = true := by decide +kernel
set_option maxRecDepth 1000000 in
theorem nm_ok_m219 : px_okM nm_cl nm_T nm_P nm_C10 nm_CE nm_mf 10 0 9 nm_m219 = true := by decide +kernel
set_option maxRecDepth 1000000 in
theorem nm_ok_m220 : px_okM nm_cl nm_T nm_P nm_C10 nm_CE nm_mf 10 0 9 nm_m220 = true := by decide +kernel
set_option maxRecDepth 1000000 in
theorem nm_ok_m221 : px_okM nm_cl nm_T nm_P nm_C10 nm_CE nm_mf 10 0 9 nm_m221 = true := by decide +kernel
set_option maxRecDepth 1000000 in
theorem nm_ok_m222 : px_okM nm_cl nm_T nm_P nm_C10 nm_CE nm_mf 10 0 9 nm_m222 = true := by decide +kernel
set_option maxRecDepth 1000000 in
theorem nm_ok_m223 : px_okM nm_cl nm_T nm_P nm_C10 nm_CE nm_mf 10 2 9 nm_m223 = true := by decide +kernel
set_option maxRecDepth 1000000 in
theorem nm_ok_m224 : px_okM nm_cl nm_T nm_P nm_C10 nm_CE nm_mf 10 0 9 nm_m224 = true := by decide +kernel
set_option maxRecDepth 1000000 in
theorem nm_okl0 : nm_lc0.all (fun q => decide (decode code q.1 = .ok (q.2.2, q.2.1)) && px_okI q.1 q.2.1 q.2.2) = true := by decide +kernel
set_option maxRecDepth 1000000 in
theorem nm_okl1 : nm_lc1.all (fun q => decide (decode code q.1 = .ok (q.2.2, q.2.1)) && px_okI q.1 q.2.1 q.2.2) = true := by decide +kernel
set_option maxRecDepth 1000000 in
theorem nm_okl2 : nm_lc2.all (fun q => decide (decode code q.1 = .ok (q.2.2, q.2.1)) && px_okI q.1 q.2.1 q.2.2) = true := by decide +kernel
set_option maxRecDepth 1000000 in
theorem nm_okl3 : nm_lc3.all (fun q => decide (decode code q.1 = .ok (q.2.2, q.2.1)) && px_okI q.1 q.2.1 q.2.2) = true := by decide +kernel
set_option maxRecDepth 1000000 in
theorem nm_okl4 : nm_lc4.all (fun q => decide (decode code q.1 = .ok (q.2.2, q.2.1)) && px_okI q.1 q.2.1 q.2.2) = true := by decide +kernel
set_option maxRecDepth 1000000 in
theorem nm_okl5 : nm_lc5.all (fun q => decide (decode code q.1 = .ok (q.2.2, q.2.1)) && px_okI q.1 q.2.1 q.2.2) = true := by decide +kernel
set_option maxRecDepth 1000000 in
theorem nm_okl6 : nm_lc6.all (fun q => decide (decode code q.1 = .ok (q.2.2, q.2.1)) && px_okI q.1 q.2.1 q.2.2) = true := by decide +kernel
set_option maxRecDepth 1000000 in
theorem nm_okl7 : nm_lc7.all (fun q => decide (decode code q.1 = .ok (q.2.2, q.2.1)) && px_okI q.1 q.2.1 q.2.2) = true := by decide +kernel
set_option maxRecDepth 1000000 in
theorem nm_okl8 : nm_lc8.all (fun q => decide (decode code q.1 = .ok (q.2.2, q.2.1)) && px_okI q.1 q.2.1 q.2.2) = true := by decide +kernel
set_option maxRecDepth 1000000 in
theorem nm_okl9 : nm_lc9.all (fun q => decide (decode code q.1 = .ok (q.2.2, q.2.1)) && px_okI q.1 q.2.1 q.2.2) = true := by decide +kernel
set_option maxRecDepth 1000000 in
theorem nm_okl10 : nm_lc10.all (fun q => decide (decode code q.1 = .ok (q.2.2, q.2.1)) && px_okI q.1 q.2.1 q.2.2) = true := by decide +kernel
set_option maxRecDepth 1000000 in
theorem nm_okl11 : nm_lc11.all (fun q => decide (decode code q.1 = .ok (q.2.2, q.2.1)) && px_okI q.1 q.2.1 q.2.2) = true := by decide +kernel
set_option maxRecDepth 1000000 in
theorem nm_okl12 : nm_lc12.all (fun q => decide (decode code q.1 = .ok (q.2.2, q.2.1)) && px_okI q.1 q.2.1 q.2.2) = true := by decide +kernel
set_option maxRecDepth 1000000 in
theorem nm_okl13 : nm_lc13.all (fun q => decide (decode code q.1 = .ok (q.2.2, q.2.1)) && px_okI q.1 q.2.1 q.2.2) = true := by decide +kernel
set_option maxRecDepth 1000000 in
theorem nm_okl14 : nm_lc14.all (fun q => decide (decode code q.1 = .ok (q.2.2, q.2.1)) && px_okI q.1 q.2.1 q.2.2) = true := by decide +kernel
