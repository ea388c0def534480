set_option maxRecDepth 1000000 in
theorem nm_ok_m180 : px_okM nm_cl nm_T nm_P nm_C10 nm_CE nm_mf 10 0 9 nm_m180 = true := px_okM2_ok (by decide +kernel)
set_option maxRecDepth 1000000 in
theorem nm_ok_m181 : px_okM nm_cl nm_T nm_P nm_C10 nm_CE nm_mf 10 0 9 nm_m181 = true := px_okM2_ok (by decide +kernel)
set_option maxRecDepth 1000000 in
theorem nm_ok_m182 : px_okM nm_cl nm_T nm_P nm_C10 nm_CE nm_mf 10 0 9 nm_m182 = true := px_okM2_ok (by decide +kernel)
set_option maxRecDepth 1000000 in
theorem nm_ok_m183 : px_okM nm_cl nm_T nm_P nm_C10 nm_CE nm_mf 10 0 9 nm_m183 = true := px_okM2_ok (by decide +kernel)
set_option maxRecDepth 1000000 in
theorem nm_ok_m184 : px_okM nm_cl nm_T nm_P nm_C10 nm_CE nm_mf 10 0 9 nm_m184 = true := px_okM2_ok (by decide +kernel)
set_option maxRecDepth 1000000 in
theorem nm_ok_m185 : px_okM nm_cl nm_T nm_P nm_C10 nm_CE nm_mf 10 0 9 nm_m185 = true := px_okM2_ok (by decide +kernel)
set_option maxRecDepth 1000000 in
theorem nm_ok_m186 : px_okM nm_cl nm_T nm_P nm_C10 nm_CE nm_mf 10 0 9 nm_m186 = true := px_okM2_ok (by decide +kernel)
set_option maxRecDepth 1000000 in
theorem nm_ok_m187 : px_okM nm_cl nm_T nm_P nm_C10 nm_CE nm_mf 10 0 9 nm_m187 = true := px_okM2_ok (by decide +kernel)
set_option maxRecDepth 1000000 in
theorem nm_ok_m188 : px_okM nm_cl nm_T nm_P nm_C10 nm_CE nm_mf 10 0 9 nm_m188 = true := px_okM2_ok (by decide +kernel)
set_option maxRecDepth 1000000 in
theorem nm_ok_m189 : px_okM nm_cl nm_T nm_P nm_C10 nm_CE nm_mf 10 0 9 nm_m189 = true := px_okM2_ok (by decide +kernel)
set_option maxRecDepth 1000000 in
theorem nm_ok_m190 : px_okM nm_cl nm_T nm_P nm_C10 nm_CE nm_mf 10 0 9 nm_m190 = true := px_okM2_ok (by decide +kernel)
set_option maxRecDepth 1000000 in
theorem nm_ok_m191 : px_okM nm_cl nm_T nm_P nm_C10 nm_CE nm_mf 10 0 9 nm_m191 = true := px_okM2_ok (by decide +kernel)
set_option maxRecDepth 1000000 in
theorem nm_ok_m192 : px_okM nm_cl nm_T nm_P nm_C10 nm_CE nm_mf 10 0 9 nm_m192 = true := px_okM2_ok (by decide +kernel)
set_option maxRecDepth 1000000 in
theorem nm_ok_m193 : px_okM nm_cl nm_T nm_P nm_C10 nm_CE nm_mf 10 0 9 nm_m193 = true := px_okM2_ok (by decide +kernel)
set_option maxRecDepth 1000000 in
theorem nm_ok_m194 : px_okM nm_cl nm_T nm_P nm_C10 nm_CE nm_mf 10 0 9 nm_m194 = true := px_okM2_ok (by decide +kernel)
set_option maxRecDepth 1000000 in
theorem nm_ok_m195 : px_okM nm_cl nm_T nm_P nm_C10 nm_CE nm_mf 10 0 9 nm_m195 = true := px_okM2_ok (by decide +kernel)
set_option maxRecDepth 1000000 in
theorem nm_ok_m196 : px_okM nm_cl nm_T nm_P nm_C10 nm_CE nm_mf 10 0 9 nm_m196 = true := px_okM2_ok (by decide +kernel)
set_option maxRecDepth 1000000 in
theorem nm_ok_m197 : px_okM nm_cl nm_T nm_P nm_C10 nm_CE nm_mf 10 0 9 nm_m197 = true := px_okM2_ok (by decide +kernel)
set_option maxRecDepth 1000000 in
theorem nm_ok_m198 : px_okM nm_cl nm_T nm_P nm_C10 nm_CE nm_mf 10 0 9 nm_m198 = true := px_okM2_ok (by decide +kernel)
set_option maxRecDepth 1000000 in
theorem nm_ok_m199 : px_okM nm_cl nm_T nm_P nm_C10 nm_CE nm_mf 10 0 9 nm_m199 = true := px_okM2_ok (by decide +kernel)
set_option maxRecDepth 1000000 in
theorem nm_ok_m200 : px_okM nm_cl nm_T nm_P nm_C10 nm_CE nm_mf 10 0 9 nm_m200 = true := px_okM2_ok (by decide +kernel)
set_option maxRecDepth 1000000 in
theorem nm_ok_m201 : px_okM nm_cl nm_T nm_P nm_C10 nm_CE nm_mf 10 0 9 nm_m201 = true := px_okM2_ok (by decide +kernel)
set_option maxRecDepth 1000000 in
theorem nm_ok_m202 : px_okM nm_cl nm_T nm_P nm_C10 nm_CE nm_mf 10 0 9 nm_m202 = true := px_okM2_ok (by decide +kernel)
set_option maxRecDepth 1000000 in
theorem nm_ok_m203 : px_okM nm_cl nm_T nm_P nm_C10 nm_CE nm_mf 10 0 9 nm_m203 = true := px_okM2_ok (by decide +kernel)
set_option maxRecDepth 1000000 in
theorem nm_ok_m204 : px_okM nm_cl nm_T nm_P nm_C10 nm_CE nm_mf 10 0 9 nm_m204 = true := px_okM2_ok (by decide +kernel)
set_option maxRecDepth 1000000 in
theorem nm_ok_m205 : px_okM nm_cl nm_T nm_P nm_C10 nm_CE nm_mf 10 0 9 nm_m205 = true := px_okM2_ok (by decide +kernel)
set_option maxRecDepth 1000000 in
theorem nm_ok_m206 : px_okM nm_cl nm_T nm_P nm_C10 nm_CE nm_mf 10 0 9 nm_m206 = true := px_okM2_ok (by decide +kernel)
set_option maxRecDepth 1000000 in
theorem nm_ok_m207 : px_okM nm_cl nm_T nm_P nm_C10 nm_CE nm_mf 10 0 9 nm_m207 = true := px_okM2_ok (by decide +kernel)
set_option maxRecDepth 1000000 in
theorem nm_ok_m208 : px_okM nm_cl nm_T nm_P nm_C10 nm_CE nm_mf 10 0 9 nm_m208 = true := px_okM2_ok (by decide +kernel)
set_option maxRecDepth 1000000 in
theorem nm_ok_m209 : px_okM nm_cl nm_T nm_P nm_C10 nm_CE nm_mf 10 0 9 nm_m209 = true := px_okM2_ok (by decide +kernel)
set_option maxRecDepth 1000000 in
theorem nm_ok_m210 : px_okM nm_cl nm_T nm_P nm_C10 nm_CE nm_mf 10 0 9 nm_m210 = true := px_okM2_ok (by decide +kernel)
set_option maxRecDepth 1000000 in
theorem nm_ok_m211 : px_okM nm_cl nm_T nm_P nm_C10 nm_CE nm_mf 10 0 9 nm_m211 = true := px_okM2_ok (by decide +kernel)
set_option maxRecDepth 1000000 in
theorem nm_ok_m212 : px_okM nm_cl nm_T nm_P nm_C10 nm_CE nm_mf 10 0 9 nm_m212 = true := px_okM2_ok (by decide +kernel)
set_option maxRecDepth 1000000 in
theorem nm_ok_m213 : px_okM nm_cl nm_T nm_P nm_C10 nm_CE nm_mf 10 0 9 nm_m213 = true := px_okM2_ok (by decide +kernel)
set_option maxRecDepth 1000000 in
theorem nm_ok_m214 : px_okM nm_cl nm_T nm_P nm_C10 nm_CE nm_mf 10 0 9 nm_m214 = true := px_okM2_ok (by decide +kernel)
set_option maxRecDepth 1000000 in
theorem nm_ok_m215 : px_okM nm_cl nm_T nm_P nm_C10 nm_CE nm_mf 10 0 9 nm_m215 = true := px_okM2_ok (by decide +kernel)
set_option maxRecDepth 1000000 in
theorem nm_ok_m216 : px_okM nm_cl nm_T nm_P nm_C10 nm_CE nm_mf 10 0 9 nm_m216 = true := px_okM2_ok (by decide +kernel)
set_option maxRecDepth 1000000 in
theorem nm_ok_m217 : px_okM nm_cl nm_T nm_P nm_C10 nm_CE nm_mf 10 0 9 nm_m217 = true := px_okM2_ok (by decide +kernel)
set_option maxRecDepth 1000000 in
theorem nm_ok_m218 : px_okM nm_cl nm_T nm_P nm_C10 nm_CE nm_mf 10 0 9 nm_m218 = true := px_okM2_ok (by decide +kernel)
set_option maxRecDepth 1000000 in
theorem nm_ok_m219 : px_okM nm_cl nm_T nm_P nm_C10 nm_CE nm_mf 10 0 9 nm_m219 = true := px_okM2_ok (by decide +kernel)
set_option maxRecDepth 1000000 in
theorem nm_ok_m220 : px_okM nm_cl nm_T nm_P nm_C10 nm_CE nm_mf 10 0 9 nm_m220 = true := px_okM2_ok (by decide +kernel)
set_option maxRecDepth 1000000 in
theorem nm_ok_m221 : px_okM nm_cl nm_T nm_P nm_C10 nm_CE nm_mf 10 0 9 nm_m221 = true := px_okM2_ok (by decide +kernel)
set_option maxRecDepth 1000000 in
theorem nm_ok_m222 : px_okM nm_cl nm_T nm_P nm_C10 nm_CE nm_mf 10 0 9 nm_m222 = true := px_okM2_ok (by decide +kernel)
set_option maxRecDepth 1000000 in
theorem nm_ok_m223 : px_okM nm_cl nm_T nm_P nm_C10 nm_CE nm_mf 10 2 9 nm_m223 = true := px_okM2_ok (by decide +kernel)
set_option maxRecDepth 1000000 in
theorem nm_ok_m224 : px_okM nm_cl nm_T nm_P nm_C10 nm_CE nm_mf 10 0 9 nm_m224 = true := px_okM2_ok (by decide +kernel)
set_option maxRecDepth 1000000 in
theorem nm_okC_law : px_okC nm_law = true := px_okC2_ok (by decide +kernel)
set_option maxRecDepth 1000000 in
theorem nm_okp_law : (px_cp nm_law).all (px_okR nm_cl nm_T nm_P nm_C11 nm_CE nm_mf 11 0 0 nm_law) = true := by decide +kernel
theorem nm_ok_law : px_okM nm_cl nm_T nm_P nm_C11 nm_CE nm_mf 11 0 0 nm_law = true := by
  show (px_okC nm_law && _) = true
  rw [nm_okC_law, nm_okp_law]
  rfl
set_option maxRecDepth 1000000 in
theorem nm_ok_lrow0 : px_okM nm_cl nm_T nm_P nm_C11 nm_CE nm_mf 11 0 0 nm_lrow0 = true := by decide +kernel
set_option maxRecDepth 1000000 in
theorem nm_ok_lrow1 : px_okM nm_cl nm_T nm_P nm_C11 nm_CE nm_mf 11 0 0 nm_lrow1 = true := by decide +kernel
set_option maxRecDepth 1000000 in
theorem nm_ok_xrow1 : px_okM nm_cl nm_T nm_P nm_C9 nm_CE nm_mf 9 0 8 nm_xrow1 = true := by decide +kernel
