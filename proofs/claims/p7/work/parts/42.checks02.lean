set_option maxRecDepth 1000000 in
theorem nm_ok_m120 : px_okM nm_cl nm_T nm_P nm_C9 nm_CE nm_mf 9 0 8 nm_m120 = true := px_okM2_ok (by decide +kernel)
set_option maxRecDepth 1000000 in
theorem nm_ok_m121 : px_okM nm_cl nm_T nm_P nm_C9 nm_CE nm_mf 9 0 8 nm_m121 = true := px_okM2_ok (by decide +kernel)
set_option maxRecDepth 1000000 in
theorem nm_ok_m122 : px_okM nm_cl nm_T nm_P nm_C9 nm_CE nm_mf 9 0 8 nm_m122 = true := px_okM2_ok (by decide +kernel)
set_option maxRecDepth 1000000 in
theorem nm_ok_m123 : px_okM nm_cl nm_T nm_P nm_C9 nm_CE nm_mf 9 0 8 nm_m123 = true := px_okM2_ok (by decide +kernel)
set_option maxRecDepth 1000000 in
theorem nm_ok_m124 : px_okM nm_cl nm_T nm_P nm_C9 nm_CE nm_mf 9 0 8 nm_m124 = true := px_okM2_ok (by decide +kernel)
set_option maxRecDepth 1000000 in
theorem nm_ok_m125 : px_okM nm_cl nm_T nm_P nm_C9 nm_CE nm_mf 9 0 8 nm_m125 = true := px_okM2_ok (by decide +kernel)
set_option maxRecDepth 1000000 in
theorem nm_ok_m126 : px_okM nm_cl nm_T nm_P nm_C9 nm_CE nm_mf 9 0 8 nm_m126 = true := by decide +kernel
set_option maxRecDepth 1000000 in
theorem nm_ok_m127 : px_okM nm_cl nm_T nm_P nm_C10 nm_CE nm_mf 10 0 9 nm_m127 = true := px_okM2_ok (by decide +kernel)
set_option maxRecDepth 1000000 in
theorem nm_ok_m128 : px_okM nm_cl nm_T nm_P nm_C10 nm_CE nm_mf 10 0 9 nm_m128 = true := px_okM2_ok (by decide +kernel)
set_option maxRecDepth 1000000 in
theorem nm_ok_m129 : px_okM nm_cl nm_T nm_P nm_C10 nm_CE nm_mf 10 0 9 nm_m129 = true := px_okM2_ok (by decide +kernel)
set_option maxRecDepth 1000000 in
theorem nm_ok_m130 : px_okM nm_cl nm_T nm_P nm_C10 nm_CE nm_mf 10 0 9 nm_m130 = true := px_okM2_ok (by decide +kernel)
set_option maxRecDepth 1000000 in
theorem nm_ok_m131 : px_okM nm_cl nm_T nm_P nm_C10 nm_CE nm_mf 10 0 9 nm_m131 = true := px_okM2_ok (by decide +kernel)
set_option maxRecDepth 1000000 in
theorem nm_ok_m132 : px_okM nm_cl nm_T nm_P nm_C10 nm_CE nm_mf 10 0 9 nm_m132 = true := px_okM2_ok (by decide +kernel)
set_option maxRecDepth 1000000 in
theorem nm_ok_m133 : px_okM nm_cl nm_T nm_P nm_C10 nm_CE nm_mf 10 0 9 nm_m133 = true := px_okM2_ok (by decide +kernel)
set_option maxRecDepth 1000000 in
theorem nm_ok_m134 : px_okM nm_cl nm_T nm_P nm_C10 nm_CE nm_mf 10 0 9 nm_m134 = true := px_okM2_ok (by decide +kernel)
set_option maxRecDepth 1000000 in
theorem nm_ok_m135 : px_okM nm_cl nm_T nm_P nm_C10 nm_CE nm_mf 10 0 9 nm_m135 = true := px_okM2_ok (by decide +kernel)
set_option maxRecDepth 1000000 in
theorem nm_ok_m136 : px_okM nm_cl nm_T nm_P nm_C10 nm_CE nm_mf 10 0 9 nm_m136 = true := px_okM2_ok (by decide +kernel)
set_option maxRecDepth 1000000 in
theorem nm_ok_m137 : px_okM nm_cl nm_T nm_P nm_C10 nm_CE nm_mf 10 0 9 nm_m137 = true := px_okM2_ok (by decide +kernel)
set_option maxRecDepth 1000000 in
theorem nm_ok_m138 : px_okM nm_cl nm_T nm_P nm_C10 nm_CE nm_mf 10 0 9 nm_m138 = true := px_okM2_ok (by decide +kernel)
set_option maxRecDepth 1000000 in
theorem nm_ok_m139 : px_okM nm_cl nm_T nm_P nm_C10 nm_CE nm_mf 10 0 9 nm_m139 = true := px_okM2_ok (by decide +kernel)
set_option maxRecDepth 1000000 in
theorem nm_ok_m140 : px_okM nm_cl nm_T nm_P nm_C10 nm_CE nm_mf 10 0 9 nm_m140 = true := px_okM2_ok (by decide +kernel)
set_option maxRecDepth 1000000 in
theorem nm_ok_m141 : px_okM nm_cl nm_T nm_P nm_C10 nm_CE nm_mf 10 0 9 nm_m141 = true := px_okM2_ok (by decide +kernel)
set_option maxRecDepth 1000000 in
theorem nm_ok_m142 : px_okM nm_cl nm_T nm_P nm_C10 nm_CE nm_mf 10 0 9 nm_m142 = true := px_okM2_ok (by decide +kernel)
set_option maxRecDepth 1000000 in
theorem nm_ok_m143 : px_okM nm_cl nm_T nm_P nm_C10 nm_CE nm_mf 10 0 9 nm_m143 = true := px_okM2_ok (by decide +kernel)
set_option maxRecDepth 1000000 in
theorem nm_ok_m144 : px_okM nm_cl nm_T nm_P nm_C10 nm_CE nm_mf 10 0 9 nm_m144 = true := px_okM2_ok (by decide +kernel)
set_option maxRecDepth 1000000 in
theorem nm_ok_m145 : px_okM nm_cl nm_T nm_P nm_C10 nm_CE nm_mf 10 0 9 nm_m145 = true := px_okM2_ok (by decide +kernel)
set_option maxRecDepth 1000000 in
theorem nm_ok_m146 : px_okM nm_cl nm_T nm_P nm_C10 nm_CE nm_mf 10 0 9 nm_m146 = true := px_okM2_ok (by decide +kernel)
set_option maxRecDepth 1000000 in
theorem nm_ok_m147 : px_okM nm_cl nm_T nm_P nm_C10 nm_CE nm_mf 10 0 9 nm_m147 = true := px_okM2_ok (by decide +kernel)
set_option maxRecDepth 1000000 in
theorem nm_ok_m148 : px_okM nm_cl nm_T nm_P nm_C10 nm_CE nm_mf 10 0 9 nm_m148 = true := px_okM2_ok (by decide +kernel)
set_option maxRecDepth 1000000 in
theorem nm_ok_m149 : px_okM nm_cl nm_T nm_P nm_C10 nm_CE nm_mf 10 0 9 nm_m149 = true := px_okM2_ok (by decide +kernel)
set_option maxRecDepth 1000000 in
theorem nm_ok_m150 : px_okM nm_cl nm_T nm_P nm_C10 nm_CE nm_mf 10 0 9 nm_m150 = true := px_okM2_ok (by decide +kernel)
set_option maxRecDepth 1000000 in
theorem nm_ok_m151 : px_okM nm_cl nm_T nm_P nm_C10 nm_CE nm_mf 10 0 9 nm_m151 = true := px_okM2_ok (by decide +kernel)
set_option maxRecDepth 1000000 in
theorem nm_ok_m152 : px_okM nm_cl nm_T nm_P nm_C10 nm_CE nm_mf 10 0 9 nm_m152 = true := px_okM2_ok (by decide +kernel)
set_option maxRecDepth 1000000 in
theorem nm_ok_m153 : px_okM nm_cl nm_T nm_P nm_C10 nm_CE nm_mf 10 0 9 nm_m153 = true := px_okM2_ok (by decide +kernel)
set_option maxRecDepth 1000000 in
theorem nm_ok_m154 : px_okM nm_cl nm_T nm_P nm_C10 nm_CE nm_mf 10 0 9 nm_m154 = true := px_okM2_ok (by decide +kernel)
set_option maxRecDepth 1000000 in
theorem nm_ok_m155 : px_okM nm_cl nm_T nm_P nm_C10 nm_CE nm_mf 10 0 9 nm_m155 = true := px_okM2_ok (by decide +kernel)
set_option maxRecDepth 1000000 in
theorem nm_ok_m156 : px_okM nm_cl nm_T nm_P nm_C10 nm_CE nm_mf 10 0 9 nm_m156 = true := px_okM2_ok (by decide +kernel)
set_option maxRecDepth 1000000 in
theorem nm_ok_m157 : px_okM nm_cl nm_T nm_P nm_C10 nm_CE nm_mf 10 0 9 nm_m157 = true := px_okM2_ok (by decide +kernel)
set_option maxRecDepth 1000000 in
theorem nm_ok_m158 : px_okM nm_cl nm_T nm_P nm_C10 nm_CE nm_mf 10 0 9 nm_m158 = true := px_okM2_ok (by decide +kernel)
set_option maxRecDepth 1000000 in
theorem nm_ok_m159 : px_okM nm_cl nm_T nm_P nm_C10 nm_CE nm_mf 10 0 9 nm_m159 = true := px_okM2_ok (by decide +kernel)
set_option maxRecDepth 1000000 in
theorem nm_ok_m160 : px_okM nm_cl nm_T nm_P nm_C10 nm_CE nm_mf 10 0 9 nm_m160 = true := px_okM2_ok (by decide +kernel)
set_option maxRecDepth 1000000 in
theorem nm_ok_m161 : px_okM nm_cl nm_T nm_P nm_C10 nm_CE nm_mf 10 0 9 nm_m161 = true := px_okM2_ok (by decide +kernel)
set_option maxRecDepth 1000000 in
theorem nm_ok_m162 : px_okM nm_cl nm_T nm_P nm_C10 nm_CE nm_mf 10 0 9 nm_m162 = true := px_okM2_ok (by decide +kernel)
set_option maxRecDepth 1000000 in
theorem nm_ok_m163 : px_okM nm_cl nm_T nm_P nm_C10 nm_CE nm_mf 10 0 9 nm_m163 = true := px_okM2_ok (by decide +kernel)
set_option maxRecDepth 1000000 in
theorem nm_ok_m164 : px_okM nm_cl nm_T nm_P nm_C10 nm_CE nm_mf 10 0 9 nm_m164 = true := px_okM2_ok (by decide +kernel)
set_option maxRecDepth 1000000 in
theorem nm_ok_m165 : px_okM nm_cl nm_T nm_P nm_C10 nm_CE nm_mf 10 0 9 nm_m165 = true := px_okM2_ok (by decide +kernel)
set_option maxRecDepth 1000000 in
theorem nm_ok_m166 : px_okM nm_cl nm_T nm_P nm_C10 nm_CE nm_mf 10 0 9 nm_m166 = true := px_okM2_ok (by decide +kernel)
set_option maxRecDepth 1000000 in
theorem nm_ok_m167 : px_okM nm_cl nm_T nm_P nm_C10 nm_CE nm_mf 10 0 9 nm_m167 = true := px_okM2_ok (by decide +kernel)
set_option maxRecDepth 1000000 in
theorem nm_ok_m168 : px_okM nm_cl nm_T nm_P nm_C10 nm_CE nm_mf 10 0 9 nm_m168 = true := px_okM2_ok (by decide +kernel)
set_option maxRecDepth 1000000 in
theorem nm_ok_m169 : px_okM nm_cl nm_T nm_P nm_C10 nm_CE nm_mf 10 0 9 nm_m169 = true := px_okM2_ok (by decide +kernel)
set_option maxRecDepth 1000000 in
theorem nm_ok_m170 : px_okM nm_cl nm_T nm_P nm_C10 nm_CE nm_mf 10 0 9 nm_m170 = true := px_okM2_ok (by decide +kernel)
set_option maxRecDepth 1000000 in
theorem nm_ok_m171 : px_okM nm_cl nm_T nm_P nm_C10 nm_CE nm_mf 10 0 9 nm_m171 = true := px_okM2_ok (by decide +kernel)
set_option maxRecDepth 1000000 in
theorem nm_ok_m172 : px_okM nm_cl nm_T nm_P nm_C10 nm_CE nm_mf 10 0 9 nm_m172 = true := px_okM2_ok (by decide +kernel)
set_option maxRecDepth 1000000 in
theorem nm_ok_m173 : px_okM nm_cl nm_T nm_P nm_C10 nm_CE nm_mf 10 0 9 nm_m173 = true := px_okM2_ok (by decide +kernel)
set_option maxRecDepth 1000000 in
theorem nm_ok_m174 : px_okM nm_cl nm_T nm_P nm_C10 nm_CE nm_mf 10 0 9 nm_m174 = true := px_okM2_ok (by decide +kernel)
set_option maxRecDepth 1000000 in
theorem nm_ok_m175 : px_okM nm_cl nm_T nm_P nm_C10 nm_CE nm_mf 10 0 9 nm_m175 = true := px_okM2_ok (by decide +kernel)
set_option maxRecDepth 1000000 in
theorem nm_ok_m176 : px_okM nm_cl nm_T nm_P nm_C10 nm_CE nm_mf 10 0 9 nm_m176 = true := px_okM2_ok (by decide +kernel)
set_option maxRecDepth 1000000 in
theorem nm_ok_m177 : px_okM nm_cl nm_T nm_P nm_C10 nm_CE nm_mf 10 0 9 nm_m177 = true := px_okM2_ok (by decide +kernel)
set_option maxRecDepth 1000000 in
theorem nm_ok_m178 : px_okM nm_cl nm_T nm_P nm_C10 nm_CE nm_mf 10 0 9 nm_m178 = true := px_okM2_ok (by decide +kernel)
set_option maxRecDepth 1000000 in
theorem nm_ok_m179 : px_okM nm_cl nm_T nm_P nm_C10 nm_CE nm_mf 10 0 9 nm_m179 = true := px_okM2_ok (by decide +kernel)
