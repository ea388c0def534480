/-! the pairs of calls that the relation hangs on -/
abbrev ex_tr : ex_T := [((12, 1), (69, 22))]
def exX_sign : ex_M := ([], [], kc_X_sign_0.2.2.2.2.1, kc_X_sign_0.2.2.2.2.2, mi_X_sign, kc_X_sign_0.2.1)
def exM_sign : ex_M := ([], [], kc_M_sign_0.2.2.2.2.1, kc_M_sign_0.2.2.2.2.2, mi_M_sign, kc_M_sign_0.2.1)
abbrev ext_sign : ex_T := [((12, 1), (69, 22))]
set_option maxRecDepth 1000000 in
theorem exu_sign_0 : (((ex_cmb ext_sign).drop 0).take 6).all (ex_ck exX_sign exM_sign true ext_sign) = true := by decide +kernel
set_option maxRecDepth 1000000 in
theorem exu_sign_1 : (((ex_cmb ext_sign).drop 6).take 6).all (ex_ck exX_sign exM_sign true ext_sign) = true := by decide +kernel
set_option maxRecDepth 1000000 in
theorem exu_sign_2 : (((ex_cmb ext_sign).drop 12).take 6).all (ex_ck exX_sign exM_sign true ext_sign) = true := by decide +kernel
set_option maxRecDepth 1000000 in
theorem exu_sign_3 : (((ex_cmb ext_sign).drop 18).take 6).all (ex_ck exX_sign exM_sign true ext_sign) = true := by decide +kernel
set_option maxRecDepth 1000000 in
theorem exu_sign_4 : (((ex_cmb ext_sign).drop 24).take 6).all (ex_ck exX_sign exM_sign true ext_sign) = true := by decide +kernel
set_option maxRecDepth 1000000 in
theorem exu_sign_5 : (((ex_cmb ext_sign).drop 30).take 6).all (ex_ck exX_sign exM_sign true ext_sign) = true := by decide +kernel
set_option maxRecDepth 1000000 in
theorem exu_sign_6 : (((ex_cmb ext_sign).drop 36).take 6).all (ex_ck exX_sign exM_sign true ext_sign) = true := by decide +kernel
theorem exs_sign : (ex_cmb ext_sign).length = 41 := by decide +kernel
theorem exv_sign : (ex_cmb ext_sign).all (ex_ck exX_sign exM_sign true ext_sign) = true := by
  have h : ((ex_cmb ext_sign).drop 0).all (ex_ck exX_sign exM_sign true ext_sign) = true := (ex_cut 6 exu_sign_0 (by rw [List.drop_drop]; exact (ex_cut 6 exu_sign_1 (by rw [List.drop_drop]; exact (ex_cut 6 exu_sign_2 (by rw [List.drop_drop]; exact (ex_cut 6 exu_sign_3 (by rw [List.drop_drop]; exact (ex_cut 6 exu_sign_4 (by rw [List.drop_drop]; exact (ex_cut 6 exu_sign_5 (by rw [List.drop_drop]; exact (ex_cut 6 exu_sign_6 (by rw [List.drop_drop]; exact (by rw [List.drop_eq_nil_of_le (by rw [exs_sign]; decide)]; rfl)))))))))))))))
  rw [List.drop_zero] at h
  exact h
set_option maxRecDepth 1000000 in
theorem exw_sign : ex_cov exX_sign exM_sign ext_sign ex_tr = true := by decide +kernel
theorem ex_sign {hp : px_H} {a1 : Int32} (hG : ab_h nm_GH hp) (hR : ex_R ex_tr hp) : ex_two' exX_sign exM_sign true ex_tr 0 69 [.int a1] hp := ex_two (fun _ h => absurd h List.not_mem_nil) (fun _ h => absurd h List.not_mem_nil) exv_sign exw_sign hG hR ⟨⟨rfl, List.mem_cons_self⟩, ⟨rfl, ab_i32 _⟩, trivial⟩ ⟨⟨rfl, List.mem_cons_self⟩, ⟨rfl, ab_i32 _⟩, trivial⟩
