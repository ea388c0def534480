/-! the pairs of calls that the relation hangs on -/
abbrev ex_tr : ex_T := [((1, 0), (69, 3)), ((0, 16), (69, 49))]
def exX_person : ex_M := ([], [], kc_X_person_0.2.2.2.2.1, kc_X_person_0.2.2.2.2.2, mi_X_person, kc_X_person_0.2.1)
def exM_person : ex_M := ([], [], kc_M_person_0.2.2.2.2.1, kc_M_person_0.2.2.2.2.2, mi_M_person, kc_M_person_0.2.1)
abbrev ext_person : ex_T := [((1, 0), (69, 3))]
set_option maxRecDepth 1000000 in
theorem exv_person : (ex_cmb ext_person).all (ex_ck exX_person exM_person true ext_person) = true := by decide +kernel
set_option maxRecDepth 1000000 in
theorem exw_person : ex_cov exX_person exM_person ext_person ex_tr = true := by decide +kernel
theorem ex_person {hp : px_H} {a1 : Int32} (hG : ab_h nm_GH hp) (hR : ex_R ex_tr hp) : ex_two' exX_person exM_person true ex_tr 0 69 [.int a1] hp := ex_two (fun _ h => absurd h List.not_mem_nil) (fun _ h => absurd h List.not_mem_nil) exv_person exw_person hG hR ⟨⟨rfl, List.mem_cons_self⟩, ⟨rfl, ab_i32 _⟩, trivial⟩ ⟨⟨rfl, List.mem_cons_self⟩, ⟨rfl, ab_i32 _⟩, trivial⟩
def exX_list : ex_M := ([], [], kc_X_list_0.2.2.2.2.1, kc_X_list_0.2.2.2.2.2, mi_X_list, kc_X_list_0.2.1)
def exM_list : ex_M := ([], [], kc_M_list_0.2.2.2.2.1, kc_M_list_0.2.2.2.2.2, mi_M_list, kc_M_list_0.2.1)
abbrev ext_list : ex_T := [((1, 0), (69, 3)), ((0, 16), (69, 49))]
set_option maxRecDepth 1000000 in
theorem exu_list_0 : (((ex_cmb ext_list).drop 0).take 11).all (ex_ck exX_list exM_list true ext_list) = true := by decide +kernel
set_option maxRecDepth 1000000 in
theorem exu_list_1 : (((ex_cmb ext_list).drop 11).take 11).all (ex_ck exX_list exM_list true ext_list) = true := by decide +kernel
set_option maxRecDepth 1000000 in
theorem exu_list_2 : (((ex_cmb ext_list).drop 22).take 11).all (ex_ck exX_list exM_list true ext_list) = true := by decide +kernel
set_option maxRecDepth 1000000 in
theorem exu_list_3 : (((ex_cmb ext_list).drop 33).take 11).all (ex_ck exX_list exM_list true ext_list) = true := by decide +kernel
set_option maxRecDepth 1000000 in
theorem exu_list_4 : (((ex_cmb ext_list).drop 44).take 11).all (ex_ck exX_list exM_list true ext_list) = true := by decide +kernel
set_option maxRecDepth 1000000 in
theorem exu_list_5 : (((ex_cmb ext_list).drop 55).take 11).all (ex_ck exX_list exM_list true ext_list) = true := by decide +kernel
set_option maxRecDepth 1000000 in
theorem exu_list_6 : (((ex_cmb ext_list).drop 66).take 11).all (ex_ck exX_list exM_list true ext_list) = true := by decide +kernel
theorem exs_list : (ex_cmb ext_list).length = 77 := by decide +kernel
theorem exv_list : (ex_cmb ext_list).all (ex_ck exX_list exM_list true ext_list) = true := by
  have h : ((ex_cmb ext_list).drop 0).all (ex_ck exX_list exM_list true ext_list) = true := (ex_cut 11 exu_list_0 (by rw [List.drop_drop]; exact (ex_cut 11 exu_list_1 (by rw [List.drop_drop]; exact (ex_cut 11 exu_list_2 (by rw [List.drop_drop]; exact (ex_cut 11 exu_list_3 (by rw [List.drop_drop]; exact (ex_cut 11 exu_list_4 (by rw [List.drop_drop]; exact (ex_cut 11 exu_list_5 (by rw [List.drop_drop]; exact (ex_cut 11 exu_list_6 (by rw [List.drop_drop]; exact (by rw [List.drop_eq_nil_of_le (by rw [exs_list]; decide)]; rfl)))))))))))))))
  rw [List.drop_zero] at h
  exact h
set_option maxRecDepth 1000000 in
theorem exw_list : ex_cov exX_list exM_list ext_list ex_tr = true := by decide +kernel
theorem ex_list {hp : px_H} {a1 : Int32} (hG : ab_h nm_GH hp) (hR : ex_R ex_tr hp) : ex_two' exX_list exM_list true ex_tr 0 69 [.int a1] hp := ex_two (fun _ h => absurd h List.not_mem_nil) (fun _ h => absurd h List.not_mem_nil) exv_list exw_list hG hR ⟨⟨rfl, List.mem_cons_self⟩, ⟨rfl, ab_i32 _⟩, trivial⟩ ⟨⟨rfl, List.mem_cons_self⟩, ⟨rfl, ab_i32 _⟩, trivial⟩
def exX_wipe : ex_M := ([], [], kc_X_wipe_0.2.2.2.2.1, kc_X_wipe_0.2.2.2.2.2, mi_X_wipe, kc_X_wipe_0.2.1)
def exM_wipe : ex_M := ([], [], kc_M_wipe_0.2.2.2.2.1, kc_M_wipe_0.2.2.2.2.2, mi_M_wipe, kc_M_wipe_0.2.1)
abbrev ext_wipe : ex_T := [((0, 16), (69, 49))]
set_option maxRecDepth 1000000 in
theorem exv_wipe : (ex_cmb ext_wipe).all (ex_ck exX_wipe exM_wipe true ext_wipe) = true := by decide +kernel
set_option maxRecDepth 1000000 in
theorem exw_wipe : ex_cov exX_wipe exM_wipe ext_wipe ex_tr = true := by decide +kernel
theorem ex_wipe {hp : px_H} (hG : ab_h nm_GH hp) (hR : ex_R ex_tr hp) : ex_two' exX_wipe exM_wipe true ex_tr 0 69 [] hp := ex_two (fun _ h => absurd h List.not_mem_nil) (fun _ h => absurd h List.not_mem_nil) exv_wipe exw_wipe hG hR ⟨⟨rfl, List.mem_cons_self⟩, trivial⟩ ⟨⟨rfl, List.mem_cons_self⟩, trivial⟩
