/-! the pairs of calls that the relation hangs on -/
abbrev ex_tr : ex_T := [((1, 0), (69, 3))]
def exX_person : ex_M := ([], [], kc_X_person_0.2.2.2.2.1, kc_X_person_0.2.2.2.2.2, mi_X_person, kc_X_person_0.2.1)
def exM_person : ex_M := ([], [], kc_M_person_0.2.2.2.2.1, kc_M_person_0.2.2.2.2.2, mi_M_person, kc_M_person_0.2.1)
abbrev ext_person : ex_T := [((1, 0), (69, 3))]
set_option maxRecDepth 1000000 in
theorem exv_person : (ex_cmb ext_person).all (ex_ck exX_person exM_person true ext_person) = true := by decide +kernel
set_option maxRecDepth 1000000 in
theorem exw_person : ex_cov exX_person exM_person ext_person ex_tr = true := by decide +kernel
theorem ex_person {hp : px_H} {a1 : Int32} (hG : ab_h nm_GH hp) (hR : ex_R ex_tr hp) : ex_two' exX_person exM_person true ex_tr 0 69 [.int a1] hp := ex_two (fun _ h => absurd h List.not_mem_nil) (fun _ h => absurd h List.not_mem_nil) exv_person exw_person hG hR ⟨⟨rfl, List.mem_cons_self⟩, ⟨rfl, ab_i32 _⟩, trivial⟩ ⟨⟨rfl, List.mem_cons_self⟩, ⟨rfl, ab_i32 _⟩, trivial⟩
def exX_away : ex_M := ([], [], kc_X_away_0.2.2.2.2.1, kc_X_away_0.2.2.2.2.2, mi_X_away, kc_X_away_0.2.1)
def exM_away : ex_M := ([], [], kc_M_away_0.2.2.2.2.1, kc_M_away_0.2.2.2.2.2, mi_M_away, kc_M_away_0.2.1)
abbrev ext_away : ex_T := [((1, 0), (69, 3))]
set_option maxRecDepth 1000000 in
theorem exv_away : (ex_cmb ext_away).all (ex_ck exX_away exM_away true ext_away) = true := by decide +kernel
set_option maxRecDepth 1000000 in
theorem exw_away : ex_cov exX_away exM_away ext_away ex_tr = true := by decide +kernel
theorem ex_away {hp : px_H} {a1 a2 a3 : Int32} (hG : ab_h nm_GH hp) (hR : ex_R ex_tr hp) : ex_two' exX_away exM_away true ex_tr 0 69 [.int a1, .int a2, .int a3] hp := ex_two (fun _ h => absurd h List.not_mem_nil) (fun _ h => absurd h List.not_mem_nil) exv_away exw_away hG hR ⟨⟨rfl, List.mem_cons_self⟩, ⟨rfl, ab_i32 _⟩, ⟨rfl, ab_i32 _⟩, ⟨rfl, ab_i32 _⟩, trivial⟩ ⟨⟨rfl, List.mem_cons_self⟩, ⟨rfl, ab_i32 _⟩, ⟨rfl, ab_i32 _⟩, ⟨rfl, ab_i32 _⟩, trivial⟩
