set_option maxRecDepth 1000000 in
theorem kq_Chest_startAnew_0 : ac_check nm_T nm_P nm_GH nm_FA [] [] 20000 kc_Chest_startAnew_0 = true := by decide +kernel
theorem kp_Chest_startAnew_0 : nm_ok kc_Chest_startAnew_0 := ac_check_ok nm_Fl nm_FG (fun _ h => absurd h List.not_mem_nil) kq_Chest_startAnew_0
set_option maxRecDepth 1000000 in
theorem kq_Chest_startAnew_1 : ac_check nm_T nm_P nm_GH nm_FA [] [] 20000 kc_Chest_startAnew_1 = true := by decide +kernel
theorem kp_Chest_startAnew_1 : nm_ok kc_Chest_startAnew_1 := ac_check_ok nm_Fl nm_FG (fun _ h => absurd h List.not_mem_nil) kq_Chest_startAnew_1
set_option maxRecDepth 1000000 in
theorem kq_Chest_startAnew_2 : ac_check nm_T nm_P nm_GH nm_FA [] [] 20000 kc_Chest_startAnew_2 = true := by decide +kernel
theorem kp_Chest_startAnew_2 : nm_ok kc_Chest_startAnew_2 := ac_check_ok nm_Fl nm_FG (fun _ h => absurd h List.not_mem_nil) kq_Chest_startAnew_2
set_option maxRecDepth 1000000 in
theorem kq_Chest_startAnew_3 : ac_check nm_T nm_P nm_GH nm_FA [] [] 20000 kc_Chest_startAnew_3 = true := by decide +kernel
theorem kp_Chest_startAnew_3 : nm_ok kc_Chest_startAnew_3 := ac_check_ok nm_Fl nm_FG (fun _ h => absurd h List.not_mem_nil) kq_Chest_startAnew_3
set_option maxRecDepth 1000000 in
theorem kq_Chest_startAnew_4 : ac_check nm_T nm_P nm_GH nm_FA [] [] 20000 kc_Chest_startAnew_4 = true := by decide +kernel
theorem kp_Chest_startAnew_4 : nm_ok kc_Chest_startAnew_4 := ac_check_ok nm_Fl nm_FG (fun _ h => absurd h List.not_mem_nil) kq_Chest_startAnew_4
set_option maxRecDepth 1000000 in
theorem kq_Chest_startAnew_5 : ac_check nm_T nm_P nm_GH nm_FA [] [] 20000 kc_Chest_startAnew_5 = true := by decide +kernel
theorem kp_Chest_startAnew_5 : nm_ok kc_Chest_startAnew_5 := ac_check_ok nm_Fl nm_FG (fun _ h => absurd h List.not_mem_nil) kq_Chest_startAnew_5
set_option maxRecDepth 1000000 in
theorem kq_Course_kinOf_0 : ac_check nm_T nm_P nm_GH nm_FA [] [kl_Course_kinOf_4] 20000 kc_Course_kinOf_0 = true := by decide +kernel
theorem kp_Course_kinOf_0 : nm_ok kc_Course_kinOf_0 := ac_check_ok nm_Fl nm_FG (fun _ h => absurd h List.not_mem_nil) kq_Course_kinOf_0
set_option maxRecDepth 1000000 in
theorem kq_Course_satSince_0 : ac_check nm_T nm_P nm_GH nm_FA [] [kl_Course_satSince_5] 20000 kc_Course_satSince_0 = true := by decide +kernel
theorem kp_Course_satSince_0 : nm_ok kc_Course_satSince_0 := ac_check_ok nm_Fl nm_FG (fun _ h => absurd h List.not_mem_nil) kq_Course_satSince_0
set_option maxRecDepth 1000000 in
theorem kq_Course_barredBy_0 : ac_check nm_T nm_P nm_GH nm_FA [kc_Course_kinOf_0, kc_Course_satSince_0] [] 20000 kc_Course_barredBy_0 = true := by decide +kernel
theorem kp_Course_barredBy_0 : nm_ok kc_Course_barredBy_0 := ac_check_ok nm_Fl nm_FG (List.forall_mem_cons.mpr ⟨kp_Course_kinOf_0, List.forall_mem_cons.mpr ⟨kp_Course_satSince_0, fun _ h => absurd h List.not_mem_nil⟩⟩) kq_Course_barredBy_0
set_option maxRecDepth 1000000 in
theorem kq_Course_barredAtFirst_0 : ac_check nm_T nm_P nm_GH nm_FA [kc_Course_barredBy_0] [kl_Course_barredAtFirst_4] 20000 kc_Course_barredAtFirst_0 = true := by decide +kernel
theorem kp_Course_barredAtFirst_0 : nm_ok kc_Course_barredAtFirst_0 := ac_check_ok nm_Fl nm_FG (List.forall_mem_cons.mpr ⟨kp_Course_barredBy_0, fun _ h => absurd h List.not_mem_nil⟩) kq_Course_barredAtFirst_0
set_option maxRecDepth 1000000 in
theorem kq_Chest_open_0 : ac_check nm_T nm_P nm_GH nm_FA [kc_Course_barredAtFirst_0] [] 20000 kc_Chest_open_0 = true := by decide +kernel
theorem kp_Chest_open_0 : nm_ok kc_Chest_open_0 := ac_check_ok nm_Fl nm_FG (List.forall_mem_cons.mpr ⟨kp_Course_barredAtFirst_0, fun _ h => absurd h List.not_mem_nil⟩) kq_Chest_open_0
set_option maxRecDepth 1000000 in
theorem kq_Chest_open_1 : ac_check nm_T nm_P nm_GH nm_FA [kc_Course_barredAtFirst_0] [] 20000 kc_Chest_open_1 = true := by decide +kernel
theorem kp_Chest_open_1 : nm_ok kc_Chest_open_1 := ac_check_ok nm_Fl nm_FG (List.forall_mem_cons.mpr ⟨kp_Course_barredAtFirst_0, fun _ h => absurd h List.not_mem_nil⟩) kq_Chest_open_1
set_option maxRecDepth 1000000 in
theorem kq_Chest_open_2 : ac_check nm_T nm_P nm_GH nm_FA [kc_Course_barredAtFirst_0] [] 20000 kc_Chest_open_2 = true := by decide +kernel
theorem kp_Chest_open_2 : nm_ok kc_Chest_open_2 := ac_check_ok nm_Fl nm_FG (List.forall_mem_cons.mpr ⟨kp_Course_barredAtFirst_0, fun _ h => absurd h List.not_mem_nil⟩) kq_Chest_open_2
set_option maxRecDepth 1000000 in
theorem kq_Chest_open_3 : ac_check nm_T nm_P nm_GH nm_FA [kc_Course_barredAtFirst_0] [] 20000 kc_Chest_open_3 = true := by decide +kernel
theorem kp_Chest_open_3 : nm_ok kc_Chest_open_3 := ac_check_ok nm_Fl nm_FG (List.forall_mem_cons.mpr ⟨kp_Course_barredAtFirst_0, fun _ h => absurd h List.not_mem_nil⟩) kq_Chest_open_3
set_option maxRecDepth 1000000 in
theorem kq_Chest_open_4 : ac_check nm_T nm_P nm_GH nm_FA [kc_Course_barredAtFirst_0] [] 20000 kc_Chest_open_4 = true := by decide +kernel
theorem kp_Chest_open_4 : nm_ok kc_Chest_open_4 := ac_check_ok nm_Fl nm_FG (List.forall_mem_cons.mpr ⟨kp_Course_barredAtFirst_0, fun _ h => absurd h List.not_mem_nil⟩) kq_Chest_open_4
set_option maxRecDepth 1000000 in
theorem kq_Chest_open_5 : ac_check nm_T nm_P nm_GH nm_FA [kc_Course_barredAtFirst_0] [] 20000 kc_Chest_open_5 = true := by decide +kernel
theorem kp_Chest_open_5 : nm_ok kc_Chest_open_5 := ac_check_ok nm_Fl nm_FG (List.forall_mem_cons.mpr ⟨kp_Course_barredAtFirst_0, fun _ h => absurd h List.not_mem_nil⟩) kq_Chest_open_5
set_option maxRecDepth 1000000 in
theorem kq_Chest_isOver_0 : ac_check nm_T nm_P nm_GH nm_FA [kc_I_bitCount_0] [] 20000 kc_Chest_isOver_0 = true := by decide +kernel
theorem kp_Chest_isOver_0 : nm_ok kc_Chest_isOver_0 := ac_check_ok nm_Fl nm_FG (List.forall_mem_cons.mpr ⟨kp_I_bitCount_0, fun _ h => absurd h List.not_mem_nil⟩) kq_Chest_isOver_0
set_option maxRecDepth 1000000 in
theorem kq_Chest_isOver_1 : ac_check nm_T nm_P nm_GH nm_FA [kc_I_bitCount_0] [] 20000 kc_Chest_isOver_1 = true := by decide +kernel
theorem kp_Chest_isOver_1 : nm_ok kc_Chest_isOver_1 := ac_check_ok nm_Fl nm_FG (List.forall_mem_cons.mpr ⟨kp_I_bitCount_0, fun _ h => absurd h List.not_mem_nil⟩) kq_Chest_isOver_1
set_option maxRecDepth 1000000 in
theorem kq_Chest_isOver_2 : ac_check nm_T nm_P nm_GH nm_FA [kc_I_bitCount_0] [] 20000 kc_Chest_isOver_2 = true := by decide +kernel
theorem kp_Chest_isOver_2 : nm_ok kc_Chest_isOver_2 := ac_check_ok nm_Fl nm_FG (List.forall_mem_cons.mpr ⟨kp_I_bitCount_0, fun _ h => absurd h List.not_mem_nil⟩) kq_Chest_isOver_2
set_option maxRecDepth 1000000 in
theorem kq_Chest_isOver_3 : ac_check nm_T nm_P nm_GH nm_FA [kc_I_bitCount_0] [] 20000 kc_Chest_isOver_3 = true := by decide +kernel
theorem kp_Chest_isOver_3 : nm_ok kc_Chest_isOver_3 := ac_check_ok nm_Fl nm_FG (List.forall_mem_cons.mpr ⟨kp_I_bitCount_0, fun _ h => absurd h List.not_mem_nil⟩) kq_Chest_isOver_3
set_option maxRecDepth 1000000 in
theorem kq_Chest_isOver_4 : ac_check nm_T nm_P nm_GH nm_FA [kc_I_bitCount_0] [] 20000 kc_Chest_isOver_4 = true := by decide +kernel
theorem kp_Chest_isOver_4 : nm_ok kc_Chest_isOver_4 := ac_check_ok nm_Fl nm_FG (List.forall_mem_cons.mpr ⟨kp_I_bitCount_0, fun _ h => absurd h List.not_mem_nil⟩) kq_Chest_isOver_4
set_option maxRecDepth 1000000 in
theorem kq_Chest_isOver_5 : ac_check nm_T nm_P nm_GH nm_FA [kc_I_bitCount_0] [] 20000 kc_Chest_isOver_5 = true := by decide +kernel
theorem kp_Chest_isOver_5 : nm_ok kc_Chest_isOver_5 := ac_check_ok nm_Fl nm_FG (List.forall_mem_cons.mpr ⟨kp_I_bitCount_0, fun _ h => absurd h List.not_mem_nil⟩) kq_Chest_isOver_5
set_option maxRecDepth 1000000 in
theorem kq_Chest_takeOut_0 : ac_check nm_T nm_P nm_GH nm_FA [] [] 20000 kc_Chest_takeOut_0 = true := by decide +kernel
theorem kp_Chest_takeOut_0 : nm_ok kc_Chest_takeOut_0 := ac_check_ok nm_Fl nm_FG (fun _ h => absurd h List.not_mem_nil) kq_Chest_takeOut_0
set_option maxRecDepth 1000000 in
theorem kq_Chest_takeOut_1 : ac_check nm_T nm_P nm_GH nm_FA [] [] 20000 kc_Chest_takeOut_1 = true := by decide +kernel
theorem kp_Chest_takeOut_1 : nm_ok kc_Chest_takeOut_1 := ac_check_ok nm_Fl nm_FG (fun _ h => absurd h List.not_mem_nil) kq_Chest_takeOut_1
