set_option maxRecDepth 1000000 in
theorem kq_Town_clearDebts_0 : ac_check nm_T nm_P nm_GH nm_FA [] [kl_Town_clearDebts_2] 20000 kc_Town_clearDebts_0 = true := by decide +kernel
theorem kp_Town_clearDebts_0 : nm_ok kc_Town_clearDebts_0 := ac_check_ok nm_Fl nm_FG (fun _ h => absurd h List.not_mem_nil) kq_Town_clearDebts_0
set_option maxRecDepth 1000000 in
theorem kq_Walk_start_0 : ac_check nm_T nm_P nm_GH nm_FA [kc_Table_clear_0, kc_Table_add_0] [] 20000 kc_Walk_start_0 = true := by decide +kernel
theorem kp_Walk_start_0 : nm_ok kc_Walk_start_0 := ac_check_ok nm_Fl nm_FG (List.forall_mem_cons.mpr ⟨kp_Table_clear_0, List.forall_mem_cons.mpr ⟨kp_Table_add_0, fun _ h => absurd h List.not_mem_nil⟩⟩) kq_Walk_start_0
set_option maxRecDepth 1000000 in
theorem kq_Walk_openAll_0 : ac_check nm_T nm_P nm_GH nm_FA [kc_Table_clear_0, kc_Chest_open_2, kc_Table_add_0] [kl_Walk_openAll_9] 20000 kc_Walk_openAll_0 = true := by decide +kernel
theorem kp_Walk_openAll_0 : nm_ok kc_Walk_openAll_0 := ac_check_ok nm_Fl nm_FG (List.forall_mem_cons.mpr ⟨kp_Table_clear_0, List.forall_mem_cons.mpr ⟨kp_Chest_open_2, List.forall_mem_cons.mpr ⟨kp_Table_add_0, fun _ h => absurd h List.not_mem_nil⟩⟩⟩) kq_Walk_openAll_0
set_option maxRecDepth 1000000 in
theorem kq_Walk_drawEach_0 : ac_check nm_T nm_P nm_GH nm_FA [kc_I_bitCount_0, kc_Course_foretell_0, kc_Chest_takeOut_2, kc_Table_add_0] [kl_Walk_drawEach_83] 20000 kc_Walk_drawEach_0 = true := by decide +kernel
theorem kp_Walk_drawEach_0 : nm_ok kc_Walk_drawEach_0 := ac_check_ok nm_Fl nm_FG (List.forall_mem_cons.mpr ⟨kp_I_bitCount_0, List.forall_mem_cons.mpr ⟨kp_Course_foretell_0, List.forall_mem_cons.mpr ⟨kp_Chest_takeOut_2, List.forall_mem_cons.mpr ⟨kp_Table_add_0, fun _ h => absurd h List.not_mem_nil⟩⟩⟩⟩) kq_Walk_drawEach_0
set_option maxRecDepth 1000000 in
theorem kq_Walk_drawAll_0 : ac_check nm_T nm_P nm_GH nm_FA [kc_Table_clear_0, kc_Chest_isOver_2, kc_Walk_drawEach_0, kc_Chest_close_2, kc_Table_add_0] [kl_Walk_drawAll_9] 20000 kc_Walk_drawAll_0 = true := by decide +kernel
theorem kp_Walk_drawAll_0 : nm_ok kc_Walk_drawAll_0 := ac_check_ok nm_Fl nm_FG (List.forall_mem_cons.mpr ⟨kp_Table_clear_0, List.forall_mem_cons.mpr ⟨kp_Chest_isOver_2, List.forall_mem_cons.mpr ⟨kp_Walk_drawEach_0, List.forall_mem_cons.mpr ⟨kp_Chest_close_2, List.forall_mem_cons.mpr ⟨kp_Table_add_0, fun _ h => absurd h List.not_mem_nil⟩⟩⟩⟩⟩) kq_Walk_drawAll_0
set_option maxRecDepth 1000000 in
theorem kq_Walk_pass_0 : ac_check nm_T nm_P nm_GH nm_FA [kc_Course_ready_0, kc_Walk_openAll_0, kc_Walk_drawAll_0] [kl_Walk_pass_22] 20000 kc_Walk_pass_0 = true := by decide +kernel
theorem kp_Walk_pass_0 : nm_ok kc_Walk_pass_0 := ac_check_ok nm_Fl nm_FG (List.forall_mem_cons.mpr ⟨kp_Course_ready_0, List.forall_mem_cons.mpr ⟨kp_Walk_openAll_0, List.forall_mem_cons.mpr ⟨kp_Walk_drawAll_0, fun _ h => absurd h List.not_mem_nil⟩⟩⟩) kq_Walk_pass_0
set_option maxRecDepth 1000000 in
theorem kq_Walk_goOnWith_0 : ac_check nm_T nm_P nm_GH nm_FA [kc_Table_clear_0, kc_Table_add_0] [kl_Walk_goOnWith_9] 20000 kc_Walk_goOnWith_0 = true := by decide +kernel
theorem kp_Walk_goOnWith_0 : nm_ok kc_Walk_goOnWith_0 := ac_check_ok nm_Fl nm_FG (List.forall_mem_cons.mpr ⟨kp_Table_clear_0, List.forall_mem_cons.mpr ⟨kp_Table_add_0, fun _ h => absurd h List.not_mem_nil⟩⟩) kq_Walk_goOnWith_0
set_option maxRecDepth 1000000 in
theorem kq_Walk_chanceOfAll_0 : ac_check nm_T nm_P nm_GH nm_FA [] [kl_Walk_chanceOfAll_4] 20000 kc_Walk_chanceOfAll_0 = true := by decide +kernel
theorem kp_Walk_chanceOfAll_0 : nm_ok kc_Walk_chanceOfAll_0 := ac_check_ok nm_Fl nm_FG (fun _ h => absurd h List.not_mem_nil) kq_Walk_chanceOfAll_0
set_option maxRecDepth 1000000 in
theorem kq_Walk_chanceOfAny_0 : ac_check nm_T nm_P nm_GH nm_FA [] [kl_Walk_chanceOfAny_5] 20000 kc_Walk_chanceOfAny_0 = true := by decide +kernel
theorem kp_Walk_chanceOfAny_0 : nm_ok kc_Walk_chanceOfAny_0 := ac_check_ok nm_Fl nm_FG (fun _ h => absurd h List.not_mem_nil) kq_Walk_chanceOfAny_0
set_option maxRecDepth 1000000 in
theorem kq_Walk_chanceSince_0 : ac_check nm_T nm_P nm_GH nm_FA [] [kl_Walk_chanceSince_5] 20000 kc_Walk_chanceSince_0 = true := by decide +kernel
theorem kp_Walk_chanceSince_0 : nm_ok kc_Walk_chanceSince_0 := ac_check_ok nm_Fl nm_FG (fun _ h => absurd h List.not_mem_nil) kq_Walk_chanceSince_0
set_option maxRecDepth 1000000 in
theorem kq_Walk_chanceOfFilled_0 : ac_check nm_T nm_P nm_GH nm_FA [kc_I_bitCount_0] [kl_Walk_chanceOfFilled_5] 20000 kc_Walk_chanceOfFilled_0 = true := by decide +kernel
theorem kp_Walk_chanceOfFilled_0 : nm_ok kc_Walk_chanceOfFilled_0 := ac_check_ok nm_Fl nm_FG (List.forall_mem_cons.mpr ⟨kp_I_bitCount_0, fun _ h => absurd h List.not_mem_nil⟩) kq_Walk_chanceOfFilled_0
set_option maxRecDepth 1000000 in
theorem kq_Walk_chanceOfLess_0 : ac_check nm_T nm_P nm_GH nm_FA [kc_Walk_chanceOfFilled_0] [kl_Walk_chanceOfLess_5] 20000 kc_Walk_chanceOfLess_0 = true := by decide +kernel
theorem kp_Walk_chanceOfLess_0 : nm_ok kc_Walk_chanceOfLess_0 := ac_check_ok nm_Fl nm_FG (List.forall_mem_cons.mpr ⟨kp_Walk_chanceOfFilled_0, fun _ h => absurd h List.not_mem_nil⟩) kq_Walk_chanceOfLess_0
set_option maxRecDepth 1000000 in
theorem kq_Walk_mayFill_0 : ac_check nm_T nm_P nm_GH nm_FA [kc_I_bitCount_0] [kl_Walk_mayFill_2] 20000 kc_Walk_mayFill_0 = true := by decide +kernel
theorem kp_Walk_mayFill_0 : nm_ok kc_Walk_mayFill_0 := ac_check_ok nm_Fl nm_FG (List.forall_mem_cons.mpr ⟨kp_I_bitCount_0, fun _ h => absurd h List.not_mem_nil⟩) kq_Walk_mayFill_0
set_option maxRecDepth 1000000 in
theorem kq_Walk_whoAlwaysSit_0 : ac_check nm_T nm_P nm_GH nm_FA [] [kl_Walk_whoAlwaysSit_20] 20000 kc_Walk_whoAlwaysSit_0 = true := by decide +kernel
theorem kp_Walk_whoAlwaysSit_0 : nm_ok kc_Walk_whoAlwaysSit_0 := ac_check_ok nm_Fl nm_FG (fun _ h => absurd h List.not_mem_nil) kq_Walk_whoAlwaysSit_0
set_option maxRecDepth 1000000 in
theorem kq_Walk_whoMaySit_0 : ac_check nm_T nm_P nm_GH nm_FA [] [kl_Walk_whoMaySit_4] 20000 kc_Walk_whoMaySit_0 = true := by decide +kernel
theorem kp_Walk_whoMaySit_0 : nm_ok kc_Walk_whoMaySit_0 := ac_check_ok nm_Fl nm_FG (fun _ h => absurd h List.not_mem_nil) kq_Walk_whoMaySit_0
set_option maxRecDepth 1000000 in
theorem kq_Walk_howUnlike_0 : ac_check nm_T nm_P nm_GH nm_FA [kc_Walk_chanceOfAny_0] [kl_Walk_howUnlike_12] 20000 kc_Walk_howUnlike_0 = true := by decide +kernel
theorem kp_Walk_howUnlike_0 : nm_ok kc_Walk_howUnlike_0 := ac_check_ok nm_Fl nm_FG (List.forall_mem_cons.mpr ⟨kp_Walk_chanceOfAny_0, fun _ h => absurd h List.not_mem_nil⟩) kq_Walk_howUnlike_0
set_option maxRecDepth 1000000 in
theorem kq_X_person_0 : ac_check nm_T nm_P nm_GH nm_FA [] [] 20000 kc_X_person_0 = true := by decide +kernel
theorem kp_X_person_0 : nm_ok kc_X_person_0 := ac_check_ok nm_Fl nm_FG (fun _ h => absurd h List.not_mem_nil) kq_X_person_0
set_option maxRecDepth 1000000 in
theorem kq_X_debt_0 : ac_check nm_T nm_P nm_GH nm_FA [] [] 20000 kc_X_debt_0 = true := by decide +kernel
theorem kp_X_debt_0 : nm_ok kc_X_debt_0 := ac_check_ok nm_Fl nm_FG (fun _ h => absurd h List.not_mem_nil) kq_X_debt_0
set_option maxRecDepth 1000000 in
theorem kq_X_away_0 : ac_check nm_T nm_P nm_GH nm_FA [] [] 20000 kc_X_away_0 = true := by decide +kernel
theorem kp_X_away_0 : nm_ok kc_X_away_0 := ac_check_ok nm_Fl nm_FG (fun _ h => absurd h List.not_mem_nil) kq_X_away_0
set_option maxRecDepth 1000000 in
theorem kq_X_dies_0 : ac_check nm_T nm_P nm_GH nm_FA [] [] 20000 kc_X_dies_0 = true := by decide +kernel
theorem kp_X_dies_0 : nm_ok kc_X_dies_0 := ac_check_ok nm_Fl nm_FG (fun _ h => absurd h List.not_mem_nil) kq_X_dies_0
set_option maxRecDepth 1000000 in
theorem kq_X_sheet_0 : ac_check nm_T nm_P nm_GH nm_FA [kc_Town_clearDebts_0] [kl_X_sheet_55] 20000 kc_X_sheet_0 = true := by decide +kernel
theorem kp_X_sheet_0 : nm_ok kc_X_sheet_0 := ac_check_ok nm_Fl nm_FG (List.forall_mem_cons.mpr ⟨kp_Town_clearDebts_0, fun _ h => absurd h List.not_mem_nil⟩) kq_X_sheet_0
set_option maxRecDepth 1000000 in
theorem kq_X_pack_0 : ac_check nm_T nm_P nm_GH nm_FA [] [] 20000 kc_X_pack_0 = true := by decide +kernel
theorem kp_X_pack_0 : nm_ok kc_X_pack_0 := ac_check_ok nm_Fl nm_FG (fun _ h => absurd h List.not_mem_nil) kq_X_pack_0
set_option maxRecDepth 1000000 in
theorem kq_X_renew_0 : ac_check nm_T nm_P nm_GH nm_FA [] [] 20000 kc_X_renew_0 = true := by decide +kernel
theorem kp_X_renew_0 : nm_ok kc_X_renew_0 := ac_check_ok nm_Fl nm_FG (fun _ h => absurd h List.not_mem_nil) kq_X_renew_0
set_option maxRecDepth 1000000 in
theorem kq_X_drawing_0 : ac_check nm_T nm_P nm_GH nm_FA [] [] 20000 kc_X_drawing_0 = true := by decide +kernel
theorem kp_X_drawing_0 : nm_ok kc_X_drawing_0 := ac_check_ok nm_Fl nm_FG (fun _ h => absurd h List.not_mem_nil) kq_X_drawing_0
