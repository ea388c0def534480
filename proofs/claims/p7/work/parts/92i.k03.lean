set_option maxRecDepth 1000000 in
theorem kq_X_sign_0 : ac_check nm_T nm_P nm_GH nm_FA [kc_Text_add_0] [] 20000 kc_X_sign_0 = true := by decide +kernel
theorem kp_X_sign_0 : nm_ok kc_X_sign_0 := ac_check_ok nm_Fl nm_FG (List.forall_mem_cons.mpr ⟨kp_Text_add_0, fun _ h => absurd h List.not_mem_nil⟩) kq_X_sign_0
set_option maxRecDepth 1000000 in
theorem kq_X_end_0 : ac_check nm_T nm_P nm_GH nm_FA [] [] 20000 kc_X_end_0 = true := by decide +kernel
theorem kp_X_end_0 : nm_ok kc_X_end_0 := ac_check_ok nm_Fl nm_FG (fun _ h => absurd h List.not_mem_nil) kq_X_end_0
set_option maxRecDepth 1000000 in
theorem kq_X_readInto_0 : ac_check nm_T nm_P nm_GH nm_FA [kc_Text_firstFault_0, kc_Rule_read_0] [] 20000 kc_X_readInto_0 = true := by decide +kernel
theorem kp_X_readInto_0 : nm_ok kc_X_readInto_0 := ac_check_ok nm_Fl nm_FG (List.forall_mem_cons.mpr ⟨kp_Text_firstFault_0, List.forall_mem_cons.mpr ⟨kp_Rule_read_0, fun _ h => absurd h List.not_mem_nil⟩⟩) kq_X_readInto_0
set_option maxRecDepth 1000000 in
theorem kq_X_rule_0 : ac_check nm_T nm_P nm_GH nm_FA [kc_X_readInto_0] [] 20000 kc_X_rule_0 = true := by decide +kernel
theorem kp_X_rule_0 : nm_ok kc_X_rule_0 := ac_check_ok nm_Fl nm_FG (List.forall_mem_cons.mpr ⟨kp_X_readInto_0, fun _ h => absurd h List.not_mem_nil⟩) kq_X_rule_0
set_option maxRecDepth 1000000 in
theorem kq_X_other_0 : ac_check nm_T nm_P nm_GH nm_FA [kc_X_readInto_0] [] 20000 kc_X_other_0 = true := by decide +kernel
theorem kp_X_other_0 : nm_ok kc_X_other_0 := ac_check_ok nm_Fl nm_FG (List.forall_mem_cons.mpr ⟨kp_X_readInto_0, fun _ h => absurd h List.not_mem_nil⟩) kq_X_other_0
set_option maxRecDepth 1000000 in
theorem kq_X_readyNow_0 : ac_check nm_T nm_P nm_GH nm_FA [kc_Course_ready_0] [] 20000 kc_X_readyNow_0 = true := by decide +kernel
theorem kp_X_readyNow_0 : nm_ok kc_X_readyNow_0 := ac_check_ok nm_Fl nm_FG (List.forall_mem_cons.mpr ⟨kp_Course_ready_0, fun _ h => absurd h List.not_mem_nil⟩) kq_X_readyNow_0
set_option maxRecDepth 1000000 in
theorem kq_X_bars_0 : ac_check nm_T nm_P nm_GH nm_FA [kc_X_readyNow_0, kc_Course_lineAgainst_0] [] 20000 kc_X_bars_0 = true := by decide +kernel
theorem kp_X_bars_0 : nm_ok kc_X_bars_0 := ac_check_ok nm_Fl nm_FG (List.forall_mem_cons.mpr ⟨kp_X_readyNow_0, List.forall_mem_cons.mpr ⟨kp_Course_lineAgainst_0, fun _ h => absurd h List.not_mem_nil⟩⟩) kq_X_bars_0
set_option maxRecDepth 1000000 in
theorem kq_X_drawSlip_0 : ac_check nm_T nm_P nm_GH nm_FA [kc_I_bitCount_1] [kl_X_drawSlip_42] 20000 kc_X_drawSlip_0 = true := by decide +kernel
theorem kp_X_drawSlip_0 : nm_ok kc_X_drawSlip_0 := ac_check_ok nm_Fl nm_FG (List.forall_mem_cons.mpr ⟨kp_I_bitCount_1, fun _ h => absurd h List.not_mem_nil⟩) kq_X_drawSlip_0
set_option maxRecDepth 1000000 in
theorem kq_X_run_0 : ac_check nm_T nm_P nm_GH nm_FA [kc_X_readyNow_0, kc_Chest_open_0, kc_Chest_close_0, kc_Chest_isOver_0, kc_X_drawSlip_0, kc_Course_foretell_0, kc_Chest_takeOut_0] [kl_X_run_33, kl_X_run_155] 20000 kc_X_run_0 = true := by decide +kernel
theorem kp_X_run_0 : nm_ok kc_X_run_0 := ac_check_ok nm_Fl nm_FG (List.forall_mem_cons.mpr ⟨kp_X_readyNow_0, List.forall_mem_cons.mpr ⟨kp_Chest_open_0, List.forall_mem_cons.mpr ⟨kp_Chest_close_0, List.forall_mem_cons.mpr ⟨kp_Chest_isOver_0, List.forall_mem_cons.mpr ⟨kp_X_drawSlip_0, List.forall_mem_cons.mpr ⟨kp_Course_foretell_0, List.forall_mem_cons.mpr ⟨kp_Chest_takeOut_0, fun _ h => absurd h List.not_mem_nil⟩⟩⟩⟩⟩⟩⟩) kq_X_run_0
set_option maxRecDepth 1000000 in
theorem kq_X_areSlips_0 : ac_check nm_T nm_P nm_GH nm_FA [] [kl_X_areSlips_14] 20000 kc_X_areSlips_0 = true := by decide +kernel
theorem kp_X_areSlips_0 : nm_ok kc_X_areSlips_0 := ac_check_ok nm_Fl nm_FG (fun _ h => absurd h List.not_mem_nil) kq_X_areSlips_0
set_option maxRecDepth 1000000 in
theorem kq_X_judge_0 : ac_check nm_T nm_P nm_GH nm_FA [kc_X_areSlips_0, kc_X_readyNow_0, kc_Chest_open_1, kc_Chest_isOver_1, kc_Course_foretell_0, kc_Chest_takeOut_1] [kl_X_follow_29] 20000 kc_X_judge_0 = true := by decide +kernel
theorem kp_X_judge_0 : nm_ok kc_X_judge_0 := ac_check_ok nm_Fl nm_FG (List.forall_mem_cons.mpr ⟨kp_X_areSlips_0, List.forall_mem_cons.mpr ⟨kp_X_readyNow_0, List.forall_mem_cons.mpr ⟨kp_Chest_open_1, List.forall_mem_cons.mpr ⟨kp_Chest_isOver_1, List.forall_mem_cons.mpr ⟨kp_Course_foretell_0, List.forall_mem_cons.mpr ⟨kp_Chest_takeOut_1, fun _ h => absurd h List.not_mem_nil⟩⟩⟩⟩⟩⟩) kq_X_judge_0
set_option maxRecDepth 1000000 in
theorem kq_X_hold_0 : ac_check nm_T nm_P nm_GH nm_FA [kc_X_areSlips_0, kc_X_readyNow_0, kc_Chest_open_1, kc_Chest_isOver_1, kc_Course_foretell_0, kc_Chest_takeOut_1, kc_Chest_close_1] [kl_X_follow_29] 20000 kc_X_hold_0 = true := by decide +kernel
theorem kp_X_hold_0 : nm_ok kc_X_hold_0 := ac_check_ok nm_Fl nm_FG (List.forall_mem_cons.mpr ⟨kp_X_areSlips_0, List.forall_mem_cons.mpr ⟨kp_X_readyNow_0, List.forall_mem_cons.mpr ⟨kp_Chest_open_1, List.forall_mem_cons.mpr ⟨kp_Chest_isOver_1, List.forall_mem_cons.mpr ⟨kp_Course_foretell_0, List.forall_mem_cons.mpr ⟨kp_Chest_takeOut_1, List.forall_mem_cons.mpr ⟨kp_Chest_close_1, fun _ h => absurd h List.not_mem_nil⟩⟩⟩⟩⟩⟩⟩) kq_X_hold_0
set_option maxRecDepth 1000000 in
theorem kq_X_begin_0 : ac_check nm_T nm_P nm_GH nm_FA [kc_Chest_startAnew_0] [] 20000 kc_X_begin_0 = true := by decide +kernel
theorem kp_X_begin_0 : nm_ok kc_X_begin_0 := ac_check_ok nm_Fl nm_FG (List.forall_mem_cons.mpr ⟨kp_Chest_startAnew_0, fun _ h => absurd h List.not_mem_nil⟩) kq_X_begin_0
set_option maxRecDepth 1000000 in
theorem kq_X_bag_0 : ac_check nm_T nm_P nm_GH nm_FA [] [] 20000 kc_X_bag_0 = true := by decide +kernel
theorem kp_X_bag_0 : nm_ok kc_X_bag_0 := ac_check_ok nm_Fl nm_FG (fun _ h => absurd h List.not_mem_nil) kq_X_bag_0
set_option maxRecDepth 1000000 in
theorem kq_X_sat_0 : ac_check nm_T nm_P nm_GH nm_FA [] [] 20000 kc_X_sat_0 = true := by decide +kernel
theorem kp_X_sat_0 : nm_ok kc_X_sat_0 := ac_check_ok nm_Fl nm_FG (fun _ h => absurd h List.not_mem_nil) kq_X_sat_0
set_option maxRecDepth 1000000 in
theorem kq_X_walkBy_0 : ac_check nm_T nm_P nm_GH nm_FA [kc_Walk_start_0, kc_Walk_pass_0] [kl_X_walkBy_50] 20000 kc_X_walkBy_0 = true := by decide +kernel
theorem kp_X_walkBy_0 : nm_ok kc_X_walkBy_0 := ac_check_ok nm_Fl nm_FG (List.forall_mem_cons.mpr ⟨kp_Walk_start_0, List.forall_mem_cons.mpr ⟨kp_Walk_pass_0, fun _ h => absurd h List.not_mem_nil⟩⟩) kq_X_walkBy_0
set_option maxRecDepth 1000000 in
theorem kq_X_chance_0 : ac_check nm_T nm_P nm_GH nm_FA [kc_X_walkBy_0, kc_Walk_chanceOfAny_0] [] 20000 kc_X_chance_0 = true := by decide +kernel
theorem kp_X_chance_0 : nm_ok kc_X_chance_0 := ac_check_ok nm_Fl nm_FG (List.forall_mem_cons.mpr ⟨kp_X_walkBy_0, List.forall_mem_cons.mpr ⟨kp_Walk_chanceOfAny_0, fun _ h => absurd h List.not_mem_nil⟩⟩) kq_X_chance_0
set_option maxRecDepth 1000000 in
theorem kq_X_each_0 : ac_check nm_T nm_P nm_GH nm_FA [kc_X_walkBy_0, kc_Walk_chanceOfAny_0] [kl_X_each_35] 20000 kc_X_each_0 = true := by decide +kernel
theorem kp_X_each_0 : nm_ok kc_X_each_0 := ac_check_ok nm_Fl nm_FG (List.forall_mem_cons.mpr ⟨kp_X_walkBy_0, List.forall_mem_cons.mpr ⟨kp_Walk_chanceOfAny_0, fun _ h => absurd h List.not_mem_nil⟩⟩) kq_X_each_0
set_option maxRecDepth 1000000 in
theorem kq_X_ever_0 : ac_check nm_T nm_P nm_GH nm_FA [kc_X_walkBy_0, kc_Walk_chanceSince_0] [] 20000 kc_X_ever_0 = true := by decide +kernel
theorem kp_X_ever_0 : nm_ok kc_X_ever_0 := ac_check_ok nm_Fl nm_FG (List.forall_mem_cons.mpr ⟨kp_X_walkBy_0, List.forall_mem_cons.mpr ⟨kp_Walk_chanceSince_0, fun _ h => absurd h List.not_mem_nil⟩⟩) kq_X_ever_0
set_option maxRecDepth 1000000 in
theorem kq_X_empty_0 : ac_check nm_T nm_P nm_GH nm_FA [kc_X_walkBy_0, kc_Walk_chanceOfLess_0, kc_Walk_chanceOfFilled_0] [] 20000 kc_X_empty_0 = true := by decide +kernel
theorem kp_X_empty_0 : nm_ok kc_X_empty_0 := ac_check_ok nm_Fl nm_FG (List.forall_mem_cons.mpr ⟨kp_X_walkBy_0, List.forall_mem_cons.mpr ⟨kp_Walk_chanceOfLess_0, List.forall_mem_cons.mpr ⟨kp_Walk_chanceOfFilled_0, fun _ h => absurd h List.not_mem_nil⟩⟩⟩) kq_X_empty_0
set_option maxRecDepth 1000000 in
theorem kq_X_vain_0 : ac_check nm_T nm_P nm_GH nm_FA [kc_X_walkBy_0] [] 20000 kc_X_vain_0 = true := by decide +kernel
theorem kp_X_vain_0 : nm_ok kc_X_vain_0 := ac_check_ok nm_Fl nm_FG (List.forall_mem_cons.mpr ⟨kp_X_walkBy_0, fun _ h => absurd h List.not_mem_nil⟩) kq_X_vain_0
set_option maxRecDepth 1000000 in
theorem kq_X_house_0 : ac_check nm_T nm_P nm_GH nm_FA [kc_X_walkBy_0, kc_Town_ofHouse_0, kc_Walk_chanceOfAny_0] [kl_X_house_51] 20000 kc_X_house_0 = true := by decide +kernel
theorem kp_X_house_0 : nm_ok kc_X_house_0 := ac_check_ok nm_Fl nm_FG (List.forall_mem_cons.mpr ⟨kp_X_walkBy_0, List.forall_mem_cons.mpr ⟨kp_Town_ofHouse_0, List.forall_mem_cons.mpr ⟨kp_Walk_chanceOfAny_0, fun _ h => absurd h List.not_mem_nil⟩⟩⟩) kq_X_house_0
set_option maxRecDepth 1000000 in
theorem kq_X_ways_0 : ac_check nm_T nm_P nm_GH nm_FA [kc_X_walkBy_0] [] 20000 kc_X_ways_0 = true := by decide +kernel
theorem kp_X_ways_0 : nm_ok kc_X_ways_0 := ac_check_ok nm_Fl nm_FG (List.forall_mem_cons.mpr ⟨kp_X_walkBy_0, fun _ h => absurd h List.not_mem_nil⟩) kq_X_ways_0
set_option maxRecDepth 1000000 in
theorem kq_X_sure_0 : ac_check nm_T nm_P nm_GH nm_FA [kc_X_walkBy_0, kc_Walk_whoMaySit_0, kc_Walk_whoAlwaysSit_0] [] 20000 kc_X_sure_0 = true := by decide +kernel
theorem kp_X_sure_0 : nm_ok kc_X_sure_0 := ac_check_ok nm_Fl nm_FG (List.forall_mem_cons.mpr ⟨kp_X_walkBy_0, List.forall_mem_cons.mpr ⟨kp_Walk_whoMaySit_0, List.forall_mem_cons.mpr ⟨kp_Walk_whoAlwaysSit_0, fun _ h => absurd h List.not_mem_nil⟩⟩⟩) kq_X_sure_0
