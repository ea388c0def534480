set_option maxRecDepth 1000000 in
theorem kq_X_sit_0 : ac_check nm_T nm_P nm_GH nm_FA [kc_X_walkBy_0, kc_Walk_goOnWith_0, kc_Walk_chanceOfAll_0] [] 20000 kc_X_sit_0 = true := by decide +kernel
theorem kp_X_sit_0 : nm_ok kc_X_sit_0 := ac_check_ok nm_Fl nm_FG (List.forall_mem_cons.mpr ⟨kp_X_walkBy_0, List.forall_mem_cons.mpr ⟨kp_Walk_goOnWith_0, List.forall_mem_cons.mpr ⟨kp_Walk_chanceOfAll_0, fun _ h => absurd h List.not_mem_nil⟩⟩⟩) kq_X_sit_0
set_option maxRecDepth 1000000 in
theorem kq_X_known_0 : ac_check nm_T nm_P nm_GH nm_FA [kc_Walk_start_0, kc_Walk_pass_0, kc_Walk_whoAlwaysSit_0] [kl_X_known_58] 20000 kc_X_known_0 = true := by decide +kernel
theorem kp_X_known_0 : nm_ok kc_X_known_0 := ac_check_ok nm_Fl nm_FG (List.forall_mem_cons.mpr ⟨kp_Walk_start_0, List.forall_mem_cons.mpr ⟨kp_Walk_pass_0, List.forall_mem_cons.mpr ⟨kp_Walk_whoAlwaysSit_0, fun _ h => absurd h List.not_mem_nil⟩⟩⟩) kq_X_known_0
set_option maxRecDepth 1000000 in
theorem kq_X_fullestWay_0 : ac_check nm_T nm_P nm_GH nm_FA [kc_I_bitCount_1] [] 20000 kc_X_fullestWay_0 = true := by decide +kernel
theorem kp_X_fullestWay_0 : nm_ok kc_X_fullestWay_0 := ac_check_ok nm_Fl nm_FG (List.forall_mem_cons.mpr ⟨kp_I_bitCount_1, fun _ h => absurd h List.not_mem_nil⟩) kq_X_fullestWay_0
set_option maxRecDepth 1000000 in
theorem kq_X_packing_0 : ac_check nm_T nm_P nm_GH nm_FA [] [kl_X_packing_21] 20000 kc_X_packing_0 = true := by decide +kernel
theorem kp_X_packing_0 : nm_ok kc_X_packing_0 := ac_check_ok nm_Fl nm_FG (fun _ h => absurd h List.not_mem_nil) kq_X_packing_0
set_option maxRecDepth 1000000 in
theorem kq_X_supposePacked_0 : ac_check nm_T nm_P nm_GH nm_FA [kc_Chest_startAnew_1, kc_Walk_start_0] [] 20000 kc_X_supposePacked_0 = true := by decide +kernel
theorem kp_X_supposePacked_0 : nm_ok kc_X_supposePacked_0 := ac_check_ok nm_Fl nm_FG (List.forall_mem_cons.mpr ⟨kp_Chest_startAnew_1, List.forall_mem_cons.mpr ⟨kp_Walk_start_0, fun _ h => absurd h List.not_mem_nil⟩⟩) kq_X_supposePacked_0
set_option maxRecDepth 1000000 in
theorem kq_X_walkPacked_0 : ac_check nm_T nm_P nm_GH nm_FA [kc_X_supposePacked_0, kc_Walk_pass_0] [kl_X_walkPacked_12] 20000 kc_X_walkPacked_0 = true := by decide +kernel
theorem kp_X_walkPacked_0 : nm_ok kc_X_walkPacked_0 := ac_check_ok nm_Fl nm_FG (List.forall_mem_cons.mpr ⟨kp_X_supposePacked_0, List.forall_mem_cons.mpr ⟨kp_Walk_pass_0, fun _ h => absurd h List.not_mem_nil⟩⟩) kq_X_walkPacked_0
set_option maxRecDepth 1000000 in
theorem kq_X_best_0 : ac_check nm_T nm_P nm_GH nm_FA [kc_I_bitCount_0, kc_X_fullestWay_0, kc_X_packing_0, kc_X_walkPacked_0, kc_Walk_chanceOfAny_0, kc_I_bitCount_1] [kl_X_best_59] 20000 kc_X_best_0 = true := by decide +kernel
theorem kp_X_best_0 : nm_ok kc_X_best_0 := ac_check_ok nm_Fl nm_FG (List.forall_mem_cons.mpr ⟨kp_I_bitCount_0, List.forall_mem_cons.mpr ⟨kp_X_fullestWay_0, List.forall_mem_cons.mpr ⟨kp_X_packing_0, List.forall_mem_cons.mpr ⟨kp_X_walkPacked_0, List.forall_mem_cons.mpr ⟨kp_Walk_chanceOfAny_0, List.forall_mem_cons.mpr ⟨kp_I_bitCount_1, fun _ h => absurd h List.not_mem_nil⟩⟩⟩⟩⟩⟩) kq_X_best_0
set_option maxRecDepth 1000000 in
theorem kq_X_never_0 : ac_check nm_T nm_P nm_GH nm_FA [kc_I_bitCount_0, kc_Town_ofHouse_0, kc_X_fullestWay_0, kc_X_packing_0, kc_X_walkPacked_0, kc_Walk_whoMaySit_0, kc_Walk_mayFill_0, kc_I_bitCount_1] [kl_X_never_67] 20000 kc_X_never_0 = true := by decide +kernel
theorem kp_X_never_0 : nm_ok kc_X_never_0 := ac_check_ok nm_Fl nm_FG (List.forall_mem_cons.mpr ⟨kp_I_bitCount_0, List.forall_mem_cons.mpr ⟨kp_Town_ofHouse_0, List.forall_mem_cons.mpr ⟨kp_X_fullestWay_0, List.forall_mem_cons.mpr ⟨kp_X_packing_0, List.forall_mem_cons.mpr ⟨kp_X_walkPacked_0, List.forall_mem_cons.mpr ⟨kp_Walk_whoMaySit_0, List.forall_mem_cons.mpr ⟨kp_Walk_mayFill_0, List.forall_mem_cons.mpr ⟨kp_I_bitCount_1, fun _ h => absurd h List.not_mem_nil⟩⟩⟩⟩⟩⟩⟩⟩) kq_X_never_0
set_option maxRecDepth 1000000 in
theorem kq_X_even_0 : ac_check nm_T nm_P nm_GH nm_FA [kc_I_bitCount_0, kc_X_fullestWay_0, kc_X_packing_0, kc_X_walkPacked_0, kc_Walk_howUnlike_0, kc_I_bitCount_1] [kl_X_even_50] 20000 kc_X_even_0 = true := by decide +kernel
theorem kp_X_even_0 : nm_ok kc_X_even_0 := ac_check_ok nm_Fl nm_FG (List.forall_mem_cons.mpr ⟨kp_I_bitCount_0, List.forall_mem_cons.mpr ⟨kp_X_fullestWay_0, List.forall_mem_cons.mpr ⟨kp_X_packing_0, List.forall_mem_cons.mpr ⟨kp_X_walkPacked_0, List.forall_mem_cons.mpr ⟨kp_Walk_howUnlike_0, List.forall_mem_cons.mpr ⟨kp_I_bitCount_1, fun _ h => absurd h List.not_mem_nil⟩⟩⟩⟩⟩⟩) kq_X_even_0
set_option maxRecDepth 1000000 in
theorem kq_X_fair_0 : ac_check nm_T nm_P nm_GH nm_FA [kc_X_walkBy_0, kc_Walk_howUnlike_0] [kl_X_fair_66] 20000 kc_X_fair_0 = true := by decide +kernel
theorem kp_X_fair_0 : nm_ok kc_X_fair_0 := ac_check_ok nm_Fl nm_FG (List.forall_mem_cons.mpr ⟨kp_X_walkBy_0, List.forall_mem_cons.mpr ⟨kp_Walk_howUnlike_0, fun _ h => absurd h List.not_mem_nil⟩⟩) kq_X_fair_0
set_option maxRecDepth 1000000 in
theorem kq_X_war_0 : ac_check nm_T nm_P nm_GH nm_FA [kc_X_walkBy_0, kc_Walk_chanceOfLess_0] [] 20000 kc_X_war_0 = true := by decide +kernel
theorem kp_X_war_0 : nm_ok kc_X_war_0 := ac_check_ok nm_Fl nm_FG (List.forall_mem_cons.mpr ⟨kp_X_walkBy_0, List.forall_mem_cons.mpr ⟨kp_Walk_chanceOfLess_0, fun _ h => absurd h List.not_mem_nil⟩⟩) kq_X_war_0
set_option maxRecDepth 1000000 in
theorem kq_X_list_0 : ac_check nm_T nm_P nm_GH nm_FA [] [] 20000 kc_X_list_0 = true := by decide +kernel
theorem kp_X_list_0 : nm_ok kc_X_list_0 := ac_check_ok nm_Fl nm_FG (fun _ h => absurd h List.not_mem_nil) kq_X_list_0
set_option maxRecDepth 1000000 in
theorem kq_X_wipe_0 : ac_check nm_T nm_P nm_GH nm_FA [] [] 20000 kc_X_wipe_0 = true := by decide +kernel
theorem kp_X_wipe_0 : nm_ok kc_X_wipe_0 := ac_check_ok nm_Fl nm_FG (fun _ h => absurd h List.not_mem_nil) kq_X_wipe_0
set_option maxRecDepth 1000000 in
theorem kq_X_walkAsListed_0 : ac_check nm_T nm_P nm_GH nm_FA [kc_Walk_pass_0, kc_Walk_goOnWith_0] [kl_X_walkAsListed_2] 20000 kc_X_walkAsListed_0 = true := by decide +kernel
theorem kp_X_walkAsListed_0 : nm_ok kc_X_walkAsListed_0 := ac_check_ok nm_Fl nm_FG (List.forall_mem_cons.mpr ⟨kp_Walk_pass_0, List.forall_mem_cons.mpr ⟨kp_Walk_goOnWith_0, fun _ h => absurd h List.not_mem_nil⟩⟩) kq_X_walkAsListed_0
set_option maxRecDepth 1000000 in
theorem kq_X_old_0 : ac_check nm_T nm_P nm_GH nm_FA [kc_I_bitCount_0, kc_X_fullestWay_0, kc_X_packing_0, kc_X_supposePacked_0, kc_X_walkAsListed_0] [kl_X_old_41] 20000 kc_X_old_0 = true := by decide +kernel
theorem kp_X_old_0 : nm_ok kc_X_old_0 := ac_check_ok nm_Fl nm_FG (List.forall_mem_cons.mpr ⟨kp_I_bitCount_0, List.forall_mem_cons.mpr ⟨kp_X_fullestWay_0, List.forall_mem_cons.mpr ⟨kp_X_packing_0, List.forall_mem_cons.mpr ⟨kp_X_supposePacked_0, List.forall_mem_cons.mpr ⟨kp_X_walkAsListed_0, fun _ h => absurd h List.not_mem_nil⟩⟩⟩⟩⟩) kq_X_old_0
set_option maxRecDepth 1000000 in
theorem kq_X_seldom_0 : ac_check nm_T nm_P nm_GH nm_FA [kc_X_supposePacked_0, kc_X_walkAsListed_0, kc_Walk_chanceOfAll_0] [] 20000 kc_X_seldom_0 = true := by decide +kernel
theorem kp_X_seldom_0 : nm_ok kc_X_seldom_0 := ac_check_ok nm_Fl nm_FG (List.forall_mem_cons.mpr ⟨kp_X_supposePacked_0, List.forall_mem_cons.mpr ⟨kp_X_walkAsListed_0, List.forall_mem_cons.mpr ⟨kp_Walk_chanceOfAll_0, fun _ h => absurd h List.not_mem_nil⟩⟩⟩) kq_X_seldom_0
set_option maxRecDepth 1000000 in
theorem kq_X_seed_0 : ac_check nm_T nm_P nm_GH nm_FA [] [] 20000 kc_X_seed_0 = true := by decide +kernel
theorem kp_X_seed_0 : nm_ok kc_X_seed_0 := ac_check_ok nm_Fl nm_FG (fun _ h => absurd h List.not_mem_nil) kq_X_seed_0
set_option maxRecDepth 1000000 in
theorem kq_X_keep_0 : ac_check nm_T nm_P nm_GH nm_FA [] [] 20000 kc_X_keep_0 = true := by decide +kernel
theorem kp_X_keep_0 : nm_ok kc_X_keep_0 := ac_check_ok nm_Fl nm_FG (fun _ h => absurd h List.not_mem_nil) kq_X_keep_0
set_option maxRecDepth 1000000 in
theorem kq_X_again_0 : ac_check nm_T nm_P nm_GH nm_FA [] [] 20000 kc_X_again_0 = true := by decide +kernel
theorem kp_X_again_0 : nm_ok kc_X_again_0 := ac_check_ok nm_Fl nm_FG (fun _ h => absurd h List.not_mem_nil) kq_X_again_0
set_option maxRecDepth 1000000 in
theorem kq_X_count_0 : ac_check nm_T nm_P nm_GH nm_FA [] [] 20000 kc_X_count_0 = true := by decide +kernel
theorem kp_X_count_0 : nm_ok kc_X_count_0 := ac_check_ok nm_Fl nm_FG (fun _ h => absurd h List.not_mem_nil) kq_X_count_0
set_option maxRecDepth 1000000 in
theorem kq_M_person_0 : ac_check nm_T nm_P nm_GH nm_FA [] [] 20000 kc_M_person_0 = true := by decide +kernel
theorem kp_M_person_0 : nm_ok kc_M_person_0 := ac_check_ok nm_Fl nm_FG (fun _ h => absurd h List.not_mem_nil) kq_M_person_0
set_option maxRecDepth 1000000 in
theorem kq_M_debt_0 : ac_check nm_T nm_P nm_GH nm_FA [] [] 20000 kc_M_debt_0 = true := by decide +kernel
theorem kp_M_debt_0 : nm_ok kc_M_debt_0 := ac_check_ok nm_Fl nm_FG (fun _ h => absurd h List.not_mem_nil) kq_M_debt_0
set_option maxRecDepth 1000000 in
theorem kq_M_away_0 : ac_check nm_T nm_P nm_GH nm_FA [] [] 20000 kc_M_away_0 = true := by decide +kernel
theorem kp_M_away_0 : nm_ok kc_M_away_0 := ac_check_ok nm_Fl nm_FG (fun _ h => absurd h List.not_mem_nil) kq_M_away_0
set_option maxRecDepth 1000000 in
theorem kq_M_dies_0 : ac_check nm_T nm_P nm_GH nm_FA [] [] 20000 kc_M_dies_0 = true := by decide +kernel
theorem kp_M_dies_0 : nm_ok kc_M_dies_0 := ac_check_ok nm_Fl nm_FG (fun _ h => absurd h List.not_mem_nil) kq_M_dies_0
