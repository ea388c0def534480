set_option maxRecDepth 1000000 in
theorem kq_M_sat_0 : ac_check nm_T nm_P nm_GH nm_FA [] [] 20000 kc_M_sat_0 = true := by decide +kernel
theorem kp_M_sat_0 : nm_ok kc_M_sat_0 := ac_check_ok nm_Fl nm_FG (fun _ h => absurd h List.not_mem_nil) kq_M_sat_0
set_option maxRecDepth 1000000 in
theorem kq_M_placeOf_0 : ac_check nm_T nm_P nm_GH nm_FA [] [] 20000 kc_M_placeOf_0 = true := by decide +kernel
theorem kp_M_placeOf_0 : nm_ok kc_M_placeOf_0 := ac_check_ok nm_Fl nm_FG (fun _ h => absurd h List.not_mem_nil) kq_M_placeOf_0
set_option maxRecDepth 1000000 in
theorem kq_M_satAt_0 : ac_check nm_T nm_P nm_GH nm_FA [kc_M_unpacks_0] [kl_M_satAt_11] 20000 kc_M_satAt_0 = true := by decide +kernel
theorem kp_M_satAt_0 : nm_ok kc_M_satAt_0 := ac_check_ok nm_Fl nm_FG (List.forall_mem_cons.mpr ⟨kp_M_unpacks_0, fun _ h => absurd h List.not_mem_nil⟩) kq_M_satAt_0
set_option maxRecDepth 1000000 in
theorem kq_M_anyOf_0 : ac_check nm_T nm_P nm_GH nm_FA [] [kl_M_anyOf_5] 20000 kc_M_anyOf_0 = true := by decide +kernel
theorem kp_M_anyOf_0 : nm_ok kc_M_anyOf_0 := ac_check_ok nm_Fl nm_FG (fun _ h => absurd h List.not_mem_nil) kq_M_anyOf_0
set_option maxRecDepth 1000000 in
theorem kq_M_filled_0 : ac_check nm_T nm_P nm_GH nm_FA [kc_I_bitCount_1] [kl_M_filled_5] 20000 kc_M_filled_0 = true := by decide +kernel
theorem kp_M_filled_0 : nm_ok kc_M_filled_0 := ac_check_ok nm_Fl nm_FG (List.forall_mem_cons.mpr ⟨kp_I_bitCount_1, fun _ h => absurd h List.not_mem_nil⟩) kq_M_filled_0
set_option maxRecDepth 1000000 in
theorem kq_M_housed_0 : ac_check nm_T nm_P nm_GH nm_FA [] [kl_M_housed_4] 20000 kc_M_housed_0 = true := by decide +kernel
theorem kp_M_housed_0 : nm_ok kc_M_housed_0 := ac_check_ok nm_Fl nm_FG (fun _ h => absurd h List.not_mem_nil) kq_M_housed_0
set_option maxRecDepth 1000000 in
theorem kq_M_sureBits_0 : ac_check nm_T nm_P nm_GH nm_FA [] [kl_M_sureBits_11] 20000 kc_M_sureBits_0 = true := by decide +kernel
theorem kp_M_sureBits_0 : nm_ok kc_M_sureBits_0 := ac_check_ok nm_Fl nm_FG (fun _ h => absurd h List.not_mem_nil) kq_M_sureBits_0
set_option maxRecDepth 1000000 in
theorem kq_M_someBits_0 : ac_check nm_T nm_P nm_GH nm_FA [] [kl_M_someBits_4] 20000 kc_M_someBits_0 = true := by decide +kernel
theorem kp_M_someBits_0 : nm_ok kc_M_someBits_0 := ac_check_ok nm_Fl nm_FG (fun _ h => absurd h List.not_mem_nil) kq_M_someBits_0
set_option maxRecDepth 1000000 in
theorem kq_M_unlike_0 : ac_check nm_T nm_P nm_GH nm_FA [kc_M_anyOf_0] [kl_M_unlike_10] 20000 kc_M_unlike_0 = true := by decide +kernel
theorem kp_M_unlike_0 : nm_ok kc_M_unlike_0 := ac_check_ok nm_Fl nm_FG (List.forall_mem_cons.mpr ⟨kp_M_anyOf_0, fun _ h => absurd h List.not_mem_nil⟩) kq_M_unlike_0
set_option maxRecDepth 1000000 in
theorem kq_M_sumBelow_0 : ac_check nm_T nm_P nm_GH nm_FA [kc_M_filled_0] [kl_M_sumBelow_5] 20000 kc_M_sumBelow_0 = true := by decide +kernel
theorem kp_M_sumBelow_0 : nm_ok kc_M_sumBelow_0 := ac_check_ok nm_Fl nm_FG (List.forall_mem_cons.mpr ⟨kp_M_filled_0, fun _ h => absurd h List.not_mem_nil⟩) kq_M_sumBelow_0
set_option maxRecDepth 1000000 in
theorem kq_M_list_0 : ac_check nm_T nm_P nm_GH nm_FA [] [] 20000 kc_M_list_0 = true := by decide +kernel
theorem kp_M_list_0 : nm_ok kc_M_list_0 := ac_check_ok nm_Fl nm_FG (fun _ h => absurd h List.not_mem_nil) kq_M_list_0
set_option maxRecDepth 1000000 in
theorem kq_M_wipe_0 : ac_check nm_T nm_P nm_GH nm_FA [] [] 20000 kc_M_wipe_0 = true := by decide +kernel
theorem kp_M_wipe_0 : nm_ok kc_M_wipe_0 := ac_check_ok nm_Fl nm_FG (fun _ h => absurd h List.not_mem_nil) kq_M_wipe_0
set_option maxRecDepth 1000000 in
theorem kq_M_seed_0 : ac_check nm_T nm_P nm_GH nm_FA [] [] 20000 kc_M_seed_0 = true := by decide +kernel
theorem kp_M_seed_0 : nm_ok kc_M_seed_0 := ac_check_ok nm_Fl nm_FG (fun _ h => absurd h List.not_mem_nil) kq_M_seed_0
set_option maxRecDepth 1000000 in
theorem kq_M_keep_0 : ac_check nm_T nm_P nm_GH nm_FA [kc_M_first_0, kc_M_second_0] [] 20000 kc_M_keep_0 = true := by decide +kernel
theorem kp_M_keep_0 : nm_ok kc_M_keep_0 := ac_check_ok nm_Fl nm_FG (List.forall_mem_cons.mpr ⟨kp_M_first_0, List.forall_mem_cons.mpr ⟨kp_M_second_0, fun _ h => absurd h List.not_mem_nil⟩⟩) kq_M_keep_0
set_option maxRecDepth 1000000 in
theorem kq_M_again_0 : ac_check nm_T nm_P nm_GH nm_FA [kc_M_unpacks_0] [] 20000 kc_M_again_0 = true := by decide +kernel
theorem kp_M_again_0 : nm_ok kc_M_again_0 := ac_check_ok nm_Fl nm_FG (List.forall_mem_cons.mpr ⟨kp_M_unpacks_0, fun _ h => absurd h List.not_mem_nil⟩) kq_M_again_0
set_option maxRecDepth 1000000 in
theorem kq_M_toldBits_0 : ac_check nm_T nm_P nm_GH nm_FA [] [kl_M_toldBits_4] 20000 kc_M_toldBits_0 = true := by decide +kernel
theorem kp_M_toldBits_0 : nm_ok kc_M_toldBits_0 := ac_check_ok nm_Fl nm_FG (fun _ h => absurd h List.not_mem_nil) kq_M_toldBits_0
set_option maxRecDepth 1000000 in
theorem kq_M_count_0 : ac_check nm_T nm_P nm_GH nm_FA [kc_M_toldBits_0] [] 20000 kc_M_count_0 = true := by decide +kernel
theorem kp_M_count_0 : nm_ok kc_M_count_0 := ac_check_ok nm_Fl nm_FG (List.forall_mem_cons.mpr ⟨kp_M_toldBits_0, fun _ h => absurd h List.not_mem_nil⟩) kq_M_count_0
set_option maxRecDepth 1000000 in
theorem kq_M_row_0 : ac_check nm_T nm_P nm_GH nm_FA [] [] 20000 kc_M_row_0 = true := by decide +kernel
theorem kp_M_row_0 : nm_ok kc_M_row_0 := ac_check_ok nm_Fl nm_FG (fun _ h => absurd h List.not_mem_nil) kq_M_row_0
