set_option maxRecDepth 1000000 in
theorem kq_M_best_0 : ac_check nm_T nm_P nm_GH nm_FA [kc_I_bitCount_0, kc_M_tries_0, kc_M_anyOf_0, kc_I_bitCount_1] [kl_M_best_46] 20000 kc_M_best_0 = true := by decide +kernel
theorem kp_M_best_0 : nm_ok kc_M_best_0 := ac_check_ok nm_Fl nm_FG (List.forall_mem_cons.mpr ⟨kp_I_bitCount_0, List.forall_mem_cons.mpr ⟨kp_M_tries_0, List.forall_mem_cons.mpr ⟨kp_M_anyOf_0, List.forall_mem_cons.mpr ⟨kp_I_bitCount_1, fun _ h => absurd h List.not_mem_nil⟩⟩⟩⟩) kq_M_best_0
set_option maxRecDepth 1000000 in
theorem kq_M_never_0 : ac_check nm_T nm_P nm_GH nm_FA [kc_I_bitCount_0, kc_M_tries_0, kc_M_someBits_0, kc_M_housed_0, kc_I_bitCount_1] [kl_M_never_39, kl_M_never_88] 20000 kc_M_never_0 = true := by decide +kernel
theorem kp_M_never_0 : nm_ok kc_M_never_0 := ac_check_ok nm_Fl nm_FG (List.forall_mem_cons.mpr ⟨kp_I_bitCount_0, List.forall_mem_cons.mpr ⟨kp_M_tries_0, List.forall_mem_cons.mpr ⟨kp_M_someBits_0, List.forall_mem_cons.mpr ⟨kp_M_housed_0, List.forall_mem_cons.mpr ⟨kp_I_bitCount_1, fun _ h => absurd h List.not_mem_nil⟩⟩⟩⟩⟩) kq_M_never_0
set_option maxRecDepth 1000000 in
theorem kq_M_unlike_0 : ac_check nm_T nm_P nm_GH nm_FA [kc_M_anyOf_0] [kl_M_unlike_10] 20000 kc_M_unlike_0 = true := by decide +kernel
theorem kp_M_unlike_0 : nm_ok kc_M_unlike_0 := ac_check_ok nm_Fl nm_FG (List.forall_mem_cons.mpr ⟨kp_M_anyOf_0, fun _ h => absurd h List.not_mem_nil⟩) kq_M_unlike_0
set_option maxRecDepth 1000000 in
theorem kq_M_even_0 : ac_check nm_T nm_P nm_GH nm_FA [kc_I_bitCount_0, kc_M_tries_0, kc_M_unlike_0, kc_I_bitCount_1] [kl_M_even_39] 20000 kc_M_even_0 = true := by decide +kernel
theorem kp_M_even_0 : nm_ok kc_M_even_0 := ac_check_ok nm_Fl nm_FG (List.forall_mem_cons.mpr ⟨kp_I_bitCount_0, List.forall_mem_cons.mpr ⟨kp_M_tries_0, List.forall_mem_cons.mpr ⟨kp_M_unlike_0, List.forall_mem_cons.mpr ⟨kp_I_bitCount_1, fun _ h => absurd h List.not_mem_nil⟩⟩⟩⟩) kq_M_even_0
set_option maxRecDepth 1000000 in
theorem kq_M_fair_0 : ac_check nm_T nm_P nm_GH nm_FA [kc_M_asks_0, kc_M_unlike_0] [kl_M_fair_68] 20000 kc_M_fair_0 = true := by decide +kernel
theorem kp_M_fair_0 : nm_ok kc_M_fair_0 := ac_check_ok nm_Fl nm_FG (List.forall_mem_cons.mpr ⟨kp_M_asks_0, List.forall_mem_cons.mpr ⟨kp_M_unlike_0, fun _ h => absurd h List.not_mem_nil⟩⟩) kq_M_fair_0
set_option maxRecDepth 1000000 in
theorem kq_M_sumBelow_0 : ac_check nm_T nm_P nm_GH nm_FA [kc_M_filled_0] [kl_M_sumBelow_5] 20000 kc_M_sumBelow_0 = true := by decide +kernel
theorem kp_M_sumBelow_0 : nm_ok kc_M_sumBelow_0 := ac_check_ok nm_Fl nm_FG (List.forall_mem_cons.mpr ⟨kp_M_filled_0, fun _ h => absurd h List.not_mem_nil⟩) kq_M_sumBelow_0
set_option maxRecDepth 1000000 in
theorem kq_M_war_0 : ac_check nm_T nm_P nm_GH nm_FA [kc_M_asks_0, kc_M_sumBelow_0] [] 20000 kc_M_war_0 = true := by decide +kernel
theorem kp_M_war_0 : nm_ok kc_M_war_0 := ac_check_ok nm_Fl nm_FG (List.forall_mem_cons.mpr ⟨kp_M_asks_0, List.forall_mem_cons.mpr ⟨kp_M_sumBelow_0, fun _ h => absurd h List.not_mem_nil⟩⟩) kq_M_war_0
set_option maxRecDepth 1000000 in
theorem kq_M_list_0 : ac_check nm_T nm_P nm_GH nm_FA [] [] 20000 kc_M_list_0 = true := by decide +kernel
theorem kp_M_list_0 : nm_ok kc_M_list_0 := ac_check_ok nm_Fl nm_FG (fun _ h => absurd h List.not_mem_nil) kq_M_list_0
set_option maxRecDepth 1000000 in
theorem kq_M_wipe_0 : ac_check nm_T nm_P nm_GH nm_FA [] [] 20000 kc_M_wipe_0 = true := by decide +kernel
theorem kp_M_wipe_0 : nm_ok kc_M_wipe_0 := ac_check_ok nm_Fl nm_FG (fun _ h => absurd h List.not_mem_nil) kq_M_wipe_0
set_option maxRecDepth 1000000 in
theorem kq_M_lets_0 : ac_check nm_T nm_P nm_GH nm_FA [kc_M_remembers_0, kc_M_isAsBefore_0, kc_M_empties_0, kc_M_adds_0, kc_M_unpacks_0, kc_M_goesThrough_0, kc_M_keepsListed_0] [kl_M_lets_44, kl_M_lets_108] 20000 kc_M_lets_0 = true := by decide +kernel
theorem kp_M_lets_0 : nm_ok kc_M_lets_0 := ac_check_ok nm_Fl nm_FG (List.forall_mem_cons.mpr ⟨kp_M_remembers_0, List.forall_mem_cons.mpr ⟨kp_M_isAsBefore_0, List.forall_mem_cons.mpr ⟨kp_M_empties_0, List.forall_mem_cons.mpr ⟨kp_M_adds_0, List.forall_mem_cons.mpr ⟨kp_M_unpacks_0, List.forall_mem_cons.mpr ⟨kp_M_goesThrough_0, List.forall_mem_cons.mpr ⟨kp_M_keepsListed_0, fun _ h => absurd h List.not_mem_nil⟩⟩⟩⟩⟩⟩⟩) kq_M_lets_0
set_option maxRecDepth 1000000 in
theorem kq_M_old_0 : ac_check nm_T nm_P nm_GH nm_FA [kc_I_bitCount_0, kc_M_lets_0] [kl_M_old_53] 20000 kc_M_old_0 = true := by decide +kernel
theorem kp_M_old_0 : nm_ok kc_M_old_0 := ac_check_ok nm_Fl nm_FG (List.forall_mem_cons.mpr ⟨kp_I_bitCount_0, List.forall_mem_cons.mpr ⟨kp_M_lets_0, fun _ h => absurd h List.not_mem_nil⟩⟩) kq_M_old_0
set_option maxRecDepth 1000000 in
theorem kq_M_seldom_0 : ac_check nm_T nm_P nm_GH nm_FA [kc_M_lets_0] [] 20000 kc_M_seldom_0 = true := by decide +kernel
theorem kp_M_seldom_0 : nm_ok kc_M_seldom_0 := ac_check_ok nm_Fl nm_FG (List.forall_mem_cons.mpr ⟨kp_M_lets_0, fun _ h => absurd h List.not_mem_nil⟩) kq_M_seldom_0
set_option maxRecDepth 1000000 in
theorem kq_M_seed_0 : ac_check nm_T nm_P nm_GH nm_FA [] [] 20000 kc_M_seed_0 = true := by decide +kernel
theorem kp_M_seed_0 : nm_ok kc_M_seed_0 := ac_check_ok nm_Fl nm_FG (fun _ h => absurd h List.not_mem_nil) kq_M_seed_0
set_option maxRecDepth 1000000 in
theorem kq_M_keep_0 : ac_check nm_T nm_P nm_GH nm_FA [kc_M_first_0, kc_M_second_0] [] 20000 kc_M_keep_0 = true := by decide +kernel
theorem kp_M_keep_0 : nm_ok kc_M_keep_0 := ac_check_ok nm_Fl nm_FG (List.forall_mem_cons.mpr ⟨kp_M_first_0, List.forall_mem_cons.mpr ⟨kp_M_second_0, fun _ h => absurd h List.not_mem_nil⟩⟩) kq_M_keep_0
set_option maxRecDepth 1000000 in
theorem kq_M_again_0 : ac_check nm_T nm_P nm_GH nm_FA [kc_M_unpacks_0] [] 20000 kc_M_again_0 = true := by decide +kernel
theorem kp_M_again_0 : nm_ok kc_M_again_0 := ac_check_ok nm_Fl nm_FG (List.forall_mem_cons.mpr ⟨kp_M_unpacks_0, fun _ h => absurd h List.not_mem_nil⟩) kq_M_again_0
set_option maxRecDepth 1000000 in
theorem kq_M_toldBits_0 : ac_check nm_T nm_P nm_GH nm_FA [] [kl_M_toldBits_4] 20000 kc_M_toldBits_0 = true := by decide +kernel
theorem kp_M_toldBits_0 : nm_ok kc_M_toldBits_0 := ac_check_ok nm_Fl nm_FG (fun _ h => absurd h List.not_mem_nil) kq_M_toldBits_0
set_option maxRecDepth 1000000 in
theorem kq_M_count_0 : ac_check nm_T nm_P nm_GH nm_FA [kc_M_toldBits_0] [] 20000 kc_M_count_0 = true := by decide +kernel
theorem kp_M_count_0 : nm_ok kc_M_count_0 := ac_check_ok nm_Fl nm_FG (List.forall_mem_cons.mpr ⟨kp_M_toldBits_0, fun _ h => absurd h List.not_mem_nil⟩) kq_M_count_0
set_option maxRecDepth 1000000 in
theorem kq_M_row_0 : ac_check nm_T nm_P nm_GH nm_FA [] [] 20000 kc_M_row_0 = true := by decide +kernel
theorem kp_M_row_0 : nm_ok kc_M_row_0 := ac_check_ok nm_Fl nm_FG (fun _ h => absurd h List.not_mem_nil) kq_M_row_0
