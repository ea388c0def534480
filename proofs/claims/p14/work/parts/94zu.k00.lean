set_option maxRecDepth 1000000 in
theorem kq_M_asks_0 : ac_check nm_T nm_P nm_GH nm_FA [kc_M_reachesNow_0, kc_M_notes_0] [] 20000 kc_M_asks_0 = true := by decide +kernel
theorem kp_M_asks_0 : nm_ok kc_M_asks_0 := ac_check_ok nm_Fl nm_FG (List.forall_mem_cons.mpr ⟨kp_M_reachesNow_0, List.forall_mem_cons.mpr ⟨kp_M_notes_0, fun _ h => absurd h List.not_mem_nil⟩⟩) kq_M_asks_0
set_option maxRecDepth 1000000 in
theorem kq_M_chance_0 : ac_check nm_T nm_P nm_GH nm_FA [kc_M_asks_0, kc_M_anyOf_0] [] 20000 kc_M_chance_0 = true := by decide +kernel
theorem kp_M_chance_0 : nm_ok kc_M_chance_0 := ac_check_ok nm_Fl nm_FG (List.forall_mem_cons.mpr ⟨kp_M_asks_0, List.forall_mem_cons.mpr ⟨kp_M_anyOf_0, fun _ h => absurd h List.not_mem_nil⟩⟩) kq_M_chance_0
set_option maxRecDepth 1000000 in
theorem kq_M_each_0 : ac_check nm_T nm_P nm_GH nm_FA [kc_M_asks_0, kc_M_anyOf_0] [] 20000 kc_M_each_0 = true := by decide +kernel
theorem kp_M_each_0 : nm_ok kc_M_each_0 := ac_check_ok nm_Fl nm_FG (List.forall_mem_cons.mpr ⟨kp_M_asks_0, List.forall_mem_cons.mpr ⟨kp_M_anyOf_0, fun _ h => absurd h List.not_mem_nil⟩⟩) kq_M_each_0
set_option maxRecDepth 1000000 in
theorem kq_M_empty_0 : ac_check nm_T nm_P nm_GH nm_FA [kc_M_asks_0, kc_M_filled_0] [] 20000 kc_M_empty_0 = true := by decide +kernel
theorem kp_M_empty_0 : nm_ok kc_M_empty_0 := ac_check_ok nm_Fl nm_FG (List.forall_mem_cons.mpr ⟨kp_M_asks_0, List.forall_mem_cons.mpr ⟨kp_M_filled_0, fun _ h => absurd h List.not_mem_nil⟩⟩) kq_M_empty_0
set_option maxRecDepth 1000000 in
theorem kq_M_vain_0 : ac_check nm_T nm_P nm_GH nm_FA [kc_M_asks_0] [] 20000 kc_M_vain_0 = true := by decide +kernel
theorem kp_M_vain_0 : nm_ok kc_M_vain_0 := ac_check_ok nm_Fl nm_FG (List.forall_mem_cons.mpr ⟨kp_M_asks_0, fun _ h => absurd h List.not_mem_nil⟩) kq_M_vain_0
set_option maxRecDepth 1000000 in
theorem kq_M_house_0 : ac_check nm_T nm_P nm_GH nm_FA [kc_M_asks_0, kc_M_housed_0, kc_M_anyOf_0] [kl_M_house_43] 20000 kc_M_house_0 = true := by decide +kernel
theorem kp_M_house_0 : nm_ok kc_M_house_0 := ac_check_ok nm_Fl nm_FG (List.forall_mem_cons.mpr ⟨kp_M_asks_0, List.forall_mem_cons.mpr ⟨kp_M_housed_0, List.forall_mem_cons.mpr ⟨kp_M_anyOf_0, fun _ h => absurd h List.not_mem_nil⟩⟩⟩) kq_M_house_0
set_option maxRecDepth 1000000 in
theorem kq_M_ways_0 : ac_check nm_T nm_P nm_GH nm_FA [kc_M_reachesNow_0] [] 20000 kc_M_ways_0 = true := by decide +kernel
theorem kp_M_ways_0 : nm_ok kc_M_ways_0 := ac_check_ok nm_Fl nm_FG (List.forall_mem_cons.mpr ⟨kp_M_reachesNow_0, fun _ h => absurd h List.not_mem_nil⟩) kq_M_ways_0
set_option maxRecDepth 1000000 in
theorem kq_M_sure_0 : ac_check nm_T nm_P nm_GH nm_FA [kc_M_asks_0, kc_M_someBits_0, kc_M_sureBits_0] [] 20000 kc_M_sure_0 = true := by decide +kernel
theorem kp_M_sure_0 : nm_ok kc_M_sure_0 := ac_check_ok nm_Fl nm_FG (List.forall_mem_cons.mpr ⟨kp_M_asks_0, List.forall_mem_cons.mpr ⟨kp_M_someBits_0, List.forall_mem_cons.mpr ⟨kp_M_sureBits_0, fun _ h => absurd h List.not_mem_nil⟩⟩⟩) kq_M_sure_0
set_option maxRecDepth 1000000 in
theorem kq_M_sit_0 : ac_check nm_T nm_P nm_GH nm_FA [kc_M_asks_0] [kl_M_sit_42] 20000 kc_M_sit_0 = true := by decide +kernel
theorem kp_M_sit_0 : nm_ok kc_M_sit_0 := ac_check_ok nm_Fl nm_FG (List.forall_mem_cons.mpr ⟨kp_M_asks_0, fun _ h => absurd h List.not_mem_nil⟩) kq_M_sit_0
set_option maxRecDepth 1000000 in
theorem kq_M_known_0 : ac_check nm_T nm_P nm_GH nm_FA [kc_M_asks_0, kc_M_sureBits_0] [kl_M_known_23] 20000 kc_M_known_0 = true := by decide +kernel
theorem kp_M_known_0 : nm_ok kc_M_known_0 := ac_check_ok nm_Fl nm_FG (List.forall_mem_cons.mpr ⟨kp_M_asks_0, List.forall_mem_cons.mpr ⟨kp_M_sureBits_0, fun _ h => absurd h List.not_mem_nil⟩⟩) kq_M_known_0
set_option maxRecDepth 1000000 in
theorem kq_M_best_0 : ac_check nm_T nm_P nm_GH nm_FA [kc_I_bitCount_0, kc_M_tries_0, kc_M_anyOf_0, kc_I_bitCount_1] [kl_M_best_46] 20000 kc_M_best_0 = true := by decide +kernel
theorem kp_M_best_0 : nm_ok kc_M_best_0 := ac_check_ok nm_Fl nm_FG (List.forall_mem_cons.mpr ⟨kp_I_bitCount_0, List.forall_mem_cons.mpr ⟨kp_M_tries_0, List.forall_mem_cons.mpr ⟨kp_M_anyOf_0, List.forall_mem_cons.mpr ⟨kp_I_bitCount_1, fun _ h => absurd h List.not_mem_nil⟩⟩⟩⟩) kq_M_best_0
set_option maxRecDepth 1000000 in
theorem kq_M_never_0 : ac_check nm_T nm_P nm_GH nm_FA [kc_I_bitCount_0, kc_M_tries_0, kc_M_someBits_0, kc_M_housed_0, kc_I_bitCount_1] [kl_M_never_39, kl_M_never_88] 20000 kc_M_never_0 = true := by decide +kernel
theorem kp_M_never_0 : nm_ok kc_M_never_0 := ac_check_ok nm_Fl nm_FG (List.forall_mem_cons.mpr ⟨kp_I_bitCount_0, List.forall_mem_cons.mpr ⟨kp_M_tries_0, List.forall_mem_cons.mpr ⟨kp_M_someBits_0, List.forall_mem_cons.mpr ⟨kp_M_housed_0, List.forall_mem_cons.mpr ⟨kp_I_bitCount_1, fun _ h => absurd h List.not_mem_nil⟩⟩⟩⟩⟩) kq_M_never_0
set_option maxRecDepth 1000000 in
theorem kq_M_even_0 : ac_check nm_T nm_P nm_GH nm_FA [kc_I_bitCount_0, kc_M_tries_0, kc_M_unlike_0, kc_I_bitCount_1] [kl_M_even_39] 20000 kc_M_even_0 = true := by decide +kernel
theorem kp_M_even_0 : nm_ok kc_M_even_0 := ac_check_ok nm_Fl nm_FG (List.forall_mem_cons.mpr ⟨kp_I_bitCount_0, List.forall_mem_cons.mpr ⟨kp_M_tries_0, List.forall_mem_cons.mpr ⟨kp_M_unlike_0, List.forall_mem_cons.mpr ⟨kp_I_bitCount_1, fun _ h => absurd h List.not_mem_nil⟩⟩⟩⟩) kq_M_even_0
set_option maxRecDepth 1000000 in
theorem kq_M_fair_0 : ac_check nm_T nm_P nm_GH nm_FA [kc_M_asks_0, kc_M_unlike_0] [kl_M_fair_68] 20000 kc_M_fair_0 = true := by decide +kernel
theorem kp_M_fair_0 : nm_ok kc_M_fair_0 := ac_check_ok nm_Fl nm_FG (List.forall_mem_cons.mpr ⟨kp_M_asks_0, List.forall_mem_cons.mpr ⟨kp_M_unlike_0, fun _ h => absurd h List.not_mem_nil⟩⟩) kq_M_fair_0
set_option maxRecDepth 1000000 in
theorem kq_M_war_0 : ac_check nm_T nm_P nm_GH nm_FA [kc_M_asks_0, kc_M_sumBelow_0] [] 20000 kc_M_war_0 = true := by decide +kernel
theorem kp_M_war_0 : nm_ok kc_M_war_0 := ac_check_ok nm_Fl nm_FG (List.forall_mem_cons.mpr ⟨kp_M_asks_0, List.forall_mem_cons.mpr ⟨kp_M_sumBelow_0, fun _ h => absurd h List.not_mem_nil⟩⟩) kq_M_war_0
set_option maxRecDepth 1000000 in
theorem kq_M_old_0 : ac_check nm_T nm_P nm_GH nm_FA [kc_I_bitCount_0, kc_M_lets_0] [kl_M_old_53] 20000 kc_M_old_0 = true := by decide +kernel
theorem kp_M_old_0 : nm_ok kc_M_old_0 := ac_check_ok nm_Fl nm_FG (List.forall_mem_cons.mpr ⟨kp_I_bitCount_0, List.forall_mem_cons.mpr ⟨kp_M_lets_0, fun _ h => absurd h List.not_mem_nil⟩⟩) kq_M_old_0
set_option maxRecDepth 1000000 in
theorem kq_M_seldom_0 : ac_check nm_T nm_P nm_GH nm_FA [kc_M_lets_0] [] 20000 kc_M_seldom_0 = true := by decide +kernel
theorem kp_M_seldom_0 : nm_ok kc_M_seldom_0 := ac_check_ok nm_Fl nm_FG (List.forall_mem_cons.mpr ⟨kp_M_lets_0, fun _ h => absurd h List.not_mem_nil⟩) kq_M_seldom_0
