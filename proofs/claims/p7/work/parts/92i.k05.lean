set_option maxRecDepth 1000000 in
theorem kq_M_sheet_0 : ac_check nm_T nm_P nm_GH nm_FA [] [kl_M_sheet_46] 20000 kc_M_sheet_0 = true := by decide +kernel
theorem kp_M_sheet_0 : nm_ok kc_M_sheet_0 := ac_check_ok nm_Fl nm_FG (fun _ h => absurd h List.not_mem_nil) kq_M_sheet_0
set_option maxRecDepth 1000000 in
theorem kq_M_pack_0 : ac_check nm_T nm_P nm_GH nm_FA [] [] 20000 kc_M_pack_0 = true := by decide +kernel
theorem kp_M_pack_0 : nm_ok kc_M_pack_0 := ac_check_ok nm_Fl nm_FG (fun _ h => absurd h List.not_mem_nil) kq_M_pack_0
set_option maxRecDepth 1000000 in
theorem kq_M_renew_0 : ac_check nm_T nm_P nm_GH nm_FA [] [] 20000 kc_M_renew_0 = true := by decide +kernel
theorem kp_M_renew_0 : nm_ok kc_M_renew_0 := ac_check_ok nm_Fl nm_FG (fun _ h => absurd h List.not_mem_nil) kq_M_renew_0
set_option maxRecDepth 1000000 in
theorem kq_M_drawing_0 : ac_check nm_T nm_P nm_GH nm_FA [] [] 20000 kc_M_drawing_0 = true := by decide +kernel
theorem kp_M_drawing_0 : nm_ok kc_M_drawing_0 := ac_check_ok nm_Fl nm_FG (fun _ h => absurd h List.not_mem_nil) kq_M_drawing_0
set_option maxRecDepth 1000000 in
theorem kq_M_sign_0 : ac_check nm_T nm_P nm_GH nm_FA [] [] 20000 kc_M_sign_0 = true := by decide +kernel
theorem kp_M_sign_0 : nm_ok kc_M_sign_0 := ac_check_ok nm_Fl nm_FG (fun _ h => absurd h List.not_mem_nil) kq_M_sign_0
set_option maxRecDepth 1000000 in
theorem kq_M_end_0 : ac_check nm_T nm_P nm_GH nm_FA [] [] 20000 kc_M_end_0 = true := by decide +kernel
theorem kp_M_end_0 : nm_ok kc_M_end_0 := ac_check_ok nm_Fl nm_FG (fun _ h => absurd h List.not_mem_nil) kq_M_end_0
set_option maxRecDepth 1000000 in
theorem kq_M_isDead_0 : ac_check nm_T nm_P nm_GH nm_FA [] [] 20000 kc_M_isDead_0 = true := by decide +kernel
theorem kp_M_isDead_0 : nm_ok kc_M_isDead_0 := ac_check_ok nm_Fl nm_FG (fun _ h => absurd h List.not_mem_nil) kq_M_isDead_0
set_option maxRecDepth 1000000 in
theorem kq_M_doesBar_0 : ac_check nm_T nm_P nm_GH nm_FA [] [kl_M_doesBar_15] 20000 kc_M_doesBar_0 = true := by decide +kernel
theorem kp_M_doesBar_0 : nm_ok kc_M_doesBar_0 := ac_check_ok nm_Fl nm_FG (fun _ h => absurd h List.not_mem_nil) kq_M_doesBar_0
set_option maxRecDepth 1000000 in
theorem kq_M_barredBy_0 : ac_check nm_T nm_P nm_GH nm_FA [kc_M_doesBar_0] [kl_M_barredBy_2] 20000 kc_M_barredBy_0 = true := by decide +kernel
theorem kp_M_barredBy_0 : nm_ok kc_M_barredBy_0 := ac_check_ok nm_Fl nm_FG (List.forall_mem_cons.mpr ⟨kp_M_doesBar_0, fun _ h => absurd h List.not_mem_nil⟩) kq_M_barredBy_0
set_option maxRecDepth 1000000 in
theorem kq_M_opens_0 : ac_check nm_T nm_P nm_GH nm_FA [kc_M_barredBy_0] [kl_M_opens_57] 20000 kc_M_opens_0 = true := by decide +kernel
theorem kp_M_opens_0 : nm_ok kc_M_opens_0 := ac_check_ok nm_Fl nm_FG (List.forall_mem_cons.mpr ⟨kp_M_barredBy_0, fun _ h => absurd h List.not_mem_nil⟩) kq_M_opens_0
set_option maxRecDepth 1000000 in
theorem kq_M_isOver_0 : ac_check nm_T nm_P nm_GH nm_FA [kc_I_bitCount_0] [] 20000 kc_M_isOver_0 = true := by decide +kernel
theorem kp_M_isOver_0 : nm_ok kc_M_isOver_0 := ac_check_ok nm_Fl nm_FG (List.forall_mem_cons.mpr ⟨kp_I_bitCount_0, fun _ h => absurd h List.not_mem_nil⟩) kq_M_isOver_0
set_option maxRecDepth 1000000 in
theorem kq_M_takes_0 : ac_check nm_T nm_P nm_GH nm_FA [kc_M_isDead_0, kc_M_barredBy_0] [] 20000 kc_M_takes_0 = true := by decide +kernel
theorem kp_M_takes_0 : nm_ok kc_M_takes_0 := ac_check_ok nm_Fl nm_FG (List.forall_mem_cons.mpr ⟨kp_M_isDead_0, List.forall_mem_cons.mpr ⟨kp_M_barredBy_0, fun _ h => absurd h List.not_mem_nil⟩⟩) kq_M_takes_0
set_option maxRecDepth 1000000 in
theorem kq_M_closes_0 : ac_check nm_T nm_P nm_GH nm_FA [] [] 20000 kc_M_closes_0 = true := by decide +kernel
theorem kp_M_closes_0 : nm_ok kc_M_closes_0 := ac_check_ok nm_Fl nm_FG (fun _ h => absurd h List.not_mem_nil) kq_M_closes_0
set_option maxRecDepth 1000000 in
theorem kq_M_isAsBefore_0 : ac_check nm_T nm_P nm_GH nm_FA [] [kl_M_isAsBefore_2, kl_M_isAsBefore_34] 20000 kc_M_isAsBefore_0 = true := by decide +kernel
theorem kp_M_isAsBefore_0 : nm_ok kc_M_isAsBefore_0 := ac_check_ok nm_Fl nm_FG (fun _ h => absurd h List.not_mem_nil) kq_M_isAsBefore_0
set_option maxRecDepth 1000000 in
theorem kq_M_first_0 : ac_check nm_T nm_P nm_GH nm_FA [] [] 20000 kc_M_first_0 = true := by decide +kernel
theorem kp_M_first_0 : nm_ok kc_M_first_0 := ac_check_ok nm_Fl nm_FG (fun _ h => absurd h List.not_mem_nil) kq_M_first_0
set_option maxRecDepth 1000000 in
theorem kq_M_second_0 : ac_check nm_T nm_P nm_GH nm_FA [] [kl_M_second_4] 20000 kc_M_second_0 = true := by decide +kernel
theorem kp_M_second_0 : nm_ok kc_M_second_0 := ac_check_ok nm_Fl nm_FG (fun _ h => absurd h List.not_mem_nil) kq_M_second_0
set_option maxRecDepth 1000000 in
theorem kq_M_unpacks_0 : ac_check nm_T nm_P nm_GH nm_FA [] [kl_M_unpacks_90] 20000 kc_M_unpacks_0 = true := by decide +kernel
theorem kp_M_unpacks_0 : nm_ok kc_M_unpacks_0 := ac_check_ok nm_Fl nm_FG (fun _ h => absurd h List.not_mem_nil) kq_M_unpacks_0
set_option maxRecDepth 1000000 in
theorem kq_M_remembers_0 : ac_check nm_T nm_P nm_GH nm_FA [kc_M_first_0, kc_M_second_0] [] 20000 kc_M_remembers_0 = true := by decide +kernel
theorem kp_M_remembers_0 : nm_ok kc_M_remembers_0 := ac_check_ok nm_Fl nm_FG (List.forall_mem_cons.mpr ⟨kp_M_first_0, List.forall_mem_cons.mpr ⟨kp_M_second_0, fun _ h => absurd h List.not_mem_nil⟩⟩) kq_M_remembers_0
set_option maxRecDepth 1000000 in
theorem kq_M_comesBack_0 : ac_check nm_T nm_P nm_GH nm_FA [kc_M_unpacks_0] [] 20000 kc_M_comesBack_0 = true := by decide +kernel
theorem kp_M_comesBack_0 : nm_ok kc_M_comesBack_0 := ac_check_ok nm_Fl nm_FG (List.forall_mem_cons.mpr ⟨kp_M_unpacks_0, fun _ h => absurd h List.not_mem_nil⟩) kq_M_comesBack_0
set_option maxRecDepth 1000000 in
theorem kq_M_bars_0 : ac_check nm_T nm_P nm_GH nm_FA [kc_M_isDead_0, kc_M_barredBy_0] [] 20000 kc_M_bars_0 = true := by decide +kernel
theorem kp_M_bars_0 : nm_ok kc_M_bars_0 := ac_check_ok nm_Fl nm_FG (List.forall_mem_cons.mpr ⟨kp_M_isDead_0, List.forall_mem_cons.mpr ⟨kp_M_barredBy_0, fun _ h => absurd h List.not_mem_nil⟩⟩) kq_M_bars_0
set_option maxRecDepth 1000000 in
theorem kq_M_judge_0 : ac_check nm_T nm_P nm_GH nm_FA [kc_M_remembers_0, kc_M_opens_0, kc_M_isOver_0, kc_M_takes_0, kc_M_comesBack_0] [kl_M_goesBy_15] 20000 kc_M_judge_0 = true := by decide +kernel
theorem kp_M_judge_0 : nm_ok kc_M_judge_0 := ac_check_ok nm_Fl nm_FG (List.forall_mem_cons.mpr ⟨kp_M_remembers_0, List.forall_mem_cons.mpr ⟨kp_M_opens_0, List.forall_mem_cons.mpr ⟨kp_M_isOver_0, List.forall_mem_cons.mpr ⟨kp_M_takes_0, List.forall_mem_cons.mpr ⟨kp_M_comesBack_0, fun _ h => absurd h List.not_mem_nil⟩⟩⟩⟩⟩) kq_M_judge_0
set_option maxRecDepth 1000000 in
theorem kq_M_hold_0 : ac_check nm_T nm_P nm_GH nm_FA [kc_M_remembers_0, kc_M_opens_0, kc_M_isOver_0, kc_M_takes_0, kc_M_comesBack_0, kc_M_closes_0] [kl_M_goesBy_15] 20000 kc_M_hold_0 = true := by decide +kernel
theorem kp_M_hold_0 : nm_ok kc_M_hold_0 := ac_check_ok nm_Fl nm_FG (List.forall_mem_cons.mpr ⟨kp_M_remembers_0, List.forall_mem_cons.mpr ⟨kp_M_opens_0, List.forall_mem_cons.mpr ⟨kp_M_isOver_0, List.forall_mem_cons.mpr ⟨kp_M_takes_0, List.forall_mem_cons.mpr ⟨kp_M_comesBack_0, List.forall_mem_cons.mpr ⟨kp_M_closes_0, fun _ h => absurd h List.not_mem_nil⟩⟩⟩⟩⟩⟩) kq_M_hold_0
set_option maxRecDepth 1000000 in
theorem kq_M_begin_0 : ac_check nm_T nm_P nm_GH nm_FA [kc_M_isAsBefore_0] [] 20000 kc_M_begin_0 = true := by decide +kernel
theorem kp_M_begin_0 : nm_ok kc_M_begin_0 := ac_check_ok nm_Fl nm_FG (List.forall_mem_cons.mpr ⟨kp_M_isAsBefore_0, fun _ h => absurd h List.not_mem_nil⟩) kq_M_begin_0
set_option maxRecDepth 1000000 in
theorem kq_M_bag_0 : ac_check nm_T nm_P nm_GH nm_FA [] [] 20000 kc_M_bag_0 = true := by decide +kernel
theorem kp_M_bag_0 : nm_ok kc_M_bag_0 := ac_check_ok nm_Fl nm_FG (fun _ h => absurd h List.not_mem_nil) kq_M_bag_0
