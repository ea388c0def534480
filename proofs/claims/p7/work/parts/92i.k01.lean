set_option maxRecDepth 1000000 in
theorem kq_Chest_takeOut_2 : ac_check nm_T nm_P nm_GH nm_FA [] [] 20000 kc_Chest_takeOut_2 = true := by decide +kernel
theorem kp_Chest_takeOut_2 : nm_ok kc_Chest_takeOut_2 := ac_check_ok nm_Fl nm_FG (fun _ h => absurd h List.not_mem_nil) kq_Chest_takeOut_2
set_option maxRecDepth 1000000 in
theorem kq_Chest_takeOut_3 : ac_check nm_T nm_P nm_GH nm_FA [] [] 20000 kc_Chest_takeOut_3 = true := by decide +kernel
theorem kp_Chest_takeOut_3 : nm_ok kc_Chest_takeOut_3 := ac_check_ok nm_Fl nm_FG (fun _ h => absurd h List.not_mem_nil) kq_Chest_takeOut_3
set_option maxRecDepth 1000000 in
theorem kq_Chest_takeOut_4 : ac_check nm_T nm_P nm_GH nm_FA [] [] 20000 kc_Chest_takeOut_4 = true := by decide +kernel
theorem kp_Chest_takeOut_4 : nm_ok kc_Chest_takeOut_4 := ac_check_ok nm_Fl nm_FG (fun _ h => absurd h List.not_mem_nil) kq_Chest_takeOut_4
set_option maxRecDepth 1000000 in
theorem kq_Chest_takeOut_5 : ac_check nm_T nm_P nm_GH nm_FA [] [] 20000 kc_Chest_takeOut_5 = true := by decide +kernel
theorem kp_Chest_takeOut_5 : nm_ok kc_Chest_takeOut_5 := ac_check_ok nm_Fl nm_FG (fun _ h => absurd h List.not_mem_nil) kq_Chest_takeOut_5
set_option maxRecDepth 1000000 in
theorem kq_Chest_close_0 : ac_check nm_T nm_P nm_GH nm_FA [] [] 20000 kc_Chest_close_0 = true := by decide +kernel
theorem kp_Chest_close_0 : nm_ok kc_Chest_close_0 := ac_check_ok nm_Fl nm_FG (fun _ h => absurd h List.not_mem_nil) kq_Chest_close_0
set_option maxRecDepth 1000000 in
theorem kq_Chest_close_1 : ac_check nm_T nm_P nm_GH nm_FA [] [] 20000 kc_Chest_close_1 = true := by decide +kernel
theorem kp_Chest_close_1 : nm_ok kc_Chest_close_1 := ac_check_ok nm_Fl nm_FG (fun _ h => absurd h List.not_mem_nil) kq_Chest_close_1
set_option maxRecDepth 1000000 in
theorem kq_Chest_close_2 : ac_check nm_T nm_P nm_GH nm_FA [] [] 20000 kc_Chest_close_2 = true := by decide +kernel
theorem kp_Chest_close_2 : nm_ok kc_Chest_close_2 := ac_check_ok nm_Fl nm_FG (fun _ h => absurd h List.not_mem_nil) kq_Chest_close_2
set_option maxRecDepth 1000000 in
theorem kq_Chest_close_3 : ac_check nm_T nm_P nm_GH nm_FA [] [] 20000 kc_Chest_close_3 = true := by decide +kernel
theorem kp_Chest_close_3 : nm_ok kc_Chest_close_3 := ac_check_ok nm_Fl nm_FG (fun _ h => absurd h List.not_mem_nil) kq_Chest_close_3
set_option maxRecDepth 1000000 in
theorem kq_Chest_close_4 : ac_check nm_T nm_P nm_GH nm_FA [] [] 20000 kc_Chest_close_4 = true := by decide +kernel
theorem kp_Chest_close_4 : nm_ok kc_Chest_close_4 := ac_check_ok nm_Fl nm_FG (fun _ h => absurd h List.not_mem_nil) kq_Chest_close_4
set_option maxRecDepth 1000000 in
theorem kq_Chest_close_5 : ac_check nm_T nm_P nm_GH nm_FA [] [] 20000 kc_Chest_close_5 = true := by decide +kernel
theorem kp_Chest_close_5 : nm_ok kc_Chest_close_5 := ac_check_ok nm_Fl nm_FG (fun _ h => absurd h List.not_mem_nil) kq_Chest_close_5
set_option maxRecDepth 1000000 in
theorem kq_Town_deadOn_0 : ac_check nm_T nm_P nm_GH nm_FA [] [kl_Town_deadOn_4] 20000 kc_Town_deadOn_0 = true := by decide +kernel
theorem kp_Town_deadOn_0 : nm_ok kc_Town_deadOn_0 := ac_check_ok nm_Fl nm_FG (fun _ h => absurd h List.not_mem_nil) kq_Town_deadOn_0
set_option maxRecDepth 1000000 in
theorem kq_Town_indebtedOn_0 : ac_check nm_T nm_P nm_GH nm_FA [] [kl_Town_indebtedOn_4] 20000 kc_Town_indebtedOn_0 = true := by decide +kernel
theorem kp_Town_indebtedOn_0 : nm_ok kc_Town_indebtedOn_0 := ac_check_ok nm_Fl nm_FG (fun _ h => absurd h List.not_mem_nil) kq_Town_indebtedOn_0
set_option maxRecDepth 1000000 in
theorem kq_Town_awayOn_0 : ac_check nm_T nm_P nm_GH nm_FA [] [kl_Town_awayOn_4] 20000 kc_Town_awayOn_0 = true := by decide +kernel
theorem kp_Town_awayOn_0 : nm_ok kc_Town_awayOn_0 := ac_check_ok nm_Fl nm_FG (fun _ h => absurd h List.not_mem_nil) kq_Town_awayOn_0
set_option maxRecDepth 1000000 in
theorem kq_Town_ofHouse_0 : ac_check nm_T nm_P nm_GH nm_FA [] [kl_Town_ofHouse_4] 20000 kc_Town_ofHouse_0 = true := by decide +kernel
theorem kp_Town_ofHouse_0 : nm_ok kc_Town_ofHouse_0 := ac_check_ok nm_Fl nm_FG (fun _ h => absurd h List.not_mem_nil) kq_Town_ofHouse_0
set_option maxRecDepth 1000000 in
theorem kq_Course_ready_0 : ac_check nm_T nm_P nm_GH nm_FA [kc_Town_deadOn_0, kc_Town_indebtedOn_0, kc_Town_awayOn_0, kc_Town_ofHouse_0] [kl_Course_ready_96] 20000 kc_Course_ready_0 = true := by decide +kernel
theorem kp_Course_ready_0 : nm_ok kc_Course_ready_0 := ac_check_ok nm_Fl nm_FG (List.forall_mem_cons.mpr ⟨kp_Town_deadOn_0, List.forall_mem_cons.mpr ⟨kp_Town_indebtedOn_0, List.forall_mem_cons.mpr ⟨kp_Town_awayOn_0, List.forall_mem_cons.mpr ⟨kp_Town_ofHouse_0, fun _ h => absurd h List.not_mem_nil⟩⟩⟩⟩) kq_Course_ready_0
set_option maxRecDepth 1000000 in
theorem kq_Course_lineAgainst_0 : ac_check nm_T nm_P nm_GH nm_FA [kc_Course_barredBy_0] [kl_Course_lineAgainst_2] 20000 kc_Course_lineAgainst_0 = true := by decide +kernel
theorem kp_Course_lineAgainst_0 : nm_ok kc_Course_lineAgainst_0 := ac_check_ok nm_Fl nm_FG (List.forall_mem_cons.mpr ⟨kp_Course_barredBy_0, fun _ h => absurd h List.not_mem_nil⟩) kq_Course_lineAgainst_0
set_option maxRecDepth 1000000 in
theorem kq_Course_foretell_0 : ac_check nm_T nm_P nm_GH nm_FA [kc_Course_barredBy_0] [kl_Course_foretell_25] 20000 kc_Course_foretell_0 = true := by decide +kernel
theorem kp_Course_foretell_0 : nm_ok kc_Course_foretell_0 := ac_check_ok nm_Fl nm_FG (List.forall_mem_cons.mpr ⟨kp_Course_barredBy_0, fun _ h => absurd h List.not_mem_nil⟩) kq_Course_foretell_0
set_option maxRecDepth 1000000 in
theorem kq_Rule_read_0 : ac_check nm_T nm_P nm_GH nm_FA [] [kl_Rule_read_7] 20000 kc_Rule_read_0 = true := by decide +kernel
theorem kp_Rule_read_0 : nm_ok kc_Rule_read_0 := ac_check_ok nm_Fl nm_FG (fun _ h => absurd h List.not_mem_nil) kq_Rule_read_0
set_option maxRecDepth 1000000 in
theorem kq_Table_hash_0 : ac_check nm_T nm_P nm_GH nm_FA [] [] 20000 kc_Table_hash_0 = true := by decide +kernel
theorem kp_Table_hash_0 : nm_ok kc_Table_hash_0 := ac_check_ok nm_Fl nm_FG (fun _ h => absurd h List.not_mem_nil) kq_Table_hash_0
set_option maxRecDepth 1000000 in
theorem kq_Table_clear_0 : ac_check nm_T nm_P nm_GH nm_FA [kc_Table_hash_0] [kl_Table_clear_2] 20000 kc_Table_clear_0 = true := by decide +kernel
theorem kp_Table_clear_0 : nm_ok kc_Table_clear_0 := ac_check_ok nm_Fl nm_FG (List.forall_mem_cons.mpr ⟨kp_Table_hash_0, fun _ h => absurd h List.not_mem_nil⟩) kq_Table_clear_0
set_option maxRecDepth 1000000 in
theorem kq_Table_add_0 : ac_check nm_T nm_P nm_GH nm_FA [kc_Table_hash_0] [kl_Table_add_21] 20000 kc_Table_add_0 = true := by decide +kernel
theorem kp_Table_add_0 : nm_ok kc_Table_add_0 := ac_check_ok nm_Fl nm_FG (List.forall_mem_cons.mpr ⟨kp_Table_hash_0, fun _ h => absurd h List.not_mem_nil⟩) kq_Table_add_0
set_option maxRecDepth 1000000 in
theorem kq_Text_add_0 : ac_check nm_T nm_P nm_GH nm_FA [] [] 20000 kc_Text_add_0 = true := by decide +kernel
theorem kp_Text_add_0 : nm_ok kc_Text_add_0 := ac_check_ok nm_Fl nm_FG (fun _ h => absurd h List.not_mem_nil) kq_Text_add_0
set_option maxRecDepth 1000000 in
theorem kq_Text_behind_0 : ac_check nm_T nm_P nm_GH nm_FA [] [] 20000 kc_Text_behind_0 = true := by decide +kernel
theorem kp_Text_behind_0 : nm_ok kc_Text_behind_0 := ac_check_ok nm_Fl nm_FG (fun _ h => absurd h List.not_mem_nil) kq_Text_behind_0
set_option maxRecDepth 1000000 in
theorem kq_Text_firstFault_0 : ac_check nm_T nm_P nm_GH nm_FA [kc_Text_behind_0] [kl_Text_firstFault_4] 20000 kc_Text_firstFault_0 = true := by decide +kernel
theorem kp_Text_firstFault_0 : nm_ok kc_Text_firstFault_0 := ac_check_ok nm_Fl nm_FG (List.forall_mem_cons.mpr ⟨kp_Text_behind_0, fun _ h => absurd h List.not_mem_nil⟩) kq_Text_firstFault_0
