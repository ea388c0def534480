set_option maxRecDepth 1000000 in
theorem kq_M_rule_0 : ac_check nm_T nm_P nm_GH nm_FA [kc_M_readsRule_0] [] 20000 kc_M_rule_0 = true := by decide +kernel
theorem kp_M_rule_0 : nm_ok kc_M_rule_0 := ac_check_ok nm_Fl nm_FG (List.forall_mem_cons.mpr ⟨kp_M_readsRule_0, fun _ h => absurd h List.not_mem_nil⟩) kq_M_rule_0
set_option maxRecDepth 1000000 in
theorem kq_M_other_0 : ac_check nm_T nm_P nm_GH nm_FA [kc_M_readsRule_0] [] 20000 kc_M_other_0 = true := by decide +kernel
theorem kp_M_other_0 : nm_ok kc_M_other_0 := ac_check_ok nm_Fl nm_FG (List.forall_mem_cons.mpr ⟨kp_M_readsRule_0, fun _ h => absurd h List.not_mem_nil⟩) kq_M_other_0
set_option maxRecDepth 1000000 in
theorem kq_M_reaches_0 : ac_check nm_T nm_P nm_GH nm_FA [kc_M_empties_0, kc_M_adds_0, kc_M_goesThrough_0] [kl_M_reaches_21] 20000 kc_M_reaches_0 = true := by decide +kernel
theorem kp_M_reaches_0 : nm_ok kc_M_reaches_0 := ac_check_ok nm_Fl nm_FG (List.forall_mem_cons.mpr ⟨kp_M_empties_0, List.forall_mem_cons.mpr ⟨kp_M_adds_0, List.forall_mem_cons.mpr ⟨kp_M_goesThrough_0, fun _ h => absurd h List.not_mem_nil⟩⟩⟩) kq_M_reaches_0
