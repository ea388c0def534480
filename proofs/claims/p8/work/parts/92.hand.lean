/-! contracts by hand -/
theorem kp_I_bitCount_0 : nm_ok kc_I_bitCount_0 := sorry
theorem kp_I_bitCount_1 : nm_ok kc_I_bitCount_1 := sorry
theorem kp_M_empties_0 : nm_ok kc_M_empties_0 := sorry
theorem kp_M_adds_0 : nm_ok kc_M_adds_0 := sorry
theorem kp_M_goesThrough_0 : nm_ok kc_M_goesThrough_0 := sorry
theorem kp_M_keepsListed_0 : nm_ok kc_M_keepsListed_0 := sorry
theorem kp_M_readsRule_0 : nm_ok kc_M_readsRule_0 := sorry
theorem kp_M_run_0 : nm_ok kc_M_run_0 := sorry
