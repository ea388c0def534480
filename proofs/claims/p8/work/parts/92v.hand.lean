theorem kp_M_goesThrough_0 : nm_ok kc_M_goesThrough_0 := sorry
theorem kp_M_run_0 : nm_ok kc_M_run_0 := sorry
