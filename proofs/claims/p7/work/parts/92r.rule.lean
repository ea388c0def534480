abbrev kb_readsRule_f : ac_S → Option (List ac_Out × List (Nat × ac_S)) := fun B => ac_run nm_T nm_P nm_GH nm_FA [] [kl_M_readsRule_153] kc_M_readsRule_0.2.2.2.2.1 kc_M_readsRule_0.2.2.2.2.2 20000 true [43] mi_M_readsRule mm_M_readsRule 43 B
set_option maxRecDepth 1000000 in
theorem kr_readsRule_0 : ac_pc1 nm_GH none kb_readsRule_f 43 (fun p => kc_M_readsRule_0.2.2.2.1.any (ac_rok kc_M_readsRule_0.2.1 p)) kb_readsRule_0 [kb_readsRule_1, kb_readsRule_2, kb_readsRule_3, kb_readsRule_4, kb_readsRule_5, kb_readsRule_6, kb_readsRule_7] = true := by decide +kernel
set_option maxRecDepth 1000000 in
theorem kr_readsRule_1 : ac_pc1 nm_GH none kb_readsRule_f 43 (fun p => kc_M_readsRule_0.2.2.2.1.any (ac_rok kc_M_readsRule_0.2.1 p)) kb_readsRule_1 [kb_readsRule_2, kb_readsRule_3, kb_readsRule_4, kb_readsRule_5, kb_readsRule_6, kb_readsRule_7] = true := by decide +kernel
set_option maxRecDepth 1000000 in
theorem kr_readsRule_2 : ac_pc1 nm_GH none kb_readsRule_f 43 (fun p => kc_M_readsRule_0.2.2.2.1.any (ac_rok kc_M_readsRule_0.2.1 p)) kb_readsRule_2 [kb_readsRule_3, kb_readsRule_4, kb_readsRule_5, kb_readsRule_6, kb_readsRule_7] = true := by decide +kernel
set_option maxRecDepth 1000000 in
theorem kr_readsRule_3 : ac_pc1 nm_GH none kb_readsRule_f 43 (fun p => kc_M_readsRule_0.2.2.2.1.any (ac_rok kc_M_readsRule_0.2.1 p)) kb_readsRule_3 [kb_readsRule_4, kb_readsRule_5, kb_readsRule_6, kb_readsRule_7] = true := by decide +kernel
set_option maxRecDepth 1000000 in
theorem kr_readsRule_4 : ac_pc1 nm_GH none kb_readsRule_f 43 (fun p => kc_M_readsRule_0.2.2.2.1.any (ac_rok kc_M_readsRule_0.2.1 p)) kb_readsRule_4 [kb_readsRule_5, kb_readsRule_6, kb_readsRule_7] = true := by decide +kernel
set_option maxRecDepth 1000000 in
theorem kr_readsRule_5 : ac_pc1 nm_GH none kb_readsRule_f 43 (fun p => kc_M_readsRule_0.2.2.2.1.any (ac_rok kc_M_readsRule_0.2.1 p)) kb_readsRule_5 [kb_readsRule_6, kb_readsRule_7] = true := by decide +kernel
set_option maxRecDepth 1000000 in
theorem kr_readsRule_6 : ac_pc1 nm_GH none kb_readsRule_f 43 (fun p => kc_M_readsRule_0.2.2.2.1.any (ac_rok kc_M_readsRule_0.2.1 p)) kb_readsRule_6 [kb_readsRule_7] = true := by decide +kernel
set_option maxRecDepth 1000000 in
theorem kr_readsRule_7 : ac_pc1 nm_GH none kb_readsRule_f 43 (fun p => kc_M_readsRule_0.2.2.2.1.any (ac_rok kc_M_readsRule_0.2.1 p)) kb_readsRule_7 [] = true := by decide +kernel
set_option maxRecDepth 1000000 in
theorem kr_readsRule_e : ac_ent nm_T nm_P nm_GH nm_FA [] [kl_M_readsRule_153] 20000 kc_M_readsRule_0 mm_M_readsRule none 43 [kb_readsRule_0, kb_readsRule_1, kb_readsRule_2, kb_readsRule_3, kb_readsRule_4, kb_readsRule_5, kb_readsRule_6, kb_readsRule_7] = true := by decide +kernel
theorem kp_M_readsRule_0 : nm_ok kc_M_readsRule_0 := ac_ent_ok (stop := []) nm_Fl nm_FG (fun _ h => absurd h List.not_mem_nil) rfl (by decide +kernel) kr_readsRule_e ⟨kr_readsRule_0, kr_readsRule_1, kr_readsRule_2, kr_readsRule_3, kr_readsRule_4, kr_readsRule_5, kr_readsRule_6, kr_readsRule_7, trivial⟩
