/-! the end of run -/
abbrev ru_ws : List (Nat × Nat) := kc_M_run_0.2.2.2.2.1
abbrev ru_wa : List Nat := kc_M_run_0.2.2.2.2.2
def ru_B : ac_S := ([(0, ((2, 0, 0, [69]), none)), (1, ((0, 0, 5, []), none)), (2, ((0, 0, 3, []), none)), (3, ((0, 0, 10, []), none))], [], [], [], [], [])
def ru_ck : Bool := match ac_run nm_T nm_P nm_GH nm_FA [kc_M_closes_0] [] ru_ws ru_wa 20000 true [] mi_M_run mm_M_run 104 ru_B with
  | some o => o.1.all (fun q => match q.1 with | some a => ab_le a.1 (0, -1, 3, []) | none => false) && o.2.isEmpty
  | none => false
set_option maxRecDepth 1000000 in
theorem ru_ck_t : ru_ck = true := by decide +kernel
