abbrev nm_nse : String := "java/util/NoSuchElementException"
abbrev nm_sup : List String := ["java/lang/RuntimeException", "java/lang/Exception"]
abbrev nm_rpc : Nat := 1666
abbrev nm_rix : Nat := 200
abbrev nm_vix : Nat := 7
abbrev nm_kix : Nat := 13
abbrev nm_xik : Nat := 348
abbrev nm_xic : Nat := 350
abbrev nm_lhh : List (Nat × Nat × Nat × Nat) := [(0, 8, 11, 13)]
abbrev nm_ly : MethodName := ⟨"NamesInBagsLaw", "row", "(LNamesInBags;I[J)I"⟩
def nm_isD : Cond → Bool
  | .declares _ => true
  | .castable _ _ => true
  | _ => false
set_option maxRecDepth 1000000 in
theorem nm_x1 : ∀ w ∈ vx_at0 "NamesInBags" nm_xic nm_nse nm_sup, goodWord w = true ∨ nm_isD w = true := by decide +kernel
set_option maxRecDepth 1000000 in
theorem nm_x0 : ∀ w ∈ vx_at0 "NamesInBags" nm_xic nm_nse nm_sup, w ∈ lw_tbl := by decide +kernel
set_option maxRecDepth 1000000 in
theorem nm_x2 : ∀ w ∈ Cond.classLink "NamesInBags" nm_xik nm_nse :: Cond.initialized nm_nse :: vx_at0 "NamesInBags" nm_xic nm_nse nm_sup, vx_ot w = true := by decide +kernel
abbrev nm_xws : List Cond := [Cond.classLink "NamesInBags" nm_xik nm_nse, Cond.initialized nm_nse, Cond.classLink "NamesInBagsLaw" nm_kix nm_nse, Cond.codeWith nm_ly (px_by nm_lrow1) 4 (some .int) nm_lhh, Cond.methodLink "NamesInBagsLaw" nm_rix nm_ly, Cond.static nm_ly, Cond.initialized "NamesInBagsLaw", Cond.initialized Bundle.tN]
set_option maxRecDepth 1000000 in
theorem nm_x3 : ∀ w ∈ nm_xws, w ∈ lw_tbl ∧ goodWord w = true := by decide +kernel
set_option maxRecDepth 1000000 in
theorem nm_x4 : ∀ w ∈ [Cond.laysStatic Bundle.tN "UNASSIGNED_STACK" Bundle.steD, Cond.laysStatic Bundle.tN "SUPPRESSED_SENTINEL" Bundle.listD], w ∈ lw_tbl := by decide +kernel
theorem nm_x5 : Cond.methodLink "NamesInBagsLaw" nm_vix (px_nm nm_xrow1) ∈ nm_ALL := nm_C11_A (1, [11, nm_vix, 126], 0) (by decide +kernel)
theorem nm_x6 : Cond.instanceMethod (px_nm nm_xrow1) ∈ nm_ALL := nm_C11_A (3, [126], 0) (by decide +kernel)
theorem nm_x7 : Cond.selects (px_nm nm_xrow1).cls (px_nm nm_xrow1) (px_nm nm_xrow1) ∈ nm_ALL := nm_C11_A (5, [126], 0) (by decide +kernel)
theorem nm_x8 : Cond.initialized (px_nm nm_xrow1).cls ∈ nm_ALL := nm_C11_A (6, [126], 0) (by decide +kernel)
theorem nm_x9 : Cond.code (px_nm nm_xrow1) (px_by nm_xrow1) (px_ml nm_xrow1) (px_rt nm_xrow1) ∈ nm_ALL := nm_C11_A (2, [126], 0) (by decide +kernel)
