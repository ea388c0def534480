theorem ab_rfn_lt : ∀ (rs : List Nat) (i : Nat) (g : Nat → Option Nat) (j : Nat), j < i → ab_rfn i rs g j = g j := by
  intro rs
  induction rs with
  | nil => intro i g j h; rfl
  | cons a r ih =>
    intro i g j h
    unfold ab_rfn
    rw [ih (i + 1) _ j (by omega)]
    unfold va_up
    rw [if_neg (by omega)]
theorem ab_rfn_in : ∀ (rs : List Nat) (i : Nat) (g : Nat → Option Nat) (j : Nat), i ≤ j → j < i + rs.length → ∃ q, ab_rfn i rs g j = some q ∧ q ∈ rs := by
  intro rs
  induction rs with
  | nil => intro i g j h1 h2; simp at h2; omega
  | cons a r ih =>
    intro i g j h1 h2
    unfold ab_rfn
    by_cases hj : j = i
    · subst hj
      rw [ab_rfn_lt r (j + 1) _ j (by omega)]
      unfold va_up
      rw [if_pos rfl]
      exact ⟨a, rfl, List.mem_cons_self⟩
    · obtain ⟨q, e1, e2⟩ := ih (i + 1) (va_up g i (some a)) j (by omega) (by simp at h2; omega)
      exact ⟨q, e1, List.mem_cons_of_mem _ e2⟩
theorem ab_fx_ok (v : Value) (h : ab_fv v = true) : ab_f (ab_fx v) v := by
  cases v <;> first | exact ⟨rfl, Int.le_refl _, Int.le_refl _⟩ | exact ⟨rfl, List.mem_singleton.mpr rfl⟩ | cases h
theorem ab_D_c (d : ab_D) (h : ab_Dok d = true) : ab_c (ab_toA d) (ab_toC d) := by
  rcases d with ⟨ci, vs⟩ | ⟨t, n⟩ | ⟨t, n⟩ | ⟨t, rs⟩
  · refine ⟨rfl, by rw [List.length_map], fun k f v hf hv => ?_⟩
    rw [List.getElem?_map, hv] at hf
    cases hf
    exact ab_fx_ok v (List.all_eq_true.mp h v (List.mem_of_getElem? hv))
  · exact ⟨rfl, rfl, fun j hj => ⟨rfl, Int.le_refl _, Int.le_refl _⟩⟩
  · exact ⟨rfl, rfl, fun j hj => ⟨rfl, Int.le_refl _, Int.le_refl _⟩⟩
  · refine ⟨rfl, rfl, fun j hj => ?_⟩
    obtain ⟨q, e1, e2⟩ := ab_rfn_in rs 0 (fun _ => none) j (Nat.zero_le _) (by simpa using hj)
    exact ⟨q, e1, rfl, e2⟩
theorem ab_D_h (D : List ab_D) (h : D.all ab_Dok = true) : ab_h (D.map ab_toA) (D.map ab_toC) := by
  refine ⟨by rw [List.length_map, List.length_map], fun k a x ha hx => ?_⟩
  rw [List.getElem?_map] at ha hx
  rcases hd : D[k]? with _ | d
  · rw [hd] at ha; cases ha
  · rw [hd] at ha hx
    cases ha
    cases hx
    exact ab_D_c d (List.all_eq_true.mp h d (List.mem_of_getElem? hd))
theorem nm_D_ok : nm_D.all ab_Dok = true := by decide +kernel
abbrev nm_H1 : px_H := nm_D.map ab_toC
abbrev nm_A1 : List ab_C := nm_D.map ab_toA
set_option maxRecDepth 1000000 in
set_option maxHeartbeats 40000000 in
theorem nm_c0 (X : Option (Nat × (Nat → Int32))) : nm_steps X 400 13 (0, [(0, .retAddr 0)], [], [], 0, 0) = some (23, nm_lv, [], nm_H1, 106, 103614) := by rfl
