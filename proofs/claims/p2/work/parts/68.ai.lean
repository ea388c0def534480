abbrev ab_nn : Nat → List Value → px_H → Option px_A := fun _ _ _ => none
section ab_s9
variable {xs : Nat → Int32} {lv : List (Nat × Value)} {hp : px_H}
theorem ab_isl_at {lv' : List (Nat × Value)} (l : ab_L) (w : Value) (h : ab_isl l = false) (hl : ab_at xs lv hp l = some w) : ab_at xs lv' hp l = some w := by
  obtain ⟨q, m, n⟩ := l
  unfold ab_at at hl ⊢
  split at hl
  · rename_i he; cases he; cases h
  · rename_i he; cases he; exact hl
  · rename_i he; cases he; exact hl
  · cases hl
theorem ab_isf_at {hp' : px_H} (l : ab_L) (w : Value) (h : ab_isf l = false) (hl : ab_at xs lv hp l = some w) : ab_at xs lv hp' l = some w := by
  obtain ⟨q, m, n⟩ := l
  unfold ab_at at hl ⊢
  split at hl
  · rename_i he; cases he; exact hl
  · rename_i he; cases he; cases h
  · rename_i he; cases he; exact hl
  · cases hl
theorem ab_nil_at {lv' : List (Nat × Value)} (l : ab_L) (w : Value) (hl : ab_at xs [] hp l = some w) : ab_at xs lv' hp l = some w := by
  obtain ⟨q, m, n⟩ := l
  unfold ab_at at hl ⊢
  split at hl
  · cases hl
  · rename_i he; cases he; exact hl
  · rename_i he; cases he; exact hl
  · cases hl
theorem ab_cat_eq {a : ab_V} {v : Value} (h : ab_v xs lv hp a v) : ab_cat a = v.category := by
  unfold ab_cat
  split
  · rename_i hk; exact (ab_cat2 h hk).symm
  · rename_i hk
    have : v.category ≠ 2 := fun hc => hk (ab_kind2 h hc)
    cases v <;> first | rfl | exact absurd rfl this
theorem ab_st_cat : ∀ {as : List ab_V} {st : List Value}, ab_st xs lv hp as st → as.map ab_cat = st.map (fun v => v.category) := by
  intro as
  induction as with
  | nil => intro st h; cases st <;> first | rfl | exact absurd h (by simp [ab_st])
  | cons a r ih =>
    intro st h
    obtain ⟨v, s, rfl, h1, h2⟩ := ab_st_cons h
    rw [List.map_cons, List.map_cons, ih h2, ab_cat_eq h1]
theorem ab_st_len {as : List ab_V} {st : List Value} (h : ab_st xs lv hp as st) : as.length = st.length := by
  have := congrArg List.length (ab_st_cat h)
  rwa [List.length_map, List.length_map] at this
theorem ab_st_drop : ∀ (k : Nat) {as : List ab_V} {st : List Value}, ab_st xs lv hp as st → ab_st xs lv hp (as.drop k) (st.drop k) := by
  intro k
  induction k with
  | zero => intro as st h; exact h
  | succ k ih =>
    intro as st h
    cases as with
    | nil => cases st <;> first | exact h | exact absurd h (by simp [ab_st])
    | cons a r =>
      obtain ⟨v, s, rfl, h1, h2⟩ := ab_st_cons h
      exact ih h2
theorem ab_st_take : ∀ (k : Nat) {as : List ab_V} {st : List Value}, ab_st xs lv hp as st → ab_st xs lv hp (as.take k) (st.take k) := by
  intro k
  induction k with
  | zero => intro as st h; rw [List.take_zero, List.take_zero]; trivial
  | succ k ih =>
    intro as st h
    cases as with
    | nil => cases st <;> first | exact h | exact absurd h (by simp [ab_st])
    | cons a r =>
      obtain ⟨v, s, rfl, h1, h2⟩ := ab_st_cons h
      exact ⟨h1, ih h2⟩
theorem ab_st_app : ∀ {a1 a2 : List ab_V} {s1 s2 : List Value}, ab_st xs lv hp a1 s1 → ab_st xs lv hp a2 s2 → ab_st xs lv hp (a1 ++ a2) (s1 ++ s2) := by
  intro a1
  induction a1 with
  | nil => intro a2 s1 s2 h1 h2; cases s1 <;> first | exact h2 | exact absurd h1 (by simp [ab_st])
  | cons a r ih =>
    intro a2 s1 s2 h1 h2
    obtain ⟨v, s, rfl, h3, h4⟩ := ab_st_cons h1
    exact ⟨h3, ih h4 h2⟩
theorem ab_st_rev : ∀ {as : List ab_V} {st : List Value}, ab_st xs lv hp as st → ab_st xs lv hp as.reverse st.reverse := by
  intro as
  induction as with
  | nil => intro st h; cases st <;> first | exact h | exact absurd h (by simp [ab_st])
  | cons a r ih =>
    intro st h
    obtain ⟨v, s, rfl, h1, h2⟩ := ab_st_cons h
    rw [List.reverse_cons, List.reverse_cons]
    exact ab_st_app (ih h2) ⟨h1, trivial⟩
theorem ab_args_ge : ∀ {as : List ab_V} {i j : Nat} {a : ab_V}, (j, a) ∈ ab_args i as → i ≤ j := by
  intro as
  induction as with
  | nil => intro i j a h; cases h
  | cons b r ih =>
    intro i j a h
    unfold ab_args at h
    rcases List.mem_cons.mp h with he | h
    · cases he; exact Nat.le_refl _
    · have := ih h
      split at this <;> omega
theorem ab_args_ok : ∀ {as : List ab_V} {vs : List Value} (i : Nat), ab_st xs lv hp as vs → ∀ (j : Nat) (a : ab_V), (j, a) ∈ ab_args i as → ∃ v, px_find j (lv_args i vs) = some v ∧ ab_v xs lv hp a v := by
  intro as
  induction as with
  | nil => intro vs i h j a hm; cases hm
  | cons b r ih =>
    intro vs i h j a hm
    obtain ⟨v, s, rfl, h1, h2⟩ := ab_st_cons h
    unfold ab_args at hm
    rcases List.mem_cons.mp hm with he | hm
    · cases he
      refine ⟨v, ?_, h1⟩
      unfold lv_args px_find
      rw [Nat.beq_refl]
    · have hge := ab_args_ge hm
      obtain ⟨u, hu, hau⟩ := ih _ h2 j a hm
      refine ⟨u, ?_, hau⟩
      have hij : Nat.beq i j = false := ab_beq_ne (by split at hge <;> omega)
      unfold lv_args px_find
      simp only [hij]
      have hcat : (if v.category = 2 then i + 2 else i + 1) = (if Nat.beq b.1.1 1 = true then i + 2 else i + 1) := by
        by_cases hc : v.category = 2
        · rw [if_pos hc, if_pos (ab_kind2 h1 hc)]
        · rw [if_neg hc, if_neg (fun hk => hc (ab_cat2 h1 hk))]
      rw [hcat]
      exact hu
theorem ab_lg (vs : List Value) : (lg_sl vs).length = (vs.map fun v => v.category).sum ∨ ∃ v ∈ vs, v.category ≠ 1 ∧ v.category ≠ 2 := by
  induction vs with
  | nil => exact Or.inl rfl
  | cons v r ih =>
    rcases ih with ih | ⟨u, hu, h⟩
    · by_cases h2 : v.category = 2
      · left
        simp only [lg_sl, List.flatMap_cons, List.length_append, List.map_cons, List.sum_cons] at ih ⊢
        rw [ih, if_pos h2, h2]
        rfl
      · by_cases h1 : v.category = 1
        · left
          simp only [lg_sl, List.flatMap_cons, List.length_append, List.map_cons, List.sum_cons] at ih ⊢
          rw [ih, if_neg h2, h1]
          rfl
        · exact Or.inr ⟨v, List.mem_cons_self, h1, h2⟩
    · exact Or.inr ⟨u, List.mem_cons_of_mem _ hu, h⟩
theorem ab_cat12 (v : Value) : v.category = 1 ∨ v.category = 2 := by cases v <;> first | exact Or.inl rfl | exact Or.inr rfl
theorem ab_lg' (vs : List Value) : (lg_sl vs).length = (vs.map fun v => v.category).sum := by
  rcases ab_lg vs with h | ⟨v, -, h1, h2⟩
  · exact h
  · rcases ab_cat12 v with h | h
    · exact absurd h h1
    · exact absurd h h2
theorem ab_math_ok {w : Nat} {as as' : List ab_V} {st : List Value} (h : ab_math w as = some as') (hs : ab_st xs lv hp as st) : ∃ st', px_math w st = some st' ∧ ab_st xs lv hp as' st' := by
  unfold ab_math at h
  split at h
  · cases h
    obtain ⟨v, s0, rfl, g1, k1⟩ := ab_st_cons hs
    obtain ⟨u, s, rfl, g2, k2⟩ := ab_st_cons k1
    obtain ⟨y, rfl, hy⟩ := ab_f0 g1.1
    obtain ⟨x, rfl, hx⟩ := ab_f0 g2.1
    refine ⟨_, rfl, ⟨⟨rfl, ?_, ?_⟩, ab_o_none _ _ _ _⟩, k2⟩ <;> (have q1 := hx.1; have q2 := hx.2; have q3 := hy.1; have q4 := hy.2; simp only at q1 q2 q3 q4 ⊢; split <;> rename_i hc <;> rw [Int32.lt_iff_toInt_lt] at hc <;> omega)
  · cases h
    obtain ⟨v, s0, rfl, g1, k1⟩ := ab_st_cons hs
    obtain ⟨u, s, rfl, g2, k2⟩ := ab_st_cons k1
    obtain ⟨y, rfl, hy⟩ := ab_f0 g1.1
    obtain ⟨x, rfl, hx⟩ := ab_f0 g2.1
    refine ⟨_, rfl, ⟨⟨rfl, ?_, ?_⟩, ab_o_none _ _ _ _⟩, k2⟩ <;> (have q1 := hx.1; have q2 := hx.2; have q3 := hy.1; have q4 := hy.2; simp only at q1 q2 q3 q4 ⊢; split <;> rename_i hc <;> rw [Int32.lt_iff_toInt_lt] at hc <;> omega)
  · cases h
    obtain ⟨v, s0, rfl, g1, k1⟩ := ab_st_cons hs
    obtain ⟨u, s, rfl, g2, k2⟩ := ab_st_cons k1
    obtain ⟨y, rfl, hy⟩ := ab_f1 g1.1
    obtain ⟨x, rfl, hx⟩ := ab_f1 g2.1
    refine ⟨_, rfl, ⟨⟨rfl, ?_, ?_⟩, ab_o_none _ _ _ _⟩, k2⟩ <;> (have q1 := hx.1; have q2 := hx.2; have q3 := hy.1; have q4 := hy.2; simp only at q1 q2 q3 q4 ⊢; split <;> rename_i hc <;> rw [Int64.lt_iff_toInt_lt] at hc <;> omega)
  · cases h
    obtain ⟨v, s0, rfl, g1, k1⟩ := ab_st_cons hs
    obtain ⟨u, s, rfl, g2, k2⟩ := ab_st_cons k1
    obtain ⟨y, rfl, hy⟩ := ab_f1 g1.1
    obtain ⟨x, rfl, hx⟩ := ab_f1 g2.1
    refine ⟨_, rfl, ⟨⟨rfl, ?_, ?_⟩, ab_o_none _ _ _ _⟩, k2⟩ <;> (have q1 := hx.1; have q2 := hx.2; have q3 := hy.1; have q4 := hy.2; simp only at q1 q2 q3 q4 ⊢; split <;> rename_i hc <;> rw [Int64.lt_iff_toInt_lt] at hc <;> omega)
  · cases h
end ab_s9
