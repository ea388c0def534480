/-! places that a write touches -/
def ab_kill (P : ab_L → Bool) (a : ab_V) : ab_V :=
  match a.2 with
  | none => a
  | some l => match P l with
    | true => (a.1, none)
    | false => a
def ab_kl (j : Nat) (l : ab_L) : Bool := Nat.beq l.1 0 && (Nat.beq l.2.1 j || (Nat.beq (l.2.1 + 1) j || Nat.beq l.2.1 (j + 1)))
def ab_kf (c k : Nat) (l : ab_L) : Bool := Nat.beq l.1 1 && (Nat.beq l.2.1 c && Nat.beq l.2.2 k)
def ab_sto1 (A : ab_S) (j : Nat) (a : ab_V) (r : List ab_V) : ab_S :=
  ((j, ab_kill (ab_kl j) a) :: (A.1.filter (fun p => !(Nat.beq p.1 j) && !(Nat.beq (p.1 + 1) j && Nat.beq p.2.1.1 1))).map (fun p => (p.1, ab_kill (ab_kl j) p.2)), r.map (ab_kill (ab_kl j)), A.2.2)
def ab_sto2 (A : ab_S) (j : Nat) (a : ab_V) (r : List ab_V) : ab_S :=
  ((j, ab_kill (ab_kl j) a) :: (A.1.filter (fun p => !(Nat.beq p.1 j) && (!(Nat.beq p.1 (j + 1)) && !(Nat.beq (p.1 + 1) j && Nat.beq p.2.1.1 1)))).map (fun p => (p.1, ab_kill (ab_kl j) p.2)), r.map (ab_kill (ab_kl j)), A.2.2)
theorem ab_kill_fst (P : ab_L → Bool) (a : ab_V) : (ab_kill P a).1 = a.1 := by
  unfold ab_kill
  split
  · rfl
  · split <;> rfl
theorem ab_beq_ne {a b : Nat} (h : a ≠ b) : Nat.beq a b = false := by
  cases h' : Nat.beq a b with
  | false => rfl
  | true => exact absurd (Nat.eq_of_beq_eq_true h') h
theorem ab_kind2 {xs : Nat → Int32} {lv : List (Nat × Value)} {hp : px_H} {a : ab_V} {v : Value} (h : ab_v xs lv hp a v) (hc : v.category = 2) : Nat.beq a.1.1 1 = true := by
  have h1 := h.1
  cases v with
  | long x => rw [show a.1.1 = 1 from h1.1]; rfl
  | double x => exact absurd h1 (by simp [ab_f])
  | _ => simp [Value.category] at hc
section ab_s3
variable {xs : Nat → Int32} {lv lv' : List (Nat × Value)} {hp hp' : px_H}
theorem ab_kill_ok {P : ab_L → Bool} (hP : ∀ l w, P l = false → ab_at xs lv hp l = some w → ab_at xs lv' hp' l = some w) {a : ab_V} {v : Value} (h : ab_v xs lv hp a v) : ab_v xs lv' hp' (ab_kill P a) v := by
  refine ⟨by rw [ab_kill_fst]; exact h.1, fun l hl => ?_⟩
  unfold ab_kill at hl
  split at hl
  · rename_i h0
    rw [h0] at hl; cases hl
  · rename_i l0 h0
    split at hl
    · cases hl
    · rename_i hp0
      rw [h0] at hl
      cases hl
      obtain ⟨w, hw, e⟩ := h.2 l h0
      exact ⟨w, hP l w hp0 hw, e⟩
theorem ab_kill_st {P : ab_L → Bool} (hP : ∀ l w, P l = false → ab_at xs lv hp l = some w → ab_at xs lv' hp' l = some w) : ∀ {as : List ab_V} {st : List Value}, ab_st xs lv hp as st → ab_st xs lv' hp' (as.map (ab_kill P)) st := by
  intro as
  induction as with
  | nil => intro st h; cases st <;> first | trivial | exact absurd h (by simp [ab_st])
  | cons a r ih =>
    intro st h
    obtain ⟨v, s, rfl, h1, h2⟩ := ab_st_cons h
    exact ⟨ab_kill_ok hP h1, ih h2⟩
theorem ab_find_filter {α : Type} {p : Nat × α → Bool} {j : Nat} {l : List (Nat × α)} {v : α} (h : px_find j l = some v) (hp : p (j, v) = true) : px_find j (l.filter p) = some v := by
  induction l with
  | nil => cases h
  | cons q r ih =>
    unfold px_find at h
    split at h
    · rename_i hb
      cases h
      have := Nat.eq_of_beq_eq_true hb
      subst this
      rw [List.filter_cons_of_pos hp]
      unfold px_find
      rw [Nat.beq_refl]
    · rename_i hb
      rw [List.filter_cons]
      split
      · unfold px_find
        rw [hb]
        exact ih h
      · exact ih h
end ab_s3
/-- a store of one word -/
theorem ab_sto1_find {lv : List (Nat × Value)} {j m : Nat} {v u : Value} (h : px_find m lv = some u) (h1 : m ≠ j) (h2 : m + 1 = j → u.category ≠ 2) : px_find m (px_st1 lv j v) = some u := by
  unfold px_st1 px_find
  simp only [ab_beq_ne (Ne.symm h1)]
  refine ab_find_filter h ?_
  simp only [Bool.and_eq_true, Bool.not_eq_true', beq_eq_false_iff_ne, Bool.and_eq_false_iff]
  refine ⟨h1, ?_⟩
  by_cases h3 : m + 1 = j
  · exact Or.inr (h2 h3)
  · exact Or.inl h3
theorem ab_sto2_find {lv : List (Nat × Value)} {j m : Nat} {v u : Value} (h : px_find m lv = some u) (h1 : m ≠ j) (h0 : m ≠ j + 1) (h2 : m + 1 = j → u.category ≠ 2) : px_find m (px_st2 lv j v) = some u := by
  unfold px_st2 px_find
  simp only [ab_beq_ne (Ne.symm h1)]
  refine ab_find_filter h ?_
  simp only [Bool.and_eq_true, Bool.not_eq_true', beq_eq_false_iff_ne, Bool.and_eq_false_iff]
  refine ⟨h1, h0, ?_⟩
  by_cases h3 : m + 1 = j
  · exact Or.inr (h2 h3)
  · exact Or.inl h3
theorem ab_kl_at {lv lv' : List (Nat × Value)} {xs : Nat → Int32} {hp : px_H} {j : Nat} (hl : ∀ (m : Nat) (u : Value), m ≠ j → m + 1 ≠ j → m ≠ j + 1 → px_find m lv = some u → px_find m lv' = some u) (l : ab_L) (w : Value) (h : ab_kl j l = false) (ha : ab_at xs lv hp l = some w) : ab_at xs lv' hp l = some w := by
  obtain ⟨k, m, n⟩ := l
  unfold ab_at at ha ⊢
  split at ha
  · rename_i m0 n0 he
    cases he
    simp only [ab_kl, Nat.beq_refl, Bool.true_and, Bool.or_eq_false_iff] at h
    exact hl m w (Nat.ne_of_beq_eq_false h.1) (Nat.ne_of_beq_eq_false h.2.1) (Nat.ne_of_beq_eq_false h.2.2) ha
  · rename_i he; cases he; exact ha
  · rename_i he; cases he; exact ha
  · cases ha
section ab_s4
variable {xs : Nat → Int32} {lv : List (Nat × Value)} {st : List Value} {hp : px_H} {A : ab_S}
theorem ab_sto1_ok (hA : ab_s xs A lv st hp) {a : ab_V} {r : List ab_V} {v : Value} {s : List Value} (hv : ab_v xs lv hp a v) (hr : ab_st xs lv hp r s) (j : Nat) : ab_s xs (ab_sto1 A j a r) (px_st1 lv j v) s hp := by
  obtain ⟨h1, h2, h3, h4⟩ := hA
  have hP := ab_kl_at (xs := xs) (hp := hp) (lv := lv) (lv' := px_st1 lv j v) (j := j) (fun m u q1 q2 q3 q4 => ab_sto1_find q4 q1 (fun e => absurd e q2))
  refine ⟨fun m b hm => ?_, ab_kill_st hP hr, h3, h4⟩
  rcases List.mem_cons.mp hm with he | hm
  · cases he
    refine ⟨v, ?_, ab_kill_ok hP hv⟩
    unfold px_st1 px_find
    rw [Nat.beq_refl]
  · obtain ⟨⟨m0, b0⟩, hf, he⟩ := List.mem_map.mp hm
    cases he
    obtain ⟨hmem, hk⟩ := List.mem_filter.mp hf
    simp only [Bool.and_eq_true, Bool.not_eq_true', Bool.and_eq_false_iff] at hk
    obtain ⟨u, hu, hbu⟩ := h1 _ _ hmem
    refine ⟨u, ab_sto1_find hu (Nat.ne_of_beq_eq_false hk.1) (fun e hc => ?_), ab_kill_ok hP hbu⟩
    rcases hk.2 with h | h
    · exact Nat.ne_of_beq_eq_false h e
    · have := ab_kind2 hbu hc
      rw [this] at h
      cases h
theorem ab_sto2_ok (hA : ab_s xs A lv st hp) {a : ab_V} {r : List ab_V} {v : Value} {s : List Value} (hv : ab_v xs lv hp a v) (hr : ab_st xs lv hp r s) (j : Nat) : ab_s xs (ab_sto2 A j a r) (px_st2 lv j v) s hp := by
  obtain ⟨h1, h2, h3, h4⟩ := hA
  have hP := ab_kl_at (xs := xs) (hp := hp) (lv := lv) (lv' := px_st2 lv j v) (j := j) (fun m u q1 q2 q3 q4 => ab_sto2_find q4 q1 q3 (fun e => absurd e q2))
  refine ⟨fun m b hm => ?_, ab_kill_st hP hr, h3, h4⟩
  rcases List.mem_cons.mp hm with he | hm
  · cases he
    refine ⟨v, ?_, ab_kill_ok hP hv⟩
    unfold px_st2 px_find
    rw [Nat.beq_refl]
  · obtain ⟨⟨m0, b0⟩, hf, he⟩ := List.mem_map.mp hm
    cases he
    obtain ⟨hmem, hk⟩ := List.mem_filter.mp hf
    simp only [Bool.and_eq_true, Bool.not_eq_true', Bool.and_eq_false_iff] at hk
    obtain ⟨u, hu, hbu⟩ := h1 _ _ hmem
    refine ⟨u, ab_sto2_find hu (Nat.ne_of_beq_eq_false hk.1) (Nat.ne_of_beq_eq_false hk.2.1) (fun e hc => ?_), ab_kill_ok hP hbu⟩
    rcases hk.2.2 with h | h
    · exact Nat.ne_of_beq_eq_false h e
    · have := ab_kind2 hbu hc
      rw [this] at h
      cases h
end ab_s4
