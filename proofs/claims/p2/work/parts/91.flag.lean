/-! flags: 2 says that the hash of ENDS has at most as many places taken as the table has entries -/
def nm_FA : Nat → List Nat := fun i => match Nat.beq i 2 with
  | true => [nm_cHash, nm_cSize]
  | false => []
/-- how many of the places from lo on are taken -/
def nm_cnt (f : Nat → Int32) (lo : Nat) : Nat → Nat
  | 0 => 0
  | n + 1 => nm_cnt f lo n + (if 0 ≤ (f (lo + n)).toInt then 1 else 0)
def nm_HI (t : Nat) (hp : px_H) : Prop := ∃ (th ts : Nat) (f g : Nat → Int32), hp[nm_cHash]? = some (.inl (th, 24576, .inl f)) ∧ hp[nm_cSize]? = some (.inl (ts, 3, .inl g)) ∧ (nm_cnt f (t * 8192) 8192 : Int) ≤ (g t).toInt
def nm_Φ (i : Nat) (hp : px_H) : Prop := match Nat.beq i 2 with
  | true => nm_HI 2 hp
  | false => True
theorem nm_Fl : ac_Fl nm_FA nm_Φ := by
  intro i hp hp' hc h
  unfold nm_Φ nm_FA at *
  cases hi : Nat.beq i 2 with
  | false => trivial
  | true =>
    simp only [hi] at hc h ⊢
    obtain ⟨th, ts, f, g, h1, h2, h3⟩ := h
    exact ⟨th, ts, f, g, (hc _ List.mem_cons_self).trans h1, (hc _ (List.mem_cons_of_mem _ List.mem_cons_self)).trans h2, h3⟩
theorem nm_FG : ∀ i, ∀ c ∈ nm_FA i, ∃ q, nm_GH[c]? = some (.inr q) := by
  intro i c hc
  unfold nm_FA at hc
  split at hc
  · simp only [List.mem_cons, List.not_mem_nil, or_false] at hc
    rcases hc with rfl | rfl
    · exact ⟨_, rfl⟩
    · exact ⟨_, rfl⟩
  · cases hc
abbrev nm_ok : ac_K → Prop := ac_ok nm_T nm_P nm_GH nm_Φ
