/-! goesThrough: parts, the loop -/
abbrev pa_ws : List (Nat × Nat) := [(69, nf_next), (69, nf_putBy), (69, nf_sitting)]
def pa_K (t : Nat) (o : Nat → Int64) (Gt : Int32) (gO gS : Nat → Int32) (b : Nat) (c : Int) (hp : px_H) : Prop :=
  ab_h nm_GH hp ∧ (∀ t, t ≤ 2 → t ≠ 1 → nm_HI t hp) ∧ nm_TE t (fun e v => v = o e) hp ∧ nm_TE 0 (fun _ v => (nm_bc (nm_bg b v)).toInt ≤ c) hp ∧ (∃ g : Nat → Int32, hp[na_size]? = some (.inl (nr_size, 3, .inl g)) ∧ g t = Gt) ∧ hp[na_bagOf]? = some (.inl (nr_bagOf, 6, .inl gO)) ∧ hp[na_seatsOf]? = some (.inl (nr_seatsOf, 6, .inl gS))
theorem pa_K_fr {t : Nat} {o : Nat → Int64} {Gt : Int32} {gO gS : Nat → Int32} {b : Nat} {c : Int} {hp hp' : px_H} {ws : List (Nat × Nat)} {wa : List Nat} (h : px_fr ws wa hp hp') (hG : ab_h nm_GH hp') (h1 : na_size ∉ wa) (h2 : na_one ∉ wa) (h3 : na_hash ∉ wa) (h4 : na_bagOf ∉ wa) (h5 : na_seatsOf ∉ wa) (hK : pa_K t o Gt gO gS b c hp) : pa_K t o Gt gO gS b c hp' := by
  obtain ⟨-, a2, a3, a4, ⟨g, a5, a6⟩, a7, a8⟩ := hK
  exact ⟨hG, fun t ht hu => nm_HI_fr h h3 h1 (a2 t ht hu), nm_TE_fr h h1 h2 a3, nm_TE_fr h h1 h2 a4, ⟨g, h.1 _ _ h1 a5, a6⟩, h.1 _ _ h4 a7, h.1 _ _ h5 a8⟩
/-- adds to another table than the one that is gone through -/
theorem pa_adds {t tn : Nat} {o : Nat → Int64} {Gt : Int32} {gO gS : Nat → Int32} {b : Nat} {c : Int} {hp : px_H} (hK : pa_K t o Gt gO gS b c hp) (ht : t ≤ 2) (htn : tn ≤ 2) (hne : t ≠ tn) (h1n : tn ≠ 1) (ch : Int64) {gB : Nat → Int32} (hB : hp[na_inBag]? = some (.inl (nr_inBag, 2, .inl gB))) (hb : b < 2) (hc : tn = 0 → (nm_bc (gB b)).toInt ≤ c) :
    ∃ (r : Int32) (hp' : px_H), px_C nm_T nm_P mi_M_adds [.ref 69, .int (Int32.ofNat tn), .long ch] hp (some (.int r)) hp' ∧ (r = 0 ∨ r = 1) ∧ pa_K t o Gt gO gS b c hp' ∧ px_fr [] [na_one, na_other, na_part, na_size, na_hash] hp hp' := by
  obtain ⟨hG, k2, k3, k4, ⟨g3, k5, k6⟩, k7, k8⟩ := hK
  obtain ⟨fs, hx, -, -⟩ := ac_obj hG (c := 69) rfl
  obtain ⟨gA, hA, -⟩ := ac_arrI hG (c := na_aside) (t := nr_aside) (n := 2) (lo := 0) (hi := 1023) (Nat.le_of_ble_eq_true rfl) rfl
  obtain ⟨pb, hpb, -, -⟩ := nm_fI hG hx (k := nf_putBy) (a := 0) (b := 1023) rfl
  obtain ⟨sv, hsv, -, -⟩ := nm_fI hG hx (k := nf_sitting) (a := 0) (b := 1023) rfl
  obtain ⟨gB', hB', bB⟩ := ac_arrI hG (c := na_inBag) (t := nr_inBag) (n := 2) (lo := 0) (hi := 1023) (Nat.le_of_ble_eq_true rfl) rfl
  rw [hB] at hB'
  cases hB'
  obtain ⟨ra, hp4, f1, f2, f3, f4, f5, f6, f7⟩ := nm_adds_B hG htn (k2 tn htn h1n) ch hx hB hA hpb hsv
  obtain ⟨g4, j1, j2⟩ := f7 g3 k5
  have hK4 : pa_K t o Gt gO gS b c hp4 := by
    refine ⟨f2, fun t ht hu => f5 t ht (k2 t ht hu), f6 t _ ht (Or.inl hne) k3, f6 0 _ (by decide) ?_ k4, ⟨g4, j1, by rw [j2 t hne]; exact k6⟩, f3.1 _ _ (by decide) k7, f3.1 _ _ (by decide) k8⟩
    by_cases h0 : 0 = tn
    · exact Or.inr (fun e => by rw [nm_fst_bg bB hb]; exact hc h0.symm)
    · exact Or.inl h0
  rcases f4 with rfl | rfl
  · exact ⟨1, hp4, f1, Or.inr rfl, hK4, f3⟩
  · exact ⟨0, hp4, f1, Or.inl rfl, hK4, f3⟩
