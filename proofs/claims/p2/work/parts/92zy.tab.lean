/-! goesThrough: what holds of all entries of a table -/
def nm_TE (t : Nat) (Q : Nat → Int64 → Prop) (hp : px_H) : Prop := ∃ (g : Nat → Int32) (o1 : Nat → Int64), hp[na_size]? = some (.inl (nr_size, 3, .inl g)) ∧ hp[na_one]? = some (.inl (nr_one, 9003, .inr (.inl o1))) ∧ ∀ e : Nat, (e : Int) < (g t).toInt → Q e (o1 (t * 3001 + e))
theorem nm_cnt_cg {f f' : Nat → Int32} {lo : Nat} : ∀ n : Nat, (∀ j, j < n → f (lo + j) = f' (lo + j)) → nm_cnt f lo n = nm_cnt f' lo n
  | 0, _ => rfl
  | n + 1, h => by
    unfold nm_cnt
    rw [nm_cnt_cg n (fun j hj => h j (by omega)), h n (by omega)]
theorem nm_TE_fr {t : Nat} {Q : Nat → Int64 → Prop} {hp hp' : px_H} {ws : List (Nat × Nat)} {wa : List Nat} (h : px_fr ws wa hp hp') (h1 : na_size ∉ wa) (h2 : na_one ∉ wa) (hT : nm_TE t Q hp) : nm_TE t Q hp' := by
  obtain ⟨g, o1, a1, a2, a3⟩ := hT
  exact ⟨g, o1, h.1 _ _ h1 a1, h.1 _ _ h2 a2, a3⟩
theorem nm_HI_fr {t : Nat} {hp hp' : px_H} {ws : List (Nat × Nat)} {wa : List Nat} (h : px_fr ws wa hp hp') (h1 : nm_cHash ∉ wa) (h2 : nm_cSize ∉ wa) (hT : nm_HI t hp) : nm_HI t hp' := by
  obtain ⟨th, ts, f, g, a1, a2, a3⟩ := hT
  exact ⟨th, ts, f, g, h.1 _ _ h1 a1, h.1 _ _ h2 a2, a3⟩
theorem nm_adds_B {hp : px_H} (hG : ab_h nm_GH hp) {tn : Nat} (htn : tn ≤ 2) (hi : nm_HI tn hp) (ch : Int64) {fs : List Value} (hx9 : hp[69]? = some (.inr (9, fs))) {gB gA : Nat → Int32} {pb sv : Int32} (hB : hp[na_inBag]? = some (.inl (nr_inBag, 2, .inl gB))) (hA : hp[na_aside]? = some (.inl (nr_aside, 2, .inl gA))) (hpb : fs[nf_putBy]? = some (.int pb)) (hsv : fs[nf_sitting]? = some (.int sv)) :
    ∃ (r : Option Value) (hp' : px_H), px_C nm_T nm_P mi_M_adds [.ref 69, .int (Int32.ofNat tn), .long ch] hp r hp' ∧ ab_h nm_GH hp' ∧ px_fr [] [na_one, na_other, na_part, na_size, na_hash] hp hp' ∧ (r = some (.int (Int32.ofInt 1)) ∨ r = some (.int (Int32.ofInt 0))) ∧ (∀ t, t ≤ 2 → nm_HI t hp → nm_HI t hp') ∧
      (∀ (t : Nat) (Q : Nat → Int64 → Prop), t ≤ 2 → (t ≠ tn ∨ ∀ e, Q e (nm_fst (gB 0) (gB 1) (gA 0) (gA 1) pb sv)) → nm_TE t Q hp → nm_TE t Q hp') ∧
      ∀ g : Nat → Int32, hp[na_size]? = some (.inl (nr_size, 3, .inl g)) → ∃ g' : Nat → Int32, hp'[na_size]? = some (.inl (nr_size, 3, .inl g')) ∧ ∀ t, t ≠ tn → g' t = g t := by
  obtain ⟨r, hp', f, g, o1, o2, pt, b, c1, c2, c3, c4, c5, c6, c7, c8, c9, c10⟩ := nm_adds_A hG htn hi ch hx9 hB hA hpb hsv
  refine ⟨r, hp', c1, c2, c4, c5, ?_, ?_, ?_⟩
  · intro t ht hit
    by_cases htt : t = tn
    · subst htt; exact c3
    obtain ⟨th, ts, f', g', e1, e2, e3⟩ := hit
    rw [show nm_cHash = na_hash from rfl, c6] at e1
    rw [show nm_cSize = na_size from rfl, c7] at e2
    cases e1
    cases e2
    rcases c10 with ⟨e, he, a1, a2, -, rfl⟩ | ⟨-, -, rfl⟩ | ⟨k, e, hk, -, hge, he, -, rfl⟩
    · exact ⟨_, _, f, g, by rw [List.getElem?_set_ne (by decide)]; exact c6, by rw [List.getElem?_set_ne (by decide)]; exact c7, e3⟩
    · exact ⟨_, _, f, g, c6, c7, e3⟩
    · refine ⟨_, _, _, _, by rw [List.getElem?_set_ne (by decide), List.getElem?_set_ne (by decide), List.getElem?_set_ne (by decide), List.getElem?_set_ne (by decide)]; exact List.getElem?_set_self (List.getElem?_eq_some_iff.mp c6).1, List.getElem?_set_self (by simp only [List.length_set]; exact (List.getElem?_eq_some_iff.mp c7).1), ?_⟩
      rw [nm_cnt_cg (f' := f) 8192 (fun j hj => by simp only [upd]; rw [if_neg (by omega)])]
      simp only [upd]
      rw [if_neg htt]
      exact e3
  · intro t Q ht hQ hT
    obtain ⟨g', o', e1, e2, e3⟩ := hT
    rw [c7] at e1
    rw [c8] at e2
    cases e1
    cases e2
    rcases c10 with ⟨e, he, a1, a2, -, rfl⟩ | ⟨-, -, rfl⟩ | ⟨k, e, hk, -, hge, he, -, rfl⟩
    · exact ⟨g, o1, by rw [List.getElem?_set_ne (by decide)]; exact c7, by rw [List.getElem?_set_ne (by decide)]; exact c8, e3⟩
    · exact ⟨g, o1, c7, c8, e3⟩
    · refine ⟨_, _, List.getElem?_set_self (by simp only [List.length_set]; exact (List.getElem?_eq_some_iff.mp c7).1), by rw [List.getElem?_set_ne (by decide), List.getElem?_set_ne (by decide), List.getElem?_set_ne (by decide)]; exact List.getElem?_set_self (by simp only [List.length_set]; exact (List.getElem?_eq_some_iff.mp c8).1), ?_⟩
      intro e' he'
      have hgt := c9 t (by omega)
      have hee : (Int32.ofNat e + Int32.ofInt 1).toInt = e + 1 := by
        rw [show Int32.ofNat e + Int32.ofInt 1 = Int32.ofNat (e + 1) from by rw [Int32.ofNat_add]; rfl, nm_ofNat_toInt (e + 1) (by omega)]
        omega
      have hgn : (g tn).toInt = e := by rw [hge]; exact nm_ofNat_toInt e (by omega)
      simp only [upd] at he'
      simp only [vp_updL]
      by_cases htt : t = tn
      · subst htt
        rw [if_pos rfl, hee] at he'
        by_cases hE : e' = e
        · subst hE
          rw [if_pos rfl]
          rcases hQ with hQ | hQ
          · exact absurd rfl hQ
          · exact hQ _
        · rw [if_neg (by omega)]
          exact e3 e' (by omega)
      · rw [if_neg htt] at he'
        rw [if_neg (by omega)]
        exact e3 e' he'
  · intro g9 h9
    rw [c7] at h9
    cases h9
    rcases c10 with ⟨e, he, a1, a2, -, rfl⟩ | ⟨-, -, rfl⟩ | ⟨k, e, hk, -, hge, he, -, rfl⟩
    · exact ⟨g, by rw [List.getElem?_set_ne (by decide)]; exact c7, fun _ _ => rfl⟩
    · exact ⟨g, c7, fun _ _ => rfl⟩
    · exact ⟨_, List.getElem?_set_self (by simp only [List.length_set]; exact (List.getElem?_eq_some_iff.mp c7).1), fun t ht => by simp only [upd]; rw [if_neg ht]⟩
