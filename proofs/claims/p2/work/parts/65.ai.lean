section ab_s6
variable {xs : Nat → Int32} {lv : List (Nat × Value)} {st : List Value} {hp : px_H} {A : ab_S} {T : px_T} {X : Option (Nat × (Nat → Int32))} {P : List px_M} {M : px_M} {pc : Nat} {outs : List (Nat × ab_S)} {L : Option Nat}
theorem ab_k0 {k : Nat} {a1 a2 : Int} {r : List Nat} {v : Value} (hk : Nat.beq k 0 = true) (h : ab_f (k, a1, a2, r) v) : ∃ x : Int32, v = .int x ∧ ab_in (a1, a2) x.toInt := by
  have := Nat.eq_of_beq_eq_true hk
  subst this
  exact ab_f0 h
theorem ab_k1' {k : Nat} {a1 a2 : Int} {r : List Nat} {v : Value} (hk : Nat.beq k 1 = true) (h : ab_f (k, a1, a2, r) v) : ∃ x : Int64, v = .long x ∧ ab_in (a1, a2) x.toInt := by
  have := Nat.eq_of_beq_eq_true hk
  subst this
  exact ab_f1 h
theorem ab_k2 {k : Nat} {a1 a2 : Int} {r : List Nat} {v : Value} (hk : Nat.beq k 2 = true) (h : ab_f (k, a1, a2, r) v) : ∃ c : Nat, v = .ref c ∧ c ∈ r := by
  have := Nat.eq_of_beq_eq_true hk
  subst this
  exact ab_f2 h
theorem ab_inR {i1 i2 : Int} {j : Int32} {n : Nat} (hj : ab_in (i1, i2) j.toInt) (h0 : decide (0 ≤ i1) = true) (h1 : decide (i2 < (n : Int)) = true) : px_inR j n = true ∧ j.toNatClampNeg < n := by
  have a0 := of_decide_eq_true h0
  have a1 := of_decide_eq_true h1
  have b0 := hj.1
  have b1 := hj.2
  simp only at b0 b1
  refine ⟨?_, ?_⟩
  · simp only [px_inR, Bool.and_eq_true, decide_eq_true_eq]
    omega
  · have : j.toNatClampNeg = j.toInt.toNat := rfl
    omega
theorem ab_aload_ok (hA : ab_s xs A lv st hp) (hX : ∀ n, L = some n → X = some (n, xs)) {i : Instr} {q : Nat} (h : ab_aload T L i q A = some outs) : ∃ (j : Int32) (a : Value) (s : List Value) (v : Value) (A' : ab_S), st = .int j :: a :: s ∧ px_ald T X i hp a j = some v ∧ (q, A') ∈ outs ∧ ab_s xs A' lv (v :: s) hp := by
  obtain ⟨h1, h2, h3, h4⟩ := id hA
  unfold ab_aload at h
  split at h
  · rename_i i1 i2 r0 o0 x3 o3 r hst
    rw [hst] at h2
    obtain ⟨v1, s1, rfl, g1, k1⟩ := ab_st_cons h2
    obtain ⟨v2, s2, rfl, g2, k2⟩ := ab_st_cons k1
    obtain ⟨j, rfl, hj⟩ := ab_f0 g1.1
    have hv2 : ∃ z, v2 = .retAddr z := by
      have := g2.1
      cases v2 <;> first | exact ⟨_, rfl⟩ | (exact absurd this.1 (by decide)) | (exact absurd this (by simp [ab_f]))
    obtain ⟨z, rfl⟩ := hv2
    split at h
    · rename_i n
      split at h
      · rename_i b e1 e2 e3 e4
        cases h
        have d2 := of_decide_eq_true e2
        have d3 := of_decide_eq_true e3
        have d4 := of_decide_eq_true e4
        have b0 := hj.1
        have b1 := hj.2
        simp only at b0 b1
        have hjn : j.toNatClampNeg = i1.toNat := by
          have : j.toNatClampNeg = j.toInt.toNat := rfl
          rw [this]
          congr 1
          omega
        have hb := h4 _ _ e1
        refine ⟨j, .retAddr z, s2, .int (xs i1.toNat), _, rfl, ?_, List.mem_singleton.mpr rfl, h1, ⟨⟨⟨rfl, hb.1, hb.2⟩, fun l hl => ?_⟩, k2⟩, h3, h4⟩
        · have hin : px_inR j n = true := by
            simp only [px_inR, Bool.and_eq_true, decide_eq_true_eq]
            omega
          simp only [px_ald, hX n rfl, hin, hjn]
        · cases hl
          exact ⟨_, rfl, rfl⟩
      · cases h
    · cases h
  · rename_i i1 i2 r0 o0 c1 c2 c o3 r hst
    rw [hst] at h2
    obtain ⟨v1, s1, rfl, g1, k1⟩ := ab_st_cons h2
    obtain ⟨v2, s2, rfl, g2, k2⟩ := ab_st_cons k1
    obtain ⟨j, rfl, hj⟩ := ab_f0 g1.1
    have hv2 := ab_ref1 g2
    subst hv2
    split at h
    · rename_i t n f hc
      split at h
      · rename_i ty hty
        split at h
        · rename_i e1 e2 e3
          obtain ⟨hin, hlt⟩ := ab_inR hj e2 e3
          obtain ⟨x, hx, hxc⟩ := ab_cell h3 hc
          cases x with
          | inr q9 => exact absurd hxc (by simp [ab_c])
          | inl q9 =>
            obtain ⟨t', n', cont⟩ := q9
            obtain ⟨rfl, rfl, hall⟩ := hxc
            have hel := hall _ hlt
            unfold ab_aty at e1
            split at e1
            · cases cont with
              | inl g =>
                simp only at hel
                obtain ⟨A', m1, m2⟩ := ab_push_ok hA h hel (ab_o_none _ _ _ _) k2
                exact ⟨j, _, s2, _, A', rfl, by simp only [px_ald, hx, hin, hty], m1, m2⟩
              | inr g =>
                exfalso
                rcases g with g | g | g | g
                · simp only at hel; exact absurd hel.1 (by rw [Nat.eq_of_beq_eq_true e1]; decide)
                · exact hel
                · exact hel
                · simp only at hel; obtain ⟨q8, -, hq⟩ := hel; exact absurd hq.1 (by rw [Nat.eq_of_beq_eq_true e1]; decide)
            · cases cont with
              | inl g =>
                simp only at hel
                obtain ⟨A', m1, m2⟩ := ab_push_ok hA h hel (ab_o_none _ _ _ _) k2
                exact ⟨j, _, s2, _, A', rfl, by simp only [px_ald, hx, hin, hty], m1, m2⟩
              | inr g =>
                exfalso
                rcases g with g | g | g | g
                · simp only at hel; exact absurd hel.1 (by rw [Nat.eq_of_beq_eq_true e1]; decide)
                · exact hel
                · exact hel
                · simp only at hel; obtain ⟨q8, -, hq⟩ := hel; exact absurd hq.1 (by rw [Nat.eq_of_beq_eq_true e1]; decide)
            · cases cont with
              | inl g => simp only at hel; exact absurd hel.1 (by rw [Nat.eq_of_beq_eq_true e1]; decide)
              | inr g =>
                rcases g with g | g | g | g
                · simp only at hel
                  obtain ⟨A', m1, m2⟩ := ab_push_ok hA h hel (ab_o_none _ _ _ _) k2
                  exact ⟨j, _, s2, _, A', rfl, by simp only [px_ald, hx, hin, hty], m1, m2⟩
                · exact absurd hel (by simp)
                · exact absurd hel (by simp)
                · simp only at hel; obtain ⟨q8, -, hq⟩ := hel; exact absurd hq.1 (by rw [Nat.eq_of_beq_eq_true e1]; decide)
            · cases cont with
              | inl g => simp only at hel; exact absurd hel.1 (by rw [Nat.eq_of_beq_eq_true e1]; decide)
              | inr g =>
                rcases g with g | g | g | g
                · simp only at hel; exact absurd hel.1 (by rw [Nat.eq_of_beq_eq_true e1]; decide)
                · exact absurd hel (by simp)
                · exact absurd hel (by simp)
                · simp only at hel
                  obtain ⟨q8, hg, hq⟩ := hel
                  obtain ⟨A', m1, m2⟩ := ab_push_ok hA h hq (ab_o_none _ _ _ _) k2
                  exact ⟨j, _, s2, _, A', rfl, by simp only [px_ald, hx, hin, hty, hg], m1, m2⟩
            · cases e1
        · cases h
      · cases h
    · cases h
  · cases h
theorem ab_join_l {f g : ab_F} {v : Value} (h : ab_f f v) : ab_f (ab_join f g) v := by
  cases v with
  | int x => exact ⟨h.1, Int.le_trans (Int.min_le_left _ _) h.2.1, Int.le_trans h.2.2 (Int.le_max_left _ _)⟩
  | long x => exact ⟨h.1, Int.le_trans (Int.min_le_left _ _) h.2.1, Int.le_trans h.2.2 (Int.le_max_left _ _)⟩
  | ref k => exact ⟨h.1, List.mem_append_left _ h.2⟩
  | retAddr k => exact h
  | _ => exact absurd h (by simp [ab_f])
theorem ab_join_r {f g : ab_F} {v : Value} (hk : f.1 = g.1) (h : ab_f g v) : ab_f (ab_join f g) v := by
  cases v with
  | int x => exact ⟨hk.trans h.1, Int.le_trans (Int.min_le_right _ _) h.2.1, Int.le_trans h.2.2 (Int.le_max_right _ _)⟩
  | long x => exact ⟨hk.trans h.1, Int.le_trans (Int.min_le_right _ _) h.2.1, Int.le_trans h.2.2 (Int.le_max_right _ _)⟩
  | ref k => exact ⟨hk.trans h.1, List.mem_append_right _ h.2⟩
  | retAddr k => exact hk.trans h
  | _ => exact absurd h (by simp [ab_f])
theorem ab_v_mono {lv lv' : List (Nat × Value)} {hp hp' : px_H} (hP : ∀ l w, ab_at xs lv hp l = some w → ab_at xs lv' hp' l = some w) {a : ab_V} {v : Value} (h : ab_v xs lv hp a v) : ab_v xs lv' hp' a v :=
  ⟨h.1, fun l hl => by obtain ⟨w, hw, e⟩ := h.2 l hl; exact ⟨w, hP l w hw, e⟩⟩
theorem ab_st_mono {lv lv' : List (Nat × Value)} {hp hp' : px_H} (hP : ∀ l w, ab_at xs lv hp l = some w → ab_at xs lv' hp' l = some w) : ∀ {as : List ab_V} {st : List Value}, ab_st xs lv hp as st → ab_st xs lv' hp' as st := by
  intro as
  induction as with
  | nil => intro st h; cases st <;> first | trivial | exact absurd h (by simp [ab_st])
  | cons a r ih =>
    intro st h
    obtain ⟨v, s, rfl, h1, h2⟩ := ab_st_cons h
    exact ⟨ab_v_mono hP h1, ih h2⟩
/-- an array's cell set anew -/
theorem ab_set_arr (hA : ab_s xs A lv st hp) {c t n : Nat} {f f' : ab_F} {y : Nat × vp_A} {x : Nat × vp_A} (hx : hp[c]? = some (.inl x)) (hc : A.2.2.1[c]? = some (.inr (t, n, f))) (hy : ab_c (.inr (t, n, f')) (.inl y)) {r : List ab_V} {s : List Value} (hr : ab_st xs lv hp r s) : ab_s xs (A.1, r, A.2.2.1.set c (.inr (t, n, f')), A.2.2.2) lv s (hp.set c (.inl y)) := by
  obtain ⟨h1, h2, h3, h4⟩ := hA
  have hP : ∀ l w, ab_at xs lv hp l = some w → ab_at xs lv (hp.set c (.inl y)) l = some w := fun l w hl => ab_at_arr hx hl
  refine ⟨fun j a hm => ?_, ab_st_mono hP hr, ⟨by simp only [List.length_set]; exact h3.1, fun k a z ha hz => ?_⟩, h4⟩
  · obtain ⟨v, hv, hav⟩ := h1 j a hm
    exact ⟨v, hv, ab_v_mono hP hav⟩
  · by_cases hk : k = c
    · subst hk
      rw [List.getElem?_set_self (List.getElem?_eq_some_iff.mp hc).1] at ha
      rw [List.getElem?_set_self (List.getElem?_eq_some_iff.mp hx).1] at hz
      cases ha
      cases hz
      exact hy
    · rw [List.getElem?_set_ne (Ne.symm hk)] at ha hz
      exact h3.2 _ _ _ ha hz
theorem ab_astore_ok (hA : ab_s xs A lv st hp) {i : Instr} {q : Nat} (h : ab_astore T i q A = some outs) : ∃ (v : Value) (j : Int32) (a : Nat) (s : List Value) (hp' : px_H) (A' : ab_S), st = v :: .int j :: .ref a :: s ∧ px_ast T i hp a j v = some hp' ∧ (q, A') ∈ outs ∧ ab_s xs A' lv s hp' := by
  obtain ⟨h1, h2, h3, h4⟩ := id hA
  unfold ab_astore at h
  split at h
  · rename_i va i1 i2 r0 o0 c1 c2 c o3 r hst
    rw [hst] at h2
    obtain ⟨v0, s0, rfl, g0, k0⟩ := ab_st_cons h2
    obtain ⟨v1, s1, rfl, g1, k1⟩ := ab_st_cons k0
    obtain ⟨v2, s2, rfl, g2, k2⟩ := ab_st_cons k1
    obtain ⟨j, rfl, hj⟩ := ab_f0 g1.1
    have hv2 := ab_ref1 g2
    subst hv2
    split at h
    · rename_i t n f hc
      split at h
      · rename_i ty hty
        split at h
        · rename_i e1 e2 e3
          cases h
          obtain ⟨hin, hlt⟩ := ab_inR hj e2 e3
          obtain ⟨x, hx, hxc⟩ := ab_cell h3 hc
          obtain ⟨⟨kv, w1, w2, wr⟩, ov⟩ := va
          obtain ⟨kf, f1, f2, fr⟩ := f
          cases x with
          | inr q9 => exact absurd hxc (by simp [ab_c])
          | inl q9 =>
            obtain ⟨t', n', cont⟩ := q9
            obtain ⟨rfl, rfl, hall⟩ := hxc
            have hel := hall _ hlt
            unfold ab_sty at e1
            split at e1
            · simp only [Bool.and_eq_true] at e1
              obtain ⟨e4, e5⟩ := e1
              obtain ⟨y, rfl, hy⟩ := ab_k0 e5 g0.1
              have hkk : kf = kv := (Nat.eq_of_beq_eq_true e4).trans (Nat.eq_of_beq_eq_true e5).symm
              cases cont with
              | inl g =>
                refine ⟨_, j, c, s2, hp.set c (.inl (t, n, .inl (upd g j.toNatClampNeg y))), _, rfl, by simp only [px_ast, hx, hin, hty], List.mem_singleton.mpr rfl, ab_set_arr hA hx hc ⟨rfl, rfl, fun m hm => ?_⟩ k2⟩
                simp only [upd]
                split
                · exact ab_join_r hkk g0.1
                · exact ab_join_l (hall m hm)
              | inr g =>
                exfalso
                rcases g with g | g | g | g
                · simp only at hel; exact absurd hel.1 (by simp only; rw [Nat.eq_of_beq_eq_true e4]; decide)
                · exact hel
                · exact hel
                · simp only at hel; obtain ⟨q8, -, hq⟩ := hel; exact absurd hq.1 (by simp only; rw [Nat.eq_of_beq_eq_true e4]; decide)
            · simp only [Bool.and_eq_true, decide_eq_true_eq] at e1
              obtain ⟨e4, e5, e6, e7⟩ := e1
              obtain ⟨y, rfl, hy⟩ := ab_k0 e5 g0.1
              have hkk : kf = kv := (Nat.eq_of_beq_eq_true e4).trans (Nat.eq_of_beq_eq_true e5).symm
              have hy01 : (decide (y = 0) || decide (y = 1)) = true := by
                have b0 := hy.1
                have b1 := hy.2
                simp only at b0 b1
                simp only [Bool.or_eq_true, decide_eq_true_eq, ← Int32.toInt_inj]
                have z0 : (0 : Int32).toInt = 0 := rfl
                have z1 : (1 : Int32).toInt = 1 := rfl
                omega
              cases cont with
              | inl g =>
                refine ⟨_, j, c, s2, hp.set c (.inl (t, n, .inl (upd g j.toNatClampNeg y))), _, rfl, by simp only [px_ast, hx, hin, hty, hy01], List.mem_singleton.mpr rfl, ab_set_arr hA hx hc ⟨rfl, rfl, fun m hm => ?_⟩ k2⟩
                simp only [upd]
                split
                · exact ab_join_r hkk g0.1
                · exact ab_join_l (hall m hm)
              | inr g =>
                exfalso
                rcases g with g | g | g | g
                · simp only at hel; exact absurd hel.1 (by simp only; rw [Nat.eq_of_beq_eq_true e4]; decide)
                · exact hel
                · exact hel
                · simp only at hel; obtain ⟨q8, -, hq⟩ := hel; exact absurd hq.1 (by simp only; rw [Nat.eq_of_beq_eq_true e4]; decide)
            · simp only [Bool.and_eq_true] at e1
              obtain ⟨e4, e5⟩ := e1
              obtain ⟨y, rfl, hy⟩ := ab_k1' e5 g0.1
              have hkk : kf = kv := (Nat.eq_of_beq_eq_true e4).trans (Nat.eq_of_beq_eq_true e5).symm
              cases cont with
              | inl g => simp only at hel; exact absurd hel.1 (by simp only; rw [Nat.eq_of_beq_eq_true e4]; decide)
              | inr g =>
                rcases g with g | g | g | g
                · refine ⟨_, j, c, s2, hp.set c (.inl (t, n, .inr (.inl (vp_updL g j.toNatClampNeg y)))), _, rfl, by simp only [px_ast, hx, hin, hty], List.mem_singleton.mpr rfl, ab_set_arr hA hx hc ⟨rfl, rfl, fun m hm => ?_⟩ k2⟩
                  simp only [vp_updL]
                  split
                  · exact ab_join_r hkk g0.1
                  · exact ab_join_l (hall m hm)
                · exact absurd hel (by simp)
                · exact absurd hel (by simp)
                · simp only at hel; obtain ⟨q8, -, hq⟩ := hel; exact absurd hq.1 (by simp only; rw [Nat.eq_of_beq_eq_true e4]; decide)
            · cases e1
        · cases h
      · cases h
    · cases h
  · cases h
end ab_s6
