section ab_s5
variable {xs : Nat → Int32} {lv : List (Nat × Value)} {st : List Value} {hp : px_H} {A : ab_S} {T : px_T} {X : Option (Nat × (Nat → Int32))} {P : List px_M} {M : px_M} {pc : Nat} {outs : List (Nat × ab_S)}
/-- the pure machine comes to a state that one of these holds -/
def ab_R (T : px_T) (X : Option (Nat × (Nat → Int32))) (P : List px_M) (M : px_M) (xs : Nat → Int32) (pc : Nat) (lv : List (Nat × Value)) (st : List Value) (hp : px_H) (outs : List (Nat × ab_S)) : Prop :=
  ∃ (pc' : Nat) (lv' : List (Nat × Value)) (st' : List Value) (hp' : px_H) (A' : ab_S), (pc', A') ∈ outs ∧ ab_s xs A' lv' st' hp' ∧ ∃ k : Nat, ∀ (call : Nat → List Value → px_H → Option px_A) (N0 nc ns : Nat), px_its T X P call M N0 k (pc, lv, st, hp, nc, ns) = some (pc', lv', st', hp', nc, ns)
theorem ab_one {pc' : Nat} {lv' : List (Nat × Value)} {st' : List Value} {hp' : px_H} {A' : ab_S} (hm : (pc', A') ∈ outs) (hA : ab_s xs A' lv' st' hp') (h : ∀ (call : Nat → List Value → px_H → Option px_A) (N0 nc ns : Nat), px_step T X P call M N0 (pc, lv, st, hp, nc, ns) = some (.inl (pc', lv', st', hp', nc, ns))) : ab_R T X P M xs pc lv st hp outs :=
  ⟨pc', lv', st', hp', A', hm, hA, 1, fun call N0 nc ns => by simp only [px_its, h]⟩
theorem ab_ld_ok (hA : ab_s xs A lv st hp) {j : Nat} {a : ab_V} {v : Value} (hv : px_find j lv = some v) (hav : ab_v xs lv hp a v) : ab_v xs lv hp (ab_ld A j a) v := by
  unfold ab_ld
  split
  · exact hav
  · rename_i hn
    split
    · rename_i l hl
      split
      · rename_i b hb
        obtain ⟨⟨k, a1, a2, r⟩, o⟩ := a
        obtain ⟨z, hz⟩ := ab_num_k hav.1 hn
        obtain ⟨w, hw, e⟩ := hav.2 l hl
        have h1 := ab_meet_in (ab_num_f hav.1 hz) (ab_bnd_ok hA hb hw (by rw [e]; exact hz))
        refine ⟨ab_f_num hav.1 hz h1, fun l' hl' => ?_⟩
        cases hl'
        exact ⟨w, hw, e⟩
      · exact hav
    · refine ⟨hav.1, fun l hl => ?_⟩
      cases hl
      exact ⟨v, hv, rfl⟩
theorem ab_push_ok (hA : ab_s xs A lv st hp) {f : ab_F} {o : Option ab_L} {r : List ab_V} {v : Value} {s : List Value} {q : Nat} (h : ab_push q A f o r = some outs) (hf : ab_f f v) (ho : ab_o xs lv hp o v) (hr : ab_st xs lv hp r s) : ∃ A', (q, A') ∈ outs ∧ ab_s xs A' lv (v :: s) hp := by
  obtain ⟨h1, h2, h3, h4⟩ := hA
  unfold ab_push at h
  split at h
  · cases h; exact ⟨_, List.mem_singleton.mpr rfl, h1, ⟨⟨hf, ho⟩, hr⟩, h3, h4⟩
  · cases h; exact ⟨_, List.mem_singleton.mpr rfl, h1, ⟨⟨hf, ho⟩, hr⟩, h3, h4⟩
  · rename_i hk
    cases h
    obtain ⟨k, a1, a2, rs⟩ := f
    simp only at hk
    subst hk
    obtain ⟨c, rfl, hc⟩ := ab_f2 hf
    exact ⟨_, List.mem_map.mpr ⟨c, hc, rfl⟩, h1, ⟨⟨⟨rfl, List.mem_singleton.mpr rfl⟩, ab_o_none _ _ _ _⟩, hr⟩, h3, h4⟩
  · cases h
theorem ab_to_ok (hA : ab_s xs A lv st hp) {c : ClassFile.Cond} {x y : ab_V} {v w : Value} {a b : Int} (hx : ab_v xs lv hp x v) (hy : ab_v xs lv hp y w) (hv : ab_num v = some a) (hw : ab_num w = some b) (hr : ab_rel c a b) (q : Nat) : ∃ A', (q, A') ∈ ab_to q c x y A ∧ ab_s xs A' lv st hp := by
  obtain ⟨A', h1, h2⟩ := ab_if_ok hA hx hy hv hw hr
  refine ⟨A', ?_, h2⟩
  unfold ab_to
  rw [h1]
  exact List.mem_singleton.mpr rfl
theorem ab_const_ok (v : Int32) : ab_v xs lv hp (ab_const v.toInt) (.int v) := ⟨⟨rfl, Int.le_refl _, Int.le_refl _⟩, ab_o_none _ _ _ _⟩
theorem ab_ref1 {a1 a2 : Int} {c : Nat} {o : Option ab_L} {v : Value} (h : ab_v xs lv hp ((2, a1, a2, [c]), o) v) : v = .ref c := by
  obtain ⟨k, rfl, hk⟩ := ab_f2 h.1
  rw [List.mem_singleton.mp hk]
theorem ab_cell (hA : ab_h A.2.2.1 hp) {c : Nat} {a : ab_C} (h : A.2.2.1[c]? = some a) : ∃ x, hp[c]? = some x ∧ ab_c a x := by
  have hlt := (List.getElem?_eq_some_iff.mp h).1
  rw [hA.1] at hlt
  exact ⟨hp[c], List.getElem?_eq_getElem hlt, hA.2 _ _ _ h (List.getElem?_eq_getElem hlt)⟩
theorem ab_obj (hA : ab_h A.2.2.1 hp) {c ci : Nat} {fs : List ab_F} (h : A.2.2.1[c]? = some (.inl (ci, fs))) : ∃ vs, hp[c]? = some (.inr (ci, vs)) ∧ fs.length = vs.length ∧ ∀ (k : Nat) (f : ab_F) (v : Value), fs[k]? = some f → vs[k]? = some v → ab_f f v := by
  obtain ⟨x, hx, hc⟩ := ab_cell hA h
  cases x with
  | inl q => exact absurd hc (by simp [ab_c])
  | inr q =>
    obtain ⟨ci', vs⟩ := q
    obtain ⟨rfl, h1, h2⟩ := hc
    exact ⟨vs, hx, h1, h2⟩
theorem ab_fits_ok {ty : FieldType} {a : ab_F} {v : Value} (h : ab_fits ty a.1 = true) (hv : ab_f a v) : px_fits ty v = true := by
  obtain ⟨k, a1, a2, r⟩ := a
  unfold ab_fits at h
  split at h
  · have := Nat.eq_of_beq_eq_true h; simp only at this; subst this; obtain ⟨x, rfl, -⟩ := ab_f0 hv; rfl
  · have := Nat.eq_of_beq_eq_true h; simp only at this; subst this; obtain ⟨x, rfl, -⟩ := ab_f1 hv; rfl
  · have := Nat.eq_of_beq_eq_true h; simp only at this; subst this; obtain ⟨x, rfl, -⟩ := ab_f2 hv; rfl
  · have := Nat.eq_of_beq_eq_true h; simp only at this; subst this; obtain ⟨x, rfl, -⟩ := ab_f2 hv; rfl
  · cases h
/-- a heap whose cell was set, seen by its places -/
theorem ab_at_set {c : Nat} {x : px_E} (hx : hp[c]? = some x) {l : ab_L} {w : Value} (hl : ab_at xs lv hp l = some w) {ci k : Nat} {vs : List Value} {u : Value} (hc : x = .inr (ci, vs)) (hk : ab_kf c k l = false) : ab_at xs lv (hp.set c (.inr (ci, vs.set k u))) l = some w := by
  obtain ⟨q, m, n⟩ := l
  have hlt := (List.getElem?_eq_some_iff.mp hx).1
  unfold ab_at at hl ⊢
  split at hl
  · rename_i he; cases he; exact hl
  · rename_i m0 n0 he
    cases he
    by_cases hm : m = c
    · subst hm
      rw [hx, hc] at hl
      simp only at hl
      rw [List.getElem?_set_self hlt]
      simp only
      simp only [ab_kf, Nat.beq_refl, Bool.true_and] at hk
      rw [List.getElem?_set_ne (Ne.symm (Nat.ne_of_beq_eq_false hk))]
      exact hl
    · rw [List.getElem?_set_ne (Ne.symm hm)]
      exact hl
  · rename_i he; cases he; exact hl
  · cases hl
theorem ab_at_arr {c : Nat} {x y : Nat × vp_A} (hx : hp[c]? = some (.inl x)) {l : ab_L} {w : Value} (hl : ab_at xs lv hp l = some w) : ab_at xs lv (hp.set c (.inl y)) l = some w := by
  obtain ⟨q, m, n⟩ := l
  unfold ab_at at hl ⊢
  split at hl
  · rename_i he; cases he; exact hl
  · rename_i m0 n0 he
    cases he
    by_cases hm : m = c
    · subst hm
      rw [hx] at hl
      cases hl
    · rw [List.getElem?_set_ne (Ne.symm hm)]
      exact hl
  · rename_i he; cases he; exact hl
  · cases hl
end ab_s5
