/-! A SECOND ABSTRACT INTERPRETER: bounds over a fixed heap G, with overrides of fields, ghosts of the arguments, flags, counters; loops and contracts come behind it. -/
/-- an override: cell, field, what is known -/
abbrev ac_O : Type := Nat × Nat × ab_F
/-- locals, stack, overrides, ghosts' bounds, flags, counters -/
abbrev ac_S : Type := List (Nat × ab_V) × List ab_V × List ac_O × List (Int × Int) × List Nat × List (Nat × Int)
def ac_fv (hp : px_H) (c k : Nat) : Option Value := match hp[c]? with
  | some (.inr (_, fs)) => fs[k]?
  | _ => none
def ac_ov (ov : List ac_O) (hp : px_H) : Prop := ∀ q ∈ ov, ∀ v, ac_fv hp q.1 q.2.1 = some v → ab_f q.2.2 v
def ac_rl (γ : Nat → Int) (rl : List (Nat × Int)) (lv : List (Nat × Value)) : Prop := ∀ q ∈ rl, ∃ x : Int32, px_find q.1 lv = some (.int x) ∧ x.toInt = γ q.1 + q.2
def ac_s (G : List ab_C) (Φ : Nat → px_H → Prop) (xs : Nat → Int32) (γ : Nat → Int) (A : ac_S) (lv : List (Nat × Value)) (st : List Value) (hp : px_H) : Prop :=
  ab_lv xs hp A.1 lv ∧ ab_st xs lv hp A.2.1 st ∧ ab_h G hp ∧ ac_ov A.2.2.1 hp ∧ ab_x A.2.2.2.1 xs ∧ (∀ i ∈ A.2.2.2.2.1, Φ i hp) ∧ ac_rl γ A.2.2.2.2.2 lv
/-- what was written lies in these fields and these arrays -/
def px_fr (ws : List (Nat × Nat)) (wa : List Nat) (hp hp' : px_H) : Prop :=
  (∀ (c : Nat) (q : Nat × vp_A), c ∉ wa → hp[c]? = some (.inl q) → hp'[c]? = some (.inl q)) ∧ ∀ (c ci : Nat) (vs : List Value), hp[c]? = some (.inr (ci, vs)) → ∃ vs' : List Value, hp'[c]? = some (.inr (ci, vs')) ∧ vs'.length = vs.length ∧ ∀ k, (c, k) ∉ ws → vs'[k]? = vs[k]?
theorem px_fr_rf (ws : List (Nat × Nat)) (wa : List Nat) (hp : px_H) : px_fr ws wa hp hp := ⟨fun _ _ _ h => h, fun _ _ vs h => ⟨vs, h, rfl, fun _ _ => rfl⟩⟩
theorem px_fr_tr {ws : List (Nat × Nat)} {wa : List Nat} {h1 h2 h3 : px_H} (a : px_fr ws wa h1 h2) (b : px_fr ws wa h2 h3) : px_fr ws wa h1 h3 := by
  refine ⟨fun c q hc h => b.1 c q hc (a.1 c q hc h), fun c ci vs h => ?_⟩
  obtain ⟨vs', e1, e2, e3⟩ := a.2 c ci vs h
  obtain ⟨vs'', f1, f2, f3⟩ := b.2 c ci vs' e1
  exact ⟨vs'', f1, f2.trans e2, fun k hk => (f3 k hk).trans (e3 k hk)⟩
theorem px_fr_mono {ws ws' : List (Nat × Nat)} {wa wa' : List Nat} {h1 h2 : px_H} (a : px_fr ws wa h1 h2) (e1 : ∀ q ∈ ws, q ∈ ws') (e2 : ∀ q ∈ wa, q ∈ wa') : px_fr ws' wa' h1 h2 := by
  refine ⟨fun c q hc h => a.1 c q (fun h9 => hc (e2 _ h9)) h, fun c ci vs h => ?_⟩
  obtain ⟨vs', f1, f2, f3⟩ := a.2 c ci vs h
  exact ⟨vs', f1, f2, fun k hk => f3 k (fun h9 => hk (e1 _ h9))⟩
def ab_le (a f : ab_F) : Bool :=
  match a.1 with
  | 0 => Nat.beq f.1 0 && (decide (f.2.1 ≤ a.2.1) && decide (a.2.2.1 ≤ f.2.2.1))
  | 1 => Nat.beq f.1 1 && (decide (f.2.1 ≤ a.2.1) && decide (a.2.2.1 ≤ f.2.2.1))
  | 2 => Nat.beq f.1 2 && a.2.2.2.all (fun c => f.2.2.2.any (fun d => Nat.beq c d))
  | _ => false
theorem ab_le_ok {a f : ab_F} {v : Value} (h : ab_le a f = true) (hv : ab_f a v) : ab_f f v := by
  obtain ⟨k, a1, a2, r⟩ := a
  obtain ⟨k', f1, f2, r'⟩ := f
  unfold ab_le at h
  split at h
  · rename_i hk
    simp only at hk
    subst hk
    simp only [Bool.and_eq_true, decide_eq_true_eq] at h
    obtain ⟨x, rfl, hx⟩ := ab_f0 hv
    have b0 := hx.1
    have b1 := hx.2
    simp only at b0 b1
    exact ⟨Nat.eq_of_beq_eq_true h.1, Int.le_trans h.2.1 b0, Int.le_trans b1 h.2.2⟩
  · rename_i hk
    simp only at hk
    subst hk
    simp only [Bool.and_eq_true, decide_eq_true_eq] at h
    obtain ⟨x, rfl, hx⟩ := ab_f1 hv
    have b0 := hx.1
    have b1 := hx.2
    simp only at b0 b1
    exact ⟨Nat.eq_of_beq_eq_true h.1, Int.le_trans h.2.1 b0, Int.le_trans b1 h.2.2⟩
  · rename_i hk
    simp only at hk
    subst hk
    simp only [Bool.and_eq_true, List.all_eq_true, List.any_eq_true] at h
    obtain ⟨x, rfl, hx⟩ := ab_f2 hv
    obtain ⟨d, hd, he⟩ := h.2 x hx
    rw [Nat.eq_of_beq_eq_true he]
    exact ⟨Nat.eq_of_beq_eq_true h.1, hd⟩
  · cases h
/-! fields -/
def ac_fo (c k : Nat) : List ac_O → Option ab_F
  | [] => none
  | q :: r => match Nat.beq q.1 c && Nat.beq q.2.1 k with
    | true => some q.2.2
    | false => ac_fo c k r
def ac_fF (G : List ab_C) (ov : List ac_O) (c k : Nat) : Option ab_F := match ac_fo c k ov with
  | some f => some f
  | none => match G[c]? with
    | some (.inl (_, fs)) => fs[k]?
    | _ => none
theorem ac_fo_mem {c k : Nat} {ov : List ac_O} {f : ab_F} (h : ac_fo c k ov = some f) : (c, k, f) ∈ ov := by
  induction ov with
  | nil => cases h
  | cons q r ih =>
    unfold ac_fo at h
    split at h
    · rename_i hq
      simp only [Bool.and_eq_true] at hq
      cases h
      obtain ⟨q1, q2, q3⟩ := q
      have e1 := Nat.eq_of_beq_eq_true hq.1
      have e2 := Nat.eq_of_beq_eq_true hq.2
      simp only at e1 e2
      subst e1 e2
      exact List.mem_cons_self
    · exact List.mem_cons_of_mem _ (ih h)
theorem ac_cell {G : List ab_C} {hp : px_H} (hG : ab_h G hp) {c : Nat} {a : ab_C} (h : G[c]? = some a) : ∃ x, hp[c]? = some x ∧ ab_c a x := by
  have hlt := (List.getElem?_eq_some_iff.mp h).1
  rw [hG.1] at hlt
  exact ⟨hp[c], List.getElem?_eq_getElem hlt, hG.2 _ _ _ h (List.getElem?_eq_getElem hlt)⟩
theorem ac_obj {G : List ab_C} {hp : px_H} (hG : ab_h G hp) {c ci : Nat} {fs : List ab_F} (h : G[c]? = some (.inl (ci, fs))) : ∃ vs, hp[c]? = some (.inr (ci, vs)) ∧ fs.length = vs.length ∧ ∀ (k : Nat) (f : ab_F) (v : Value), fs[k]? = some f → vs[k]? = some v → ab_f f v := by
  obtain ⟨x, hx, hc⟩ := ac_cell hG h
  cases x with
  | inl q => exact absurd hc (by simp [ab_c])
  | inr q =>
    obtain ⟨ci', vs⟩ := q
    obtain ⟨rfl, h1, h2⟩ := hc
    exact ⟨vs, hx, h1, h2⟩
theorem ac_fF_ok {G : List ab_C} {hp : px_H} {ov : List ac_O} {c k : Nat} {f : ab_F} {v : Value} (hG : ab_h G hp) (ho : ac_ov ov hp) (h : ac_fF G ov c k = some f) (hv : ac_fv hp c k = some v) : ab_f f v := by
  unfold ac_fF at h
  split at h
  · rename_i g hg
    cases h
    exact ho _ (ac_fo_mem hg) v hv
  · split at h
    · rename_i ci fs hc
      obtain ⟨vs, hx, -, hall⟩ := ac_obj hG hc
      unfold ac_fv at hv
      rw [hx] at hv
      exact hall _ _ _ h hv
    · cases h
def ac_f1 (G : List ab_C) (ci k c : Nat) : Option ab_F := match G[c]? with
  | some (.inl (ci', fs)) => match Nat.beq ci' ci with
    | true => fs[k]?
    | false => none
  | _ => none
theorem ac_f1_ok {G : List ab_C} {hp : px_H} {ci k c : Nat} {f : ab_F} (hG : ab_h G hp) (h : ac_f1 G ci k c = some f) : ∃ vs v, hp[c]? = some (.inr (ci, vs)) ∧ vs[k]? = some v ∧ ab_f f v ∧ k < vs.length := by
  unfold ac_f1 at h
  split at h
  · rename_i ci' fs hc
    split at h
    · rename_i hci
      have := Nat.eq_of_beq_eq_true hci
      subst this
      obtain ⟨vs, hx, hlen, hall⟩ := ac_obj hG hc
      have hlt : k < vs.length := by rw [← hlen]; exact (List.getElem?_eq_some_iff.mp h).1
      exact ⟨vs, vs[k]'hlt, hx, List.getElem?_eq_getElem hlt, hall _ _ _ h (List.getElem?_eq_getElem hlt), hlt⟩
    · cases h
  · cases h
def ac_fm (G : List ab_C) (ci k : Nat) : List Nat → Option ab_F
  | [] => none
  | c :: r => match r with
    | [] => ac_f1 G ci k c
    | _ => match ac_f1 G ci k c, ac_fm G ci k r with
      | some f, some g => match Nat.beq f.1 g.1 with
        | true => some (ab_join f g)
        | false => none
      | _, _ => none
theorem ac_fm_ok {G : List ab_C} {hp : px_H} {ci k : Nat} (hG : ab_h G hp) : ∀ {cs : List Nat} {f : ab_F} {c : Nat}, ac_fm G ci k cs = some f → c ∈ cs → ∃ vs v, hp[c]? = some (.inr (ci, vs)) ∧ vs[k]? = some v ∧ ab_f f v := by
  intro cs
  induction cs with
  | nil => intro f c h; cases h
  | cons d r ih =>
    intro f c h hc
    unfold ac_fm at h
    split at h
    · cases List.mem_singleton.mp hc
      obtain ⟨vs, v, e1, e2, e3, -⟩ := ac_f1_ok hG h
      exact ⟨vs, v, e1, e2, e3⟩
    · split at h
      · rename_i f1 g1 hf hg
        split at h
        · rename_i hk
          cases h
          rcases List.mem_cons.mp hc with rfl | hc
          · obtain ⟨vs, v, e1, e2, e3, -⟩ := ac_f1_ok hG hf
            exact ⟨vs, v, e1, e2, ab_join_l e3⟩
          · obtain ⟨vs, v, e1, e2, e3⟩ := ih hg hc
            exact ⟨vs, v, e1, e2, ab_join_r (Nat.eq_of_beq_eq_true hk) e3⟩
        · cases h
      · cases h
/-! refinement -/
def ac_bnd (G : List ab_C) (A : ac_S) (l : ab_L) : Option ab_B :=
  match l with
  | (0, j, _) => match px_find j A.1 with
    | some ((k, a1, a2, _), _) => if Nat.beq k 0 || Nat.beq k 1 then some (a1, a2) else none
    | none => none
  | (1, c, k) => match ac_fF G A.2.2.1 c k with
    | some (k', a1, a2, _) => if Nat.beq k' 0 || Nat.beq k' 1 then some (a1, a2) else none
    | none => none
  | (2, j, _) => A.2.2.2.1[j]?
  | _ => none
def ac_set (G : List ab_C) (A : ac_S) (l : ab_L) (q : ab_B) : ac_S :=
  match l with
  | (0, j, _) => (A.1.map (ab_setl q j), A.2)
  | (1, c, k) => match ac_fF G A.2.2.1 c k with
    | some (k', _, _, r) => (A.1, A.2.1, (c, k, k', q.1, q.2, r) :: A.2.2.1, A.2.2.2)
    | none => A
  | (2, j, _) => (A.1, A.2.1, A.2.2.1, A.2.2.2.1.set j q, A.2.2.2.2)
  | _ => A
def ac_refine (G : List ab_C) (A : ac_S) (o : Option ab_L) (q : ab_B) : ac_S :=
  match o with
  | none => A
  | some l => match ac_bnd G A l with
    | none => A
    | some b => ac_set G A l (ab_meet b q)
section ac_s1
variable {G : List ab_C} {Φ : Nat → px_H → Prop} {xs : Nat → Int32} {γ : Nat → Int} {A : ac_S} {lv : List (Nat × Value)} {st : List Value} {hp : px_H}
theorem ac_at_fv (c k : Nat) : ab_at xs lv hp (1, c, k) = ac_fv hp c k := rfl
theorem ac_bnd_ok (hA : ac_s G Φ xs γ A lv st hp) {l : ab_L} {b : ab_B} (h : ac_bnd G A l = some b) {w : Value} (hw : ab_at xs lv hp l = some w) {z : Int} (hz : ab_num w = some z) : ab_in b z := by
  obtain ⟨h1, h2, h3, h4, h5, h6, h7⟩ := hA
  unfold ac_bnd at h
  split at h
  · split at h
    · rename_i j _ k a1 a2 r o hf
      split at h
      · cases h
        obtain ⟨v, hv, hav⟩ := h1 _ _ (px_find_mem hf)
        simp only [ab_at] at hw
        rw [hv] at hw
        cases hw
        exact ab_num_f hav.1 hz
      · cases h
    · cases h
  · split at h
    · rename_i c k k' a1 a2 r hf
      split at h
      · cases h
        exact ab_num_f (ac_fF_ok h3 h4 hf hw) hz
      · cases h
    · cases h
  · simp only [ab_at] at hw
    cases hw
    cases hz
    exact h5 _ _ h
  · cases h
theorem ac_refine_ok (hA : ac_s G Φ xs γ A lv st hp) {o : Option ab_L} {q : ab_B} (ho : ∀ l, o = some l → ∃ w z, ab_at xs lv hp l = some w ∧ ab_num w = some z ∧ ab_in q z) : ac_s G Φ xs γ (ac_refine G A o q) lv st hp := by
  unfold ac_refine
  split
  · exact hA
  · rename_i l
    split
    · exact hA
    · rename_i b hb
      obtain ⟨w, z, hw, hz, hq⟩ := ho l rfl
      have hin := ab_meet_in (ac_bnd_ok hA hb hw hz) hq
      obtain ⟨h1, h2, h3, h4, h5, h6, h7⟩ := hA
      unfold ac_set
      split
      · rename_i j _
        refine ⟨fun j' a ha => ?_, h2, h3, h4, h5, h6, h7⟩
        obtain ⟨⟨j0, a0⟩, hm, he⟩ := List.mem_map.mp ha
        have hj0 : j0 = j' := (ab_setl_fst (ab_meet b q) j (j0, a0)).symm.trans (by rw [he])
        subst hj0
        obtain ⟨v, hv, hav⟩ := h1 _ _ hm
        have ha2 : a = (ab_setl (ab_meet b q) j (j0, a0)).2 := by rw [he]
        subst ha2
        refine ⟨v, hv, ?_⟩
        unfold ab_setl
        split
        · rename_i hj
          have := Nat.eq_of_beq_eq_true hj
          simp only at this
          subst this
          simp only [ab_at] at hw
          rw [hv] at hw
          cases hw
          obtain ⟨⟨k, a1, a2, r⟩, o⟩ := a0
          exact ⟨ab_f_num hav.1 hz hin, hav.2⟩
        · exact hav
      · rename_i c k
        split
        · rename_i k' a1 a2 r hf
          refine ⟨h1, h2, h3, fun q9 hq9 v hv => ?_, h5, h6, h7⟩
          rcases List.mem_cons.mp hq9 with he | hq9
          · subst he
            rw [ac_at_fv] at hw
            simp only at hv
            rw [hw] at hv
            cases hv
            exact ab_f_num (ac_fF_ok h3 h4 hf hw) hz hin
          · exact h4 q9 hq9 v hv
        · exact ⟨h1, h2, h3, h4, h5, h6, h7⟩
      · rename_i j _
        refine ⟨h1, h2, h3, h4, fun j' q' hq' => ?_, h6, h7⟩
        by_cases hj : j' = j
        · subst hj
          have hlt : j' < A.2.2.2.1.length := by
            have := (List.getElem?_eq_some_iff.mp hq').1
            rwa [List.length_set] at this
          rw [List.getElem?_set_self hlt] at hq'
          cases hq'
          simp only [ab_at] at hw
          cases hw
          cases hz
          exact hin
        · rw [List.getElem?_set_ne (Ne.symm hj)] at hq'
          exact h5 _ _ hq'
      · exact ⟨h1, h2, h3, h4, h5, h6, h7⟩
end ac_s1
def ac_if (G : List ab_C) (c : ClassFile.Cond) (x y : ab_V) (A : ac_S) : Option ac_S :=
  let q := ab_cnd c (x.1.2.1, x.1.2.2.1) (y.1.2.1, y.1.2.2.1)
  if q.1.1 ≤ q.1.2 ∧ q.2.1 ≤ q.2.2 then some (ac_refine G (ac_refine G A x.2 q.1) y.2 q.2) else none
def ac_to (G : List ab_C) (pc : Nat) (c : ClassFile.Cond) (x y : ab_V) (A : ac_S) : List (Nat × ac_S) := match ac_if G c x y A with
  | some A' => [(pc, A')]
  | none => []
def ac_ld (G : List ab_C) (A : ac_S) (j : Nat) (a : ab_V) : ab_V :=
  match ab_isn a.1 with
  | false => a
  | true => match a.2 with
    | some l => match ac_bnd G A l with
      | some b => ((a.1.1, (ab_meet (a.1.2.1, a.1.2.2.1) b).1, (ab_meet (a.1.2.1, a.1.2.2.1) b).2, a.1.2.2.2), some l)
      | none => a
    | none => (a.1, some (0, j, 0))
section ac_s2
variable {G : List ab_C} {Φ : Nat → px_H → Prop} {xs : Nat → Int32} {γ : Nat → Int} {A : ac_S} {lv : List (Nat × Value)} {st : List Value} {hp : px_H}
theorem ac_to_ok (hA : ac_s G Φ xs γ A lv st hp) {c : ClassFile.Cond} {x y : ab_V} {v w : Value} {a b : Int} (hx : ab_v xs lv hp x v) (hy : ab_v xs lv hp y w) (hv : ab_num v = some a) (hw : ab_num w = some b) (hr : ab_rel c a b) (q : Nat) : ∃ A', (q, A') ∈ ac_to G q c x y A ∧ ac_s G Φ xs γ A' lv st hp := by
  obtain ⟨⟨kx, x1, x2, rx⟩, ox⟩ := x
  obtain ⟨⟨ky, y1, y2, ry⟩, oy⟩ := y
  have h := ab_cnd_ok hr (ab_num_f hx.1 hv) (ab_num_f hy.1 hw)
  unfold ac_to ac_if
  simp only
  rw [if_pos ⟨Int.le_trans h.1.1 h.1.2, Int.le_trans h.2.1 h.2.2⟩]
  refine ⟨_, List.mem_singleton.mpr rfl, ac_refine_ok (ac_refine_ok hA ?_) ?_⟩
  · intro l hl
    obtain ⟨u, hu, e⟩ := hx.2 l hl
    exact ⟨u, a, hu, by rw [e, hv], h.1⟩
  · intro l hl
    obtain ⟨u, hu, e⟩ := hy.2 l hl
    exact ⟨u, b, hu, by rw [e, hw], h.2⟩
theorem ac_toc_ok (hA : ac_s G Φ xs γ A lv st hp) {c : ClassFile.Cond} {x : ab_V} {v : Value} {a b : Int} (hx : ab_v xs lv hp x v) (hv : ab_num v = some a) (hr : ab_rel c a b) (q : Nat) : ∃ A', (q, A') ∈ ac_to G q c x (ab_const b) A ∧ ac_s G Φ xs γ A' lv st hp := by
  obtain ⟨⟨kx, x1, x2, rx⟩, ox⟩ := x
  have h := ab_cnd_ok hr (ab_num_f hx.1 hv) (b := (b, b)) ⟨Int.le_refl _, Int.le_refl _⟩
  unfold ac_to ac_if ab_const
  simp only
  rw [if_pos ⟨Int.le_trans h.1.1 h.1.2, Int.le_trans h.2.1 h.2.2⟩]
  refine ⟨_, List.mem_singleton.mpr rfl, ac_refine_ok (ac_refine_ok hA ?_) (fun l hl => by cases hl)⟩
  intro l hl
  obtain ⟨u, hu, e⟩ := hx.2 l hl
  exact ⟨u, a, hu, by rw [e, hv], h.1⟩
theorem ac_ld_ok (hA : ac_s G Φ xs γ A lv st hp) {j : Nat} {a : ab_V} {v : Value} (hv : px_find j lv = some v) (hav : ab_v xs lv hp a v) : ab_v xs lv hp (ac_ld G A j a) v := by
  unfold ac_ld
  split
  · exact hav
  · rename_i hn
    split
    · rename_i l hl
      split
      · rename_i b hb
        obtain ⟨⟨k, a1, a2, r⟩, o⟩ := a
        obtain ⟨z, hz⟩ := ab_num_k hav.1 hn
        obtain ⟨w, hw, e⟩ := hav.2 l hl
        have h1 := ab_meet_in (ab_num_f hav.1 hz) (ac_bnd_ok hA hb hw (by rw [e]; exact hz))
        refine ⟨ab_f_num hav.1 hz h1, fun l' hl' => ?_⟩
        cases hl'
        exact ⟨w, hw, e⟩
      · exact hav
    · refine ⟨hav.1, fun l hl => ?_⟩
      cases hl
      exact ⟨v, hv, rfl⟩
end ac_s2
/-! arithmetic: what the first one had not -/
def ab_rmul (a b : ab_B) : ab_B := if 0 ≤ a.1 ∧ 0 ≤ b.1 then ab_fit ab_topi (a.1 * b.1, a.2 * b.2) else ab_topi
theorem ab_rmul_ok (a b : ab_B) (x y : Int32) (ha : ab_in a x.toInt) (hb : ab_in b y.toInt) : ab_in (ab_rmul a b) (x * y).toInt := by
  unfold ab_rmul
  split
  · rename_i h0
    unfold ab_fit
    split
    · rename_i h
      simp only [ab_topi] at h
      have h1 := ha.1; have h2 := ha.2; have h3 := hb.1; have h4 := hb.2
      have e1 : a.1 * b.1 ≤ x.toInt * y.toInt := Int.mul_le_mul h1 h3 h0.2 (Int.le_trans h0.1 h1)
      have e2 : x.toInt * y.toInt ≤ a.2 * b.2 := Int.mul_le_mul h2 h4 (Int.le_trans h0.2 h3) (Int.le_trans (Int.le_trans h0.1 h1) h2)
      rw [Int32.toInt_mul, ab_bmod32 (by omega) (by omega)]
      exact ⟨e1, e2⟩
    · exact ab_i32 _
  · exact ab_i32 _
/-- the least 2^k - 1 that is not below -/
def ab_p2 (m : Int) : Int := 2 ^ (m.toNat.log2 + 1) - 1
def ab_ror (a b : ab_B) : ab_B := if 0 ≤ a.1 ∧ 0 ≤ b.1 then ab_fit ab_topi (0, ab_p2 (max a.2 b.2)) else ab_topi
theorem ab_ror_ok (a b : ab_B) (x y : Int32) (ha : ab_in a x.toInt) (hb : ab_in b y.toInt) : ab_in (ab_ror a b) (x ||| y).toInt := by
  unfold ab_ror
  split
  · rename_i h0
    unfold ab_fit
    split
    · rename_i h
      simp only [ab_topi] at h
      have h1 := ha.1; have h2 := ha.2; have h3 := hb.1; have h4 := hb.2
      obtain ⟨e1, e2⟩ := ab_n32 x (by omega)
      obtain ⟨e3, e4⟩ := ab_n32 y (by omega)
      have hm : (max a.2 b.2).toNat < 2 ^ ((max a.2 b.2).toNat.log2 + 1) := Nat.lt_log2_self
      have hx : x.toBitVec.toNat < 2 ^ ((max a.2 b.2).toNat.log2 + 1) := by omega
      have hy : y.toBitVec.toNat < 2 ^ ((max a.2 b.2).toNat.log2 + 1) := by omega
      have ho := Nat.or_lt_two_pow hx hy
      have hb9 : (x ||| y).toBitVec.toNat = x.toBitVec.toNat ||| y.toBitVec.toNat := by rw [Int32.toBitVec_or, BitVec.toNat_or]
      rw [← hb9] at ho
      have hp : (2 : Int) ^ ((max a.2 b.2).toNat.log2 + 1) = ((2 ^ ((max a.2 b.2).toNat.log2 + 1) : Nat) : Int) := by simp
      unfold ab_p2 at h ⊢
      rw [hp] at h ⊢
      generalize 2 ^ ((max a.2 b.2).toNat.log2 + 1) = N at *
      have e5 := ab_b32 (x ||| y) (by omega)
      exact ⟨by simp only; omega, by simp only; omega⟩
    · exact ab_i32 _
  · exact ab_i32 _
def ab_rsl (a b : ab_B) : ab_B := if 0 ≤ a.1 ∧ 0 ≤ b.1 ∧ b.2 ≤ 31 then ab_fit ab_topi (0, a.2 * 2 ^ b.2.toNat) else ab_rshl ab_topi a b
theorem ab_rsl_ok (a b : ab_B) (x y : Int32) (ha : ab_in a x.toInt) (hb : ab_in b y.toInt) : ab_in (ab_rsl a b) (x <<< (y &&& 31)).toInt := by
  unfold ab_rsl
  split
  · rename_i h0
    unfold ab_fit
    split
    · rename_i h
      simp only [ab_topi] at h
      have h1 := ha.1; have h2 := ha.2; have h3 := hb.1; have h4 := hb.2
      obtain ⟨e1, e2⟩ := ab_n32 x (by omega)
      have hk : ((y &&& 31).toBitVec.smod 32).toNat ≤ b.2.toNat := by
        obtain ⟨n, hn⟩ : ∃ n : Nat, y.toInt = n := ⟨y.toInt.toNat, by omega⟩
        have hn31 : n < 32 := by omega
        have hy : y = Int32.ofNat n := by
          rw [← Int32.toInt_inj, hn, Int32.toInt_ofNat', show Int32.size = 4294967296 from rfl]
          symm
          apply Int.bmod_eq_of_le <;> omega
        have hd : ∀ m : Nat, m < 32 → ((Int32.ofNat m &&& 31).toBitVec.smod 32).toNat = m := by decide +kernel
        rw [hy, hd n hn31]
        omega
      have e3 := pk_shl x (y &&& 31) _ rfl
      have e4 : x.toBitVec.toNat * 2 ^ ((y &&& 31).toBitVec.smod 32).toNat ≤ a.2.toNat * 2 ^ b.2.toNat := Nat.mul_le_mul (by omega) (Nat.pow_le_pow_right (by decide) hk)
      have e5 : ((a.2.toNat * 2 ^ b.2.toNat : Nat) : Int) = a.2 * 2 ^ b.2.toNat := by
        rw [Int.natCast_mul, Int.natCast_pow, Int.toNat_of_nonneg (by omega)]
        rfl
      generalize x.toBitVec.toNat * 2 ^ ((y &&& 31).toBitVec.smod 32).toNat = N at *
      rw [← e5] at h ⊢
      generalize a.2.toNat * 2 ^ b.2.toNat = N2 at *
      have e6 : N % 2 ^ 32 = N := Nat.mod_eq_of_lt (by omega)
      rw [e6] at e3
      have e7 := ab_b32 (x <<< (y &&& 31)) (by omega)
      exact ⟨by simp only; omega, by simp only; omega⟩
    · exact ab_i32 _
  · exact ab_rshl_i a b x y ha hb
def ac_lz : List ab_V → Option (List ab_V)
  | ((1, b1, b2, _), _) :: ((1, _, _, _), _) :: r => if 0 < b1 ∨ b2 < 0 then some (((1, ab_topl.1, ab_topl.2, []), none) :: r) else none
  | _ => none
def ac_iz : List ab_V → Option (List ab_V)
  | ((0, b1, b2, _), _) :: ((0, _, _, _), _) :: r => if 0 < b1 ∨ b2 < 0 then some (((0, ab_topi.1, ab_topi.2, []), none) :: r) else none
  | _ => none
def ac_alu (i : Instr) (st : List ab_V) : Option (List ab_V) :=
  match i with
  | .imul => ab_ii (fun x y => x * y) ab_rmul st
  | .ior => ab_ii (fun x y => x ||| y) ab_ror st
  | .ishl => ab_ii (fun x y => x <<< (y &&& 31)) ab_rsl st
  | .ldiv => ac_lz st
  | .idiv => ac_iz st
  | .irem => ac_iz st
  | i => ab_alu i st
theorem ac_alu_ok {xs : Nat → Int32} {lv : List (Nat × Value)} {hp : px_H} {i : Instr} {as as' : List ab_V} {st : List Value} (h : ac_alu i as = some as') (hs : ab_st xs lv hp as st) : ∃ st', px_alu i st = some st' ∧ ab_st xs lv hp as' st' := by
  unfold ac_alu at h
  split at h
  · unfold ab_ii at h
    split at h
    · cases h
      obtain ⟨v, s0, rfl, g1, k1⟩ := ab_st_cons hs
      obtain ⟨u, s, rfl, g2, k2⟩ := ab_st_cons k1
      obtain ⟨y, rfl, hy⟩ := ab_f0 g1.1
      obtain ⟨x, rfl, hx⟩ := ab_f0 g2.1
      have hq := ab_bi_ok (f := fun x y => x * y) (rule := ab_rmul) ab_rmul_ok hx hy
      exact ⟨_, rfl, ⟨⟨rfl, hq.1, hq.2⟩, ab_o_none _ _ _ _⟩, k2⟩
    · cases h
  · unfold ab_ii at h
    split at h
    · cases h
      obtain ⟨v, s0, rfl, g1, k1⟩ := ab_st_cons hs
      obtain ⟨u, s, rfl, g2, k2⟩ := ab_st_cons k1
      obtain ⟨y, rfl, hy⟩ := ab_f0 g1.1
      obtain ⟨x, rfl, hx⟩ := ab_f0 g2.1
      have hq := ab_bi_ok (f := fun x y => x ||| y) (rule := ab_ror) ab_ror_ok hx hy
      exact ⟨_, rfl, ⟨⟨rfl, hq.1, hq.2⟩, ab_o_none _ _ _ _⟩, k2⟩
    · cases h
  · unfold ab_ii at h
    split at h
    · cases h
      obtain ⟨v, s0, rfl, g1, k1⟩ := ab_st_cons hs
      obtain ⟨u, s, rfl, g2, k2⟩ := ab_st_cons k1
      obtain ⟨y, rfl, hy⟩ := ab_f0 g1.1
      obtain ⟨x, rfl, hx⟩ := ab_f0 g2.1
      have hq := ab_bi_ok (f := fun x y => x <<< (y &&& 31)) (rule := ab_rsl) ab_rsl_ok hx hy
      exact ⟨_, rfl, ⟨⟨rfl, hq.1, hq.2⟩, ab_o_none _ _ _ _⟩, k2⟩
    · cases h
  · unfold ac_lz at h
    split at h
    · split at h
      · rename_i hb
        cases h
        obtain ⟨v, s0, rfl, g1, k1⟩ := ab_st_cons hs
        obtain ⟨u, s, rfl, g2, k2⟩ := ab_st_cons k1
        obtain ⟨y, rfl, hy⟩ := ab_f1 g1.1
        obtain ⟨x, rfl, hx⟩ := ab_f1 g2.1
        have hy0 : ¬ y = 0 := by
          intro he
          subst he
          have b0 := hy.1
          have b1 := hy.2
          simp only [Int64.toInt_zero] at b0 b1
          omega
        exact ⟨.long (x / y) :: s, by simp only [px_alu, px_llz, hy0, if_false], ⟨⟨rfl, (ab_i64 _).1, (ab_i64 _).2⟩, ab_o_none _ _ _ _⟩, k2⟩
      · cases h
    · cases h
  · unfold ac_iz at h
    split at h
    · split at h
      · rename_i hb
        cases h
        obtain ⟨v, s0, rfl, g1, k1⟩ := ab_st_cons hs
        obtain ⟨u, s, rfl, g2, k2⟩ := ab_st_cons k1
        obtain ⟨y, rfl, hy⟩ := ab_f0 g1.1
        obtain ⟨x, rfl, hx⟩ := ab_f0 g2.1
        have hy0 : ¬ y = 0 := by
          intro he
          subst he
          have b0 := hy.1
          have b1 := hy.2
          simp only [Int32.toInt_zero] at b0 b1
          omega
        exact ⟨.int (x / y) :: s, by simp only [px_alu, px_iiz, hy0, if_false], ⟨⟨rfl, (ab_i32 _).1, (ab_i32 _).2⟩, ab_o_none _ _ _ _⟩, k2⟩
      · cases h
    · cases h
  · unfold ac_iz at h
    split at h
    · split at h
      · rename_i hb
        cases h
        obtain ⟨v, s0, rfl, g1, k1⟩ := ab_st_cons hs
        obtain ⟨u, s, rfl, g2, k2⟩ := ab_st_cons k1
        obtain ⟨y, rfl, hy⟩ := ab_f0 g1.1
        obtain ⟨x, rfl, hx⟩ := ab_f0 g2.1
        have hy0 : ¬ y = 0 := by
          intro he
          subst he
          have b0 := hy.1
          have b1 := hy.2
          simp only [Int32.toInt_zero] at b0 b1
          omega
        exact ⟨.int (x - x / y * y) :: s, by simp only [px_alu, px_iiz, hy0, if_false], ⟨⟨rfl, (ab_i32 _).1, (ab_i32 _).2⟩, ab_o_none _ _ _ _⟩, k2⟩
      · cases h
    · cases h
  · exact ab_alu_ok h hs
