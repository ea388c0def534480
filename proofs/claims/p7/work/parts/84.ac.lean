section mg_0
/-! A SECOND ABSTRACT INTERPRETER: bounds over a fixed heap G, with overrides of fields, ghosts of the arguments, flags, counters; loops and contracts come behind it. -/
/-- an override: cell, field, what is known -/
abbrev ac_O : Type := Nat × Nat × ab_F
/-- locals, stack, overrides, ghosts' bounds, flags, counters -/
abbrev ac_S : Type := List (Nat × ab_V) × List ab_V × List ac_O × List (Int × Int) × List Nat × List (Nat × Int)
def ac_fv (hp : px_H) (c k : Nat) : Option Value := match hp[c]? with
  | some (.inr (_, fs)) => fs[k]?
  | _ => none
def ac_ov (ov : List ac_O) (hp : px_H) : Prop := ∀ q ∈ ov, ∀ v, ac_fv hp q.1 q.2.1 = some v → ab_f q.2.2 v
def ac_rl (γ : Nat → Int) (rl : List (Nat × Int)) (lv : List (Nat × Value)) : Prop := ∀ q ∈ rl, ∃ x : Int32, px_find q.1 lv = some (.int x) ∧ x.toInt = γ q.1 + q.2
def ac_s (G : List ab_C) (Φ : Nat → px_H → Prop) (xs : Nat → Int32) (γ : Nat → Int) (A : ac_S) (lv : List (Nat × Value)) (st : List Value) (hp : px_H) : Prop :=
  ab_lv xs hp A.1 lv ∧ ab_st xs lv hp A.2.1 st ∧ ab_h G hp ∧ ac_ov A.2.2.1 hp ∧ ab_x A.2.2.2.1 xs ∧ (∀ i ∈ A.2.2.2.2.1, Φ i hp) ∧ ac_rl γ A.2.2.2.2.2 lv
/-- what was written lies in these fields and these arrays -/
def px_fr (ws : List (Nat × Nat)) (wa : List Nat) (hp hp' : px_H) : Prop :=
  (∀ (c : Nat) (q : Nat × vp_A), c ∉ wa → hp[c]? = some (.inl q) → hp'[c]? = some (.inl q)) ∧ ∀ (c ci : Nat) (vs : List Value), hp[c]? = some (.inr (ci, vs)) → ∃ vs' : List Value, hp'[c]? = some (.inr (ci, vs')) ∧ vs'.length = vs.length ∧ ∀ k, (c, k) ∉ ws → vs'[k]? = vs[k]?
theorem px_fr_rf (ws : List (Nat × Nat)) (wa : List Nat) (hp : px_H) : px_fr ws wa hp hp := ⟨fun _ _ _ h => h, fun _ _ vs h => ⟨vs, h, rfl, fun _ _ => rfl⟩⟩
theorem px_fr_tr {ws : List (Nat × Nat)} {wa : List Nat} {h1 h2 h3 : px_H} (a : px_fr ws wa h1 h2) (b : px_fr ws wa h2 h3) : px_fr ws wa h1 h3 := by
  refine ⟨fun c q hc h => b.1 c q hc (a.1 c q hc h), fun c ci vs h => ?_⟩
  obtain ⟨vs', e1, e2, e3⟩ := a.2 c ci vs h
  obtain ⟨vs'', f1, f2, f3⟩ := b.2 c ci vs' e1
  exact ⟨vs'', f1, f2.trans e2, fun k hk => (f3 k hk).trans (e3 k hk)⟩
theorem px_fr_mono {ws ws' : List (Nat × Nat)} {wa wa' : List Nat} {h1 h2 : px_H} (a : px_fr ws wa h1 h2) (e1 : ∀ q ∈ ws, q ∈ ws') (e2 : ∀ q ∈ wa, q ∈ wa') : px_fr ws' wa' h1 h2 := by
  refine ⟨fun c q hc h => a.1 c q (fun h9 => hc (e2 _ h9)) h, fun c ci vs h => ?_⟩
  obtain ⟨vs', f1, f2, f3⟩ := a.2 c ci vs h
  exact ⟨vs', f1, f2, fun k hk => f3 k (fun h9 => hk (e1 _ h9))⟩
def ab_le (a f : ab_F) : Bool :=
  match a.1 with
  | 0 => Nat.beq f.1 0 && (decide (f.2.1 ≤ a.2.1) && decide (a.2.2.1 ≤ f.2.2.1))
  | 1 => Nat.beq f.1 1 && (decide (f.2.1 ≤ a.2.1) && decide (a.2.2.1 ≤ f.2.2.1))
  | 2 => Nat.beq f.1 2 && a.2.2.2.all (fun c => f.2.2.2.any (fun d => Nat.beq c d))
  | _ => false
theorem ab_le_ok {a f : ab_F} {v : Value} (h : ab_le a f = true) (hv : ab_f a v) : ab_f f v := by
  obtain ⟨k, a1, a2, r⟩ := a
  obtain ⟨k', f1, f2, r'⟩ := f
  unfold ab_le at h
  split at h
  · rename_i hk
    simp only at hk
    subst hk
    simp only [Bool.and_eq_true, decide_eq_true_eq] at h
    obtain ⟨x, rfl, hx⟩ := ab_f0 hv
    have b0 := hx.1
    have b1 := hx.2
    simp only at b0 b1
    exact ⟨Nat.eq_of_beq_eq_true h.1, Int.le_trans h.2.1 b0, Int.le_trans b1 h.2.2⟩
  · rename_i hk
    simp only at hk
    subst hk
    simp only [Bool.and_eq_true, decide_eq_true_eq] at h
    obtain ⟨x, rfl, hx⟩ := ab_f1 hv
    have b0 := hx.1
    have b1 := hx.2
    simp only at b0 b1
    exact ⟨Nat.eq_of_beq_eq_true h.1, Int.le_trans h.2.1 b0, Int.le_trans b1 h.2.2⟩
  · rename_i hk
    simp only at hk
    subst hk
    simp only [Bool.and_eq_true, List.all_eq_true, List.any_eq_true] at h
    obtain ⟨x, rfl, hx⟩ := ab_f2 hv
    obtain ⟨d, hd, he⟩ := h.2 x hx
    rw [Nat.eq_of_beq_eq_true he]
    exact ⟨Nat.eq_of_beq_eq_true h.1, hd⟩
  · cases h
/-! fields -/
def ac_fo (c k : Nat) : List ac_O → Option ab_F
  | [] => none
  | q :: r => match Nat.beq q.1 c && Nat.beq q.2.1 k with
    | true => some q.2.2
    | false => ac_fo c k r
def ac_fF (G : List ab_C) (ov : List ac_O) (c k : Nat) : Option ab_F := match ac_fo c k ov with
  | some f => some f
  | none => match G[c]? with
    | some (.inl (_, fs)) => fs[k]?
    | _ => none
theorem ac_fo_mem {c k : Nat} {ov : List ac_O} {f : ab_F} (h : ac_fo c k ov = some f) : (c, k, f) ∈ ov := by
  induction ov with
  | nil => cases h
  | cons q r ih =>
    unfold ac_fo at h
    split at h
    · rename_i hq
      simp only [Bool.and_eq_true] at hq
      cases h
      obtain ⟨q1, q2, q3⟩ := q
      have e1 := Nat.eq_of_beq_eq_true hq.1
      have e2 := Nat.eq_of_beq_eq_true hq.2
      simp only at e1 e2
      subst e1 e2
      exact List.mem_cons_self
    · exact List.mem_cons_of_mem _ (ih h)
theorem ac_cell {G : List ab_C} {hp : px_H} (hG : ab_h G hp) {c : Nat} {a : ab_C} (h : G[c]? = some a) : ∃ x, hp[c]? = some x ∧ ab_c a x := by
  have hlt := (List.getElem?_eq_some_iff.mp h).1
  rw [hG.1] at hlt
  exact ⟨hp[c], List.getElem?_eq_getElem hlt, hG.2 _ _ _ h (List.getElem?_eq_getElem hlt)⟩
theorem ac_obj {G : List ab_C} {hp : px_H} (hG : ab_h G hp) {c ci : Nat} {fs : List ab_F} (h : G[c]? = some (.inl (ci, fs))) : ∃ vs, hp[c]? = some (.inr (ci, vs)) ∧ fs.length = vs.length ∧ ∀ (k : Nat) (f : ab_F) (v : Value), fs[k]? = some f → vs[k]? = some v → ab_f f v := by
  obtain ⟨x, hx, hc⟩ := ac_cell hG h
  cases x with
  | inl q => exact absurd hc (by simp [ab_c])
  | inr q =>
    obtain ⟨ci', vs⟩ := q
    obtain ⟨rfl, h1, h2⟩ := hc
    exact ⟨vs, hx, h1, h2⟩
theorem ac_fF_ok {G : List ab_C} {hp : px_H} {ov : List ac_O} {c k : Nat} {f : ab_F} {v : Value} (hG : ab_h G hp) (ho : ac_ov ov hp) (h : ac_fF G ov c k = some f) (hv : ac_fv hp c k = some v) : ab_f f v := by
  unfold ac_fF at h
  split at h
  · rename_i g hg
    cases h
    exact ho _ (ac_fo_mem hg) v hv
  · split at h
    · rename_i ci fs hc
      obtain ⟨vs, hx, -, hall⟩ := ac_obj hG hc
      unfold ac_fv at hv
      rw [hx] at hv
      exact hall _ _ _ h hv
    · cases h
def ac_f1 (G : List ab_C) (ci k c : Nat) : Option ab_F := match G[c]? with
  | some (.inl (ci', fs)) => match Nat.beq ci' ci with
    | true => fs[k]?
    | false => none
  | _ => none
theorem ac_f1_ok {G : List ab_C} {hp : px_H} {ci k c : Nat} {f : ab_F} (hG : ab_h G hp) (h : ac_f1 G ci k c = some f) : ∃ vs v, hp[c]? = some (.inr (ci, vs)) ∧ vs[k]? = some v ∧ ab_f f v ∧ k < vs.length := by
  unfold ac_f1 at h
  split at h
  · rename_i ci' fs hc
    split at h
    · rename_i hci
      have := Nat.eq_of_beq_eq_true hci
      subst this
      obtain ⟨vs, hx, hlen, hall⟩ := ac_obj hG hc
      have hlt : k < vs.length := by rw [← hlen]; exact (List.getElem?_eq_some_iff.mp h).1
      exact ⟨vs, vs[k]'hlt, hx, List.getElem?_eq_getElem hlt, hall _ _ _ h (List.getElem?_eq_getElem hlt), hlt⟩
    · cases h
  · cases h
def ac_fm (G : List ab_C) (ci k : Nat) : List Nat → Option ab_F
  | [] => none
  | c :: r => match r with
    | [] => ac_f1 G ci k c
    | _ => match ac_f1 G ci k c, ac_fm G ci k r with
      | some f, some g => match Nat.beq f.1 g.1 with
        | true => some (ab_join f g)
        | false => none
      | _, _ => none
theorem ac_fm_ok {G : List ab_C} {hp : px_H} {ci k : Nat} (hG : ab_h G hp) : ∀ {cs : List Nat} {f : ab_F} {c : Nat}, ac_fm G ci k cs = some f → c ∈ cs → ∃ vs v, hp[c]? = some (.inr (ci, vs)) ∧ vs[k]? = some v ∧ ab_f f v := by
  intro cs
  induction cs with
  | nil => intro f c h; cases h
  | cons d r ih =>
    intro f c h hc
    unfold ac_fm at h
    split at h
    · cases List.mem_singleton.mp hc
      obtain ⟨vs, v, e1, e2, e3, -⟩ := ac_f1_ok hG h
      exact ⟨vs, v, e1, e2, e3⟩
    · split at h
      · rename_i f1 g1 hf hg
        split at h
        · rename_i hk
          cases h
          rcases List.mem_cons.mp hc with rfl | hc
          · obtain ⟨vs, v, e1, e2, e3, -⟩ := ac_f1_ok hG hf
            exact ⟨vs, v, e1, e2, ab_join_l e3⟩
          · obtain ⟨vs, v, e1, e2, e3⟩ := ih hg hc
            exact ⟨vs, v, e1, e2, ab_join_r (Nat.eq_of_beq_eq_true hk) e3⟩
        · cases h
      · cases h
/-! refinement -/
def ac_bnd (G : List ab_C) (A : ac_S) (l : ab_L) : Option ab_B :=
  match l with
  | (0, j, _) => match px_find j A.1 with
    | some ((k, a1, a2, _), _) => if Nat.beq k 0 || Nat.beq k 1 then some (a1, a2) else none
    | none => none
  | (1, c, k) => match ac_fF G A.2.2.1 c k with
    | some (k', a1, a2, _) => if Nat.beq k' 0 || Nat.beq k' 1 then some (a1, a2) else none
    | none => none
  | (2, j, _) => A.2.2.2.1[j]?
  | _ => none
def ac_set (G : List ab_C) (A : ac_S) (l : ab_L) (q : ab_B) : ac_S :=
  match l with
  | (0, j, _) => (A.1.map (ab_setl q j), A.2)
  | (1, c, k) => match ac_fF G A.2.2.1 c k with
    | some (k', _, _, r) => (A.1, A.2.1, (c, k, k', q.1, q.2, r) :: A.2.2.1, A.2.2.2)
    | none => A
  | (2, j, _) => (A.1, A.2.1, A.2.2.1, A.2.2.2.1.set j q, A.2.2.2.2)
  | _ => A
def ac_refine (G : List ab_C) (A : ac_S) (o : Option ab_L) (q : ab_B) : ac_S :=
  match o with
  | none => A
  | some l => match ac_bnd G A l with
    | none => A
    | some b => ac_set G A l (ab_meet b q)
section ac_s1
variable {G : List ab_C} {Φ : Nat → px_H → Prop} {xs : Nat → Int32} {γ : Nat → Int} {A : ac_S} {lv : List (Nat × Value)} {st : List Value} {hp : px_H}
theorem ac_at_fv (c k : Nat) : ab_at xs lv hp (1, c, k) = ac_fv hp c k := rfl
theorem ac_bnd_ok (hA : ac_s G Φ xs γ A lv st hp) {l : ab_L} {b : ab_B} (h : ac_bnd G A l = some b) {w : Value} (hw : ab_at xs lv hp l = some w) {z : Int} (hz : ab_num w = some z) : ab_in b z := by
  obtain ⟨h1, h2, h3, h4, h5, h6, h7⟩ := hA
  unfold ac_bnd at h
  split at h
  · split at h
    · rename_i j _ k a1 a2 r o hf
      split at h
      · cases h
        obtain ⟨v, hv, hav⟩ := h1 _ _ (px_find_mem hf)
        simp only [ab_at] at hw
        rw [hv] at hw
        cases hw
        exact ab_num_f hav.1 hz
      · cases h
    · cases h
  · split at h
    · rename_i c k k' a1 a2 r hf
      split at h
      · cases h
        exact ab_num_f (ac_fF_ok h3 h4 hf hw) hz
      · cases h
    · cases h
  · simp only [ab_at] at hw
    cases hw
    cases hz
    exact h5 _ _ h
  · cases h
theorem ac_refine_ok (hA : ac_s G Φ xs γ A lv st hp) {o : Option ab_L} {q : ab_B} (ho : ∀ l, o = some l → ∃ w z, ab_at xs lv hp l = some w ∧ ab_num w = some z ∧ ab_in q z) : ac_s G Φ xs γ (ac_refine G A o q) lv st hp := by
  unfold ac_refine
  split
  · exact hA
  · rename_i l
    split
    · exact hA
    · rename_i b hb
      obtain ⟨w, z, hw, hz, hq⟩ := ho l rfl
      have hin := ab_meet_in (ac_bnd_ok hA hb hw hz) hq
      obtain ⟨h1, h2, h3, h4, h5, h6, h7⟩ := hA
      unfold ac_set
      split
      · rename_i j _
        refine ⟨fun j' a ha => ?_, h2, h3, h4, h5, h6, h7⟩
        obtain ⟨⟨j0, a0⟩, hm, he⟩ := List.mem_map.mp ha
        have hj0 : j0 = j' := (ab_setl_fst (ab_meet b q) j (j0, a0)).symm.trans (by rw [he])
        subst hj0
        obtain ⟨v, hv, hav⟩ := h1 _ _ hm
        have ha2 : a = (ab_setl (ab_meet b q) j (j0, a0)).2 := by rw [he]
        subst ha2
        refine ⟨v, hv, ?_⟩
        unfold ab_setl
        split
        · rename_i hj
          have := Nat.eq_of_beq_eq_true hj
          simp only at this
          subst this
          simp only [ab_at] at hw
          rw [hv] at hw
          cases hw
          obtain ⟨⟨k, a1, a2, r⟩, o⟩ := a0
          exact ⟨ab_f_num hav.1 hz hin, hav.2⟩
        · exact hav
      · rename_i c k
        split
        · rename_i k' a1 a2 r hf
          refine ⟨h1, h2, h3, fun q9 hq9 v hv => ?_, h5, h6, h7⟩
          rcases List.mem_cons.mp hq9 with he | hq9
          · subst he
            rw [ac_at_fv] at hw
            simp only at hv
            rw [hw] at hv
            cases hv
            exact ab_f_num (ac_fF_ok h3 h4 hf hw) hz hin
          · exact h4 q9 hq9 v hv
        · exact ⟨h1, h2, h3, h4, h5, h6, h7⟩
      · rename_i j _
        refine ⟨h1, h2, h3, h4, fun j' q' hq' => ?_, h6, h7⟩
        by_cases hj : j' = j
        · subst hj
          have hlt : j' < A.2.2.2.1.length := by
            have := (List.getElem?_eq_some_iff.mp hq').1
            rwa [List.length_set] at this
          rw [List.getElem?_set_self hlt] at hq'
          cases hq'
          simp only [ab_at] at hw
          cases hw
          cases hz
          exact hin
        · rw [List.getElem?_set_ne (Ne.symm hj)] at hq'
          exact h5 _ _ hq'
      · exact ⟨h1, h2, h3, h4, h5, h6, h7⟩
end ac_s1
def ac_if (G : List ab_C) (c : ClassFile.Cond) (x y : ab_V) (A : ac_S) : Option ac_S :=
  let q := ab_cnd c (x.1.2.1, x.1.2.2.1) (y.1.2.1, y.1.2.2.1)
  if q.1.1 ≤ q.1.2 ∧ q.2.1 ≤ q.2.2 then some (ac_refine G (ac_refine G A x.2 q.1) y.2 q.2) else none
def ac_to (G : List ab_C) (pc : Nat) (c : ClassFile.Cond) (x y : ab_V) (A : ac_S) : List (Nat × ac_S) := match ac_if G c x y A with
  | some A' => [(pc, A')]
  | none => []
def ac_ld (G : List ab_C) (A : ac_S) (j : Nat) (a : ab_V) : ab_V :=
  match ab_isn a.1 with
  | false => a
  | true => match a.2 with
    | some l => match ac_bnd G A l with
      | some b => ((a.1.1, (ab_meet (a.1.2.1, a.1.2.2.1) b).1, (ab_meet (a.1.2.1, a.1.2.2.1) b).2, a.1.2.2.2), some l)
      | none => a
    | none => (a.1, some (0, j, 0))
section ac_s2
variable {G : List ab_C} {Φ : Nat → px_H → Prop} {xs : Nat → Int32} {γ : Nat → Int} {A : ac_S} {lv : List (Nat × Value)} {st : List Value} {hp : px_H}
theorem ac_to_ok (hA : ac_s G Φ xs γ A lv st hp) {c : ClassFile.Cond} {x y : ab_V} {v w : Value} {a b : Int} (hx : ab_v xs lv hp x v) (hy : ab_v xs lv hp y w) (hv : ab_num v = some a) (hw : ab_num w = some b) (hr : ab_rel c a b) (q : Nat) : ∃ A', (q, A') ∈ ac_to G q c x y A ∧ ac_s G Φ xs γ A' lv st hp := by
  obtain ⟨⟨kx, x1, x2, rx⟩, ox⟩ := x
  obtain ⟨⟨ky, y1, y2, ry⟩, oy⟩ := y
  have h := ab_cnd_ok hr (ab_num_f hx.1 hv) (ab_num_f hy.1 hw)
  unfold ac_to ac_if
  simp only
  rw [if_pos ⟨Int.le_trans h.1.1 h.1.2, Int.le_trans h.2.1 h.2.2⟩]
  refine ⟨_, List.mem_singleton.mpr rfl, ac_refine_ok (ac_refine_ok hA ?_) ?_⟩
  · intro l hl
    obtain ⟨u, hu, e⟩ := hx.2 l hl
    exact ⟨u, a, hu, by rw [e, hv], h.1⟩
  · intro l hl
    obtain ⟨u, hu, e⟩ := hy.2 l hl
    exact ⟨u, b, hu, by rw [e, hw], h.2⟩
theorem ac_toc_ok (hA : ac_s G Φ xs γ A lv st hp) {c : ClassFile.Cond} {x : ab_V} {v : Value} {a b : Int} (hx : ab_v xs lv hp x v) (hv : ab_num v = some a) (hr : ab_rel c a b) (q : Nat) : ∃ A', (q, A') ∈ ac_to G q c x (ab_const b) A ∧ ac_s G Φ xs γ A' lv st hp := by
  obtain ⟨⟨kx, x1, x2, rx⟩, ox⟩ := x
  have h := ab_cnd_ok hr (ab_num_f hx.1 hv) (b := (b, b)) ⟨Int.le_refl _, Int.le_refl _⟩
  unfold ac_to ac_if ab_const
  simp only
  rw [if_pos ⟨Int.le_trans h.1.1 h.1.2, Int.le_trans h.2.1 h.2.2⟩]
  refine ⟨_, List.mem_singleton.mpr rfl, ac_refine_ok (ac_refine_ok hA ?_) (fun l hl => by cases hl)⟩
  intro l hl
  obtain ⟨u, hu, e⟩ := hx.2 l hl
  exact ⟨u, a, hu, by rw [e, hv], h.1⟩
theorem ac_ld_ok (hA : ac_s G Φ xs γ A lv st hp) {j : Nat} {a : ab_V} {v : Value} (hv : px_find j lv = some v) (hav : ab_v xs lv hp a v) : ab_v xs lv hp (ac_ld G A j a) v := by
  unfold ac_ld
  split
  · exact hav
  · rename_i hn
    split
    · rename_i l hl
      split
      · rename_i b hb
        obtain ⟨⟨k, a1, a2, r⟩, o⟩ := a
        obtain ⟨z, hz⟩ := ab_num_k hav.1 hn
        obtain ⟨w, hw, e⟩ := hav.2 l hl
        have h1 := ab_meet_in (ab_num_f hav.1 hz) (ac_bnd_ok hA hb hw (by rw [e]; exact hz))
        refine ⟨ab_f_num hav.1 hz h1, fun l' hl' => ?_⟩
        cases hl'
        exact ⟨w, hw, e⟩
      · exact hav
    · refine ⟨hav.1, fun l hl => ?_⟩
      cases hl
      exact ⟨v, hv, rfl⟩
end ac_s2
/-! arithmetic: what the first one had not -/
def ab_rmul (a b : ab_B) : ab_B := if 0 ≤ a.1 ∧ 0 ≤ b.1 then ab_fit ab_topi (a.1 * b.1, a.2 * b.2) else ab_topi
theorem ab_rmul_ok (a b : ab_B) (x y : Int32) (ha : ab_in a x.toInt) (hb : ab_in b y.toInt) : ab_in (ab_rmul a b) (x * y).toInt := by
  unfold ab_rmul
  split
  · rename_i h0
    unfold ab_fit
    split
    · rename_i h
      simp only [ab_topi] at h
      have h1 := ha.1; have h2 := ha.2; have h3 := hb.1; have h4 := hb.2
      have e1 : a.1 * b.1 ≤ x.toInt * y.toInt := Int.mul_le_mul h1 h3 h0.2 (Int.le_trans h0.1 h1)
      have e2 : x.toInt * y.toInt ≤ a.2 * b.2 := Int.mul_le_mul h2 h4 (Int.le_trans h0.2 h3) (Int.le_trans (Int.le_trans h0.1 h1) h2)
      rw [Int32.toInt_mul, ab_bmod32 (by omega) (by omega)]
      exact ⟨e1, e2⟩
    · exact ab_i32 _
  · exact ab_i32 _
/-- the least 2^k - 1 that is not below -/
def ab_p2 (m : Int) : Int := 2 ^ (m.toNat.log2 + 1) - 1
def ab_ror (a b : ab_B) : ab_B := if 0 ≤ a.1 ∧ 0 ≤ b.1 then ab_fit ab_topi (0, ab_p2 (max a.2 b.2)) else ab_topi
theorem ab_ror_ok (a b : ab_B) (x y : Int32) (ha : ab_in a x.toInt) (hb : ab_in b y.toInt) : ab_in (ab_ror a b) (x ||| y).toInt := by
  unfold ab_ror
  split
  · rename_i h0
    unfold ab_fit
    split
    · rename_i h
      simp only [ab_topi] at h
      have h1 := ha.1; have h2 := ha.2; have h3 := hb.1; have h4 := hb.2
      obtain ⟨e1, e2⟩ := ab_n32 x (by omega)
      obtain ⟨e3, e4⟩ := ab_n32 y (by omega)
      have hm : (max a.2 b.2).toNat < 2 ^ ((max a.2 b.2).toNat.log2 + 1) := Nat.lt_log2_self
      have hx : x.toBitVec.toNat < 2 ^ ((max a.2 b.2).toNat.log2 + 1) := by omega
      have hy : y.toBitVec.toNat < 2 ^ ((max a.2 b.2).toNat.log2 + 1) := by omega
      have ho := Nat.or_lt_two_pow hx hy
      have hb9 : (x ||| y).toBitVec.toNat = x.toBitVec.toNat ||| y.toBitVec.toNat := by rw [Int32.toBitVec_or, BitVec.toNat_or]
      rw [← hb9] at ho
      have hp : (2 : Int) ^ ((max a.2 b.2).toNat.log2 + 1) = ((2 ^ ((max a.2 b.2).toNat.log2 + 1) : Nat) : Int) := by simp
      unfold ab_p2 at h ⊢
      rw [hp] at h ⊢
      generalize 2 ^ ((max a.2 b.2).toNat.log2 + 1) = N at *
      have e5 := ab_b32 (x ||| y) (by omega)
      exact ⟨by simp only; omega, by simp only; omega⟩
    · exact ab_i32 _
  · exact ab_i32 _
def ab_rsl (a b : ab_B) : ab_B := if 0 ≤ a.1 ∧ 0 ≤ b.1 ∧ b.2 ≤ 31 then ab_fit ab_topi (0, a.2 * 2 ^ b.2.toNat) else ab_rshl ab_topi a b
theorem ab_rsl_ok (a b : ab_B) (x y : Int32) (ha : ab_in a x.toInt) (hb : ab_in b y.toInt) : ab_in (ab_rsl a b) (x <<< (y &&& 31)).toInt := by
  unfold ab_rsl
  split
  · rename_i h0
    unfold ab_fit
    split
    · rename_i h
      simp only [ab_topi] at h
      have h1 := ha.1; have h2 := ha.2; have h3 := hb.1; have h4 := hb.2
      obtain ⟨e1, e2⟩ := ab_n32 x (by omega)
      have hk : ((y &&& 31).toBitVec.smod 32).toNat ≤ b.2.toNat := by
        obtain ⟨n, hn⟩ : ∃ n : Nat, y.toInt = n := ⟨y.toInt.toNat, by omega⟩
        have hn31 : n < 32 := by omega
        have hy : y = Int32.ofNat n := by
          rw [← Int32.toInt_inj, hn, Int32.toInt_ofNat', show Int32.size = 4294967296 from rfl]
          symm
          apply Int.bmod_eq_of_le <;> omega
        have hd : ∀ m : Nat, m < 32 → ((Int32.ofNat m &&& 31).toBitVec.smod 32).toNat = m := by decide +kernel
        rw [hy, hd n hn31]
        omega
      have e3 := pk_shl x (y &&& 31) _ rfl
      have e4 : x.toBitVec.toNat * 2 ^ ((y &&& 31).toBitVec.smod 32).toNat ≤ a.2.toNat * 2 ^ b.2.toNat := Nat.mul_le_mul (by omega) (Nat.pow_le_pow_right (by decide) hk)
      have e5 : ((a.2.toNat * 2 ^ b.2.toNat : Nat) : Int) = a.2 * 2 ^ b.2.toNat := by
        rw [Int.natCast_mul, Int.natCast_pow, Int.toNat_of_nonneg (by omega)]
        rfl
      generalize x.toBitVec.toNat * 2 ^ ((y &&& 31).toBitVec.smod 32).toNat = N at *
      rw [← e5] at h ⊢
      generalize a.2.toNat * 2 ^ b.2.toNat = N2 at *
      have e6 : N % 2 ^ 32 = N := Nat.mod_eq_of_lt (by omega)
      rw [e6] at e3
      have e7 := ab_b32 (x <<< (y &&& 31)) (by omega)
      exact ⟨by simp only; omega, by simp only; omega⟩
    · exact ab_i32 _
  · exact ab_rshl_i a b x y ha hb
def ac_lz : List ab_V → Option (List ab_V)
  | ((1, b1, b2, _), _) :: ((1, _, _, _), _) :: r => if 0 < b1 ∨ b2 < 0 then some (((1, ab_topl.1, ab_topl.2, []), none) :: r) else none
  | _ => none
def ac_iz : List ab_V → Option (List ab_V)
  | ((0, b1, b2, _), _) :: ((0, _, _, _), _) :: r => if 0 < b1 ∨ b2 < 0 then some (((0, ab_topi.1, ab_topi.2, []), none) :: r) else none
  | _ => none
def ac_alu (i : Instr) (st : List ab_V) : Option (List ab_V) :=
  match i with
  | .imul => ab_ii (fun x y => x * y) ab_rmul st
  | .ior => ab_ii (fun x y => x ||| y) ab_ror st
  | .ishl => ab_ii (fun x y => x <<< (y &&& 31)) ab_rsl st
  | .ldiv => ac_lz st
  | .idiv => ac_iz st
  | .irem => ac_iz st
  | i => ab_alu i st
theorem ac_alu_ok {xs : Nat → Int32} {lv : List (Nat × Value)} {hp : px_H} {i : Instr} {as as' : List ab_V} {st : List Value} (h : ac_alu i as = some as') (hs : ab_st xs lv hp as st) : ∃ st', px_alu i st = some st' ∧ ab_st xs lv hp as' st' := by
  unfold ac_alu at h
  split at h
  · unfold ab_ii at h
    split at h
    · cases h
      obtain ⟨v, s0, rfl, g1, k1⟩ := ab_st_cons hs
      obtain ⟨u, s, rfl, g2, k2⟩ := ab_st_cons k1
      obtain ⟨y, rfl, hy⟩ := ab_f0 g1.1
      obtain ⟨x, rfl, hx⟩ := ab_f0 g2.1
      have hq := ab_bi_ok (f := fun x y => x * y) (rule := ab_rmul) ab_rmul_ok hx hy
      exact ⟨_, rfl, ⟨⟨rfl, hq.1, hq.2⟩, ab_o_none _ _ _ _⟩, k2⟩
    · cases h
  · unfold ab_ii at h
    split at h
    · cases h
      obtain ⟨v, s0, rfl, g1, k1⟩ := ab_st_cons hs
      obtain ⟨u, s, rfl, g2, k2⟩ := ab_st_cons k1
      obtain ⟨y, rfl, hy⟩ := ab_f0 g1.1
      obtain ⟨x, rfl, hx⟩ := ab_f0 g2.1
      have hq := ab_bi_ok (f := fun x y => x ||| y) (rule := ab_ror) ab_ror_ok hx hy
      exact ⟨_, rfl, ⟨⟨rfl, hq.1, hq.2⟩, ab_o_none _ _ _ _⟩, k2⟩
    · cases h
  · unfold ab_ii at h
    split at h
    · cases h
      obtain ⟨v, s0, rfl, g1, k1⟩ := ab_st_cons hs
      obtain ⟨u, s, rfl, g2, k2⟩ := ab_st_cons k1
      obtain ⟨y, rfl, hy⟩ := ab_f0 g1.1
      obtain ⟨x, rfl, hx⟩ := ab_f0 g2.1
      have hq := ab_bi_ok (f := fun x y => x <<< (y &&& 31)) (rule := ab_rsl) ab_rsl_ok hx hy
      exact ⟨_, rfl, ⟨⟨rfl, hq.1, hq.2⟩, ab_o_none _ _ _ _⟩, k2⟩
    · cases h
  · unfold ac_lz at h
    split at h
    · split at h
      · rename_i hb
        cases h
        obtain ⟨v, s0, rfl, g1, k1⟩ := ab_st_cons hs
        obtain ⟨u, s, rfl, g2, k2⟩ := ab_st_cons k1
        obtain ⟨y, rfl, hy⟩ := ab_f1 g1.1
        obtain ⟨x, rfl, hx⟩ := ab_f1 g2.1
        have hy0 : ¬ y = 0 := by
          intro he
          subst he
          have b0 := hy.1
          have b1 := hy.2
          simp only [Int64.toInt_zero] at b0 b1
          omega
        exact ⟨.long (x / y) :: s, by simp only [px_alu, px_llz, hy0, if_false], ⟨⟨rfl, (ab_i64 _).1, (ab_i64 _).2⟩, ab_o_none _ _ _ _⟩, k2⟩
      · cases h
    · cases h
  · unfold ac_iz at h
    split at h
    · split at h
      · rename_i hb
        cases h
        obtain ⟨v, s0, rfl, g1, k1⟩ := ab_st_cons hs
        obtain ⟨u, s, rfl, g2, k2⟩ := ab_st_cons k1
        obtain ⟨y, rfl, hy⟩ := ab_f0 g1.1
        obtain ⟨x, rfl, hx⟩ := ab_f0 g2.1
        have hy0 : ¬ y = 0 := by
          intro he
          subst he
          have b0 := hy.1
          have b1 := hy.2
          simp only [Int32.toInt_zero] at b0 b1
          omega
        exact ⟨.int (x / y) :: s, by simp only [px_alu, px_iiz, hy0, if_false], ⟨⟨rfl, (ab_i32 _).1, (ab_i32 _).2⟩, ab_o_none _ _ _ _⟩, k2⟩
      · cases h
    · cases h
  · unfold ac_iz at h
    split at h
    · split at h
      · rename_i hb
        cases h
        obtain ⟨v, s0, rfl, g1, k1⟩ := ab_st_cons hs
        obtain ⟨u, s, rfl, g2, k2⟩ := ab_st_cons k1
        obtain ⟨y, rfl, hy⟩ := ab_f0 g1.1
        obtain ⟨x, rfl, hx⟩ := ab_f0 g2.1
        have hy0 : ¬ y = 0 := by
          intro he
          subst he
          have b0 := hy.1
          have b1 := hy.2
          simp only [Int32.toInt_zero] at b0 b1
          omega
        exact ⟨.int (x - x / y * y) :: s, by simp only [px_alu, px_iiz, hy0, if_false], ⟨⟨rfl, (ab_i32 _).1, (ab_i32 _).2⟩, ab_o_none _ _ _ _⟩, k2⟩
      · cases h
    · cases h
  · exact ab_alu_ok h hs
end mg_0

section mg_1
/-! one step of the second interpreter -/
def ac_has (ws : List (Nat × Nat)) (c k : Nat) : Bool := ws.any (fun q => Nat.beq q.1 c && Nat.beq q.2 k)
def ac_in (c : Nat) (l : List Nat) : Bool := l.any (fun d => Nat.beq d c)
theorem ac_has_ok {ws : List (Nat × Nat)} {c k : Nat} (h : ac_has ws c k = true) : (c, k) ∈ ws := by
  simp only [ac_has, List.any_eq_true, Bool.and_eq_true] at h
  obtain ⟨⟨a, b⟩, hm, h1, h2⟩ := h
  have e1 := Nat.eq_of_beq_eq_true h1
  have e2 := Nat.eq_of_beq_eq_true h2
  simp only at e1 e2
  subst e1 e2
  exact hm
theorem ac_in_ok {c : Nat} {l : List Nat} (h : ac_in c l = true) : c ∈ l := by
  simp only [ac_in, List.any_eq_true] at h
  obtain ⟨d, hm, h1⟩ := h
  rw [← Nat.eq_of_beq_eq_true h1]
  exact hm
theorem ac_in_no {c : Nat} {l : List Nat} (h : ac_in c l = false) : c ∉ l := by
  intro hm
  have : ac_in c l = true := by
    simp only [ac_in, List.any_eq_true]
    exact ⟨c, hm, Nat.beq_refl c⟩
  rw [this] at h
  cases h
def ac_kf (cs : List Nat) (k : Nat) (l : ab_L) : Bool := Nat.beq l.1 1 && (ac_in l.2.1 cs && Nat.beq l.2.2 k)
def ac_flt (FA : Nat → List Nat) (cs : List Nat) (fl : List Nat) : List Nat := fl.filter (fun i => cs.all (fun c => !(ac_in c (FA i))))
def ac_a1 (T : px_T) (G : List ab_C) (i : Instr) (i1 i2 : Int) (c : Nat) : Option ab_F := match G[c]? with
  | some (.inr (t, n, f)) => match T.1[t]? with
    | some ty => match ab_aty i ty f.1, decide (0 ≤ i1), decide (i2 < n) with
      | true, true, true => some f
      | _, _, _ => none
    | none => none
  | _ => none
def ac_am (T : px_T) (G : List ab_C) (i : Instr) (i1 i2 : Int) : List Nat → Option ab_F
  | [] => none
  | c :: r => match r with
    | [] => ac_a1 T G i i1 i2 c
    | _ => match ac_a1 T G i i1 i2 c, ac_am T G i i1 i2 r with
      | some f, some g => match Nat.beq f.1 g.1 with
        | true => some (ab_join f g)
        | false => none
      | _, _ => none
/-- may be stored there -/
def ac_w1 (T : px_T) (G : List ab_C) (wa : List Nat) (i : Instr) (i1 i2 : Int) (v : ab_F) (c : Nat) : Bool := match G[c]? with
  | some (.inr (t, n, f)) => match T.1[t]? with
    | some ty => ab_sty i ty f.1 v && (decide (0 ≤ i1) && (decide (i2 < n) && (ab_le v f && ac_in c wa)))
    | none => false
  | _ => false
def ac_p1 (G : List ab_C) (ws : List (Nat × Nat)) (ci k : Nat) (v : ab_F) (c : Nat) : Bool := match ac_f1 G ci k c with
  | some f => ab_le v f && ac_has ws c k
  | none => false
def ac_sto1 (A : ac_S) (j : Nat) (a : ab_V) (r : List ab_V) (rl : List (Nat × Int)) : ac_S :=
  ((j, ab_kill (ab_kl j) a) :: (A.1.filter (fun p => !(Nat.beq p.1 j) && !(Nat.beq (p.1 + 1) j && Nat.beq p.2.1.1 1))).map (fun p => (p.1, ab_kill (ab_kl j) p.2)), r.map (ab_kill (ab_kl j)), A.2.2.1, A.2.2.2.1, A.2.2.2.2.1, rl)
def ac_sto2 (A : ac_S) (j : Nat) (a : ab_V) (r : List ab_V) (rl : List (Nat × Int)) : ac_S :=
  ((j, ab_kill (ab_kl j) a) :: (A.1.filter (fun p => !(Nat.beq p.1 j) && (!(Nat.beq p.1 (j + 1)) && !(Nat.beq (p.1 + 1) j && Nat.beq p.2.1.1 1)))).map (fun p => (p.1, ab_kill (ab_kl j) p.2)), r.map (ab_kill (ab_kl j)), A.2.2.1, A.2.2.2.1, A.2.2.2.2.1, rl)
def ac_no (j : Nat) (rl : List (Nat × Int)) : List (Nat × Int) := rl.filter (fun q => !(Nat.beq q.1 j))
def ac_inc (j : Nat) (n : Int) (rl : List (Nat × Int)) : List (Nat × Int) := rl.map (fun q => match Nat.beq q.1 j with
  | true => (q.1, q.2 + n)
  | false => q)
def ac_aload (T : px_T) (G : List ab_C) (i : Instr) (pc : Nat) (A : ac_S) : Option (List (Nat × ac_S)) :=
  match A.2.1 with
  | ((0, i1, i2, _), _) :: ((2, _, _, cs), _) :: r => match ac_am T G i i1 i2 cs with
    | some f => some [(pc, (A.1, (f, none) :: r, A.2.2))]
    | none => none
  | _ => none
def ac_astore (T : px_T) (G : List ab_C) (FA : Nat → List Nat) (wa : List Nat) (i : Instr) (pc : Nat) (A : ac_S) : Option (List (Nat × ac_S)) :=
  match A.2.1 with
  | v :: ((0, i1, i2, _), _) :: ((2, _, _, cs), _) :: r => match cs.all (ac_w1 T G wa i i1 i2 v.1) with
    | true => some [(pc, (A.1, r, A.2.2.1, A.2.2.2.1, ac_flt FA cs A.2.2.2.2.1, A.2.2.2.2.2))]
    | false => none
  | _ => none
def ac_step (T : px_T) (G : List ab_C) (FA : Nat → List Nat) (ws : List (Nat × Nat)) (wa : List Nat) (M : px_M) (pc : Nat) (A : ac_S) : Option (List (Nat × ac_S)) :=
  match px_find pc (px_cd M) with
  | none => none
  | some (len, i) =>
    match ac_alu i A.2.1 with
    | some st' => some [(pc + len, (A.1, st', A.2.2))]
    | none =>
      let ldn (j k : Nat) : Option (List (Nat × ac_S)) := match px_find j A.1 with
        | some a => match Nat.beq a.1.1 k with
          | true => some [(pc + len, (A.1, ac_ld G A j a :: A.2.1, A.2.2))]
          | false => none
        | none => none
      let lda (j : Nat) : Option (List (Nat × ac_S)) := match px_find j A.1 with
        | some a => match Nat.beq a.1.1 2 with
          | true => some [(pc + len, (A.1, (a.1, none) :: A.2.1, A.2.2))]
          | false => none
        | none => none
      let st1 (j k : Nat) : Option (List (Nat × ac_S)) := match A.2.1 with
        | a :: r => match Nat.beq a.1.1 k && decide (j < px_ml M) with
          | true => some [(pc + len, ac_sto1 A j a r (ac_no j A.2.2.2.2.2))]
          | false => none
        | [] => none
      let st2 (j : Nat) : Option (List (Nat × ac_S)) := match A.2.1 with
        | a :: r => match Nat.beq a.1.1 1 && decide (j + 1 < px_ml M) with
          | true => some [(pc + len, ac_sto2 A j a r (ac_no (j + 1) (ac_no j A.2.2.2.2.2)))]
          | false => none
        | [] => none
      match i with
      | .iload j => ldn j 0
      | .iload_n j => ldn j 0
      | .lload j => ldn j 1
      | .lload_n j => ldn j 1
      | .aload j => lda j
      | .aload_n j => lda j
      | .istore j => st1 j 0
      | .istore_n j => st1 j 0
      | .astore j => st1 j 2
      | .astore_n j => st1 j 2
      | .lstore j => st2 j
      | .lstore_n j => st2 j
      | .iinc j n => match px_find j A.1, decide (j < px_ml M) with
        | some ((0, a1, a2, _), _), true =>
          let q := ab_bi (fun x y => x + y) (ab_radd ab_topi) (a1, a2) ((Int32.ofInt n).toInt, (Int32.ofInt n).toInt)
          some [(pc + len, ac_sto1 A j ((0, q.1, q.2, []), none) A.2.1 (match decide (-2147483648 ≤ a1 + (Int32.ofInt n).toInt) && decide (a2 + (Int32.ofInt n).toInt ≤ 2147483647) with
            | true => ac_inc j (Int32.ofInt n).toInt A.2.2.2.2.2
            | false => ac_no j A.2.2.2.2.2))]
        | _, _ => none
      | .ifCond c off => match A.2.1 with
        | ((0, x), o) :: r => some (ac_to G (px_tgt pc off) c ((0, x), o) (ab_const 0) (A.1, r, A.2.2) ++ ac_to G (pc + 3) (ab_neg c) ((0, x), o) (ab_const 0) (A.1, r, A.2.2))
        | _ => none
      | .if_icmp c off => match A.2.1 with
        | ((0, y), o') :: ((0, x), o) :: r => some (ac_to G (px_tgt pc off) c ((0, x), o) ((0, y), o') (A.1, r, A.2.2) ++ ac_to G (pc + 3) (ab_neg c) ((0, x), o) ((0, y), o') (A.1, r, A.2.2))
        | _ => none
      | .goto off => some [(px_tgt pc off, A)]
      | .ldc idx => match px_find idx (px_cp M) with
        | some (3, _, _, v) => some [(pc + len, (A.1, ab_const (Int32.ofInt v).toInt :: A.2.1, A.2.2))]
        | _ => none
      | .ldc_w idx => match px_find idx (px_cp M) with
        | some (3, _, _, v) => some [(pc + len, (A.1, ab_const (Int32.ofInt v).toInt :: A.2.1, A.2.2))]
        | _ => none
      | .ldc2_w idx => match px_find idx (px_cp M) with
        | some (4, _, _, v) => some [(pc + len, (A.1, ((1, (Int64.ofInt v).toInt, (Int64.ofInt v).toInt, []), none) :: A.2.1, A.2.2))]
        | _ => none
      | .tableswitch dflt lo hi offs => match A.2.1 with
        | ((0, x), o) :: r => match decide (offs.size = (hi - lo + 1).toNat) with
          | true => some ((List.range offs.size).flatMap (fun (t : Nat) => match offs[t]? with
              | some off => ac_to G (px_tgt pc off) .eq ((0, x), o) (ab_const (lo + (t : Int))) (A.1, r, A.2.2)
              | none => []) ++ (ac_to G (px_tgt pc dflt) .lt ((0, x), o) (ab_const lo) (A.1, r, A.2.2) ++ ac_to G (px_tgt pc dflt) .gt ((0, x), o) (ab_const hi) (A.1, r, A.2.2)))
          | false => none
        | _ => none
      | .lookupswitch dflt ps => match A.2.1 with
        | ((0, _), _) :: r => match decide (0 ≤ (pc : Int) + dflt) && ps.toList.all (fun q => decide (0 ≤ (pc : Int) + q.2)) with
          | true => some ((px_tgt pc dflt, (A.1, r, A.2.2)) :: ps.toList.map (fun q => (px_tgt pc q.2, (A.1, r, A.2.2))))
          | false => none
        | _ => none
      | .getfield idx => match px_find idx (px_cp M), A.2.1 with
        | some (0, ci, k, _), ((2, _, _, [c]), _) :: r => match ac_f1 G ci k c, ac_fF G A.2.2.1 c k with
          | some _, some f => some [(pc + len, (A.1, (f, match ab_isn f with
            | true => some (1, c, k)
            | false => none) :: r, A.2.2))]
          | _, _ => none
        | some (0, ci, k, _), ((2, _, _, cs), _) :: r => match ac_fm G ci k cs with
          | some f => some [(pc + len, (A.1, (f, none) :: r, A.2.2))]
          | none => none
        | _, _ => none
      | .putfield idx => match px_find idx (px_cp M), A.2.1 with
        | some (0, ci, k, fl), a :: ((2, _, _, cs), _) :: r => match T.2[ci]? with
          | some (_, tys) => match tys[k]?, decide (fl ≤ 2) with
            | some ty, true => match ab_fits ty a.1.1 && cs.all (ac_p1 G ws ci k a.1) with
              | true => some [(pc + len, (A.1.map (fun p => (p.1, ab_kill (ac_kf cs k) p.2)), r.map (ab_kill (ac_kf cs k)),
                  (match cs with
                    | [c] => (c, k, a.1) :: A.2.2.1.filter (fun q => !(Nat.beq q.2.1 k && ac_in q.1 cs))
                    | _ => A.2.2.1.filter (fun q => !(Nat.beq q.2.1 k && ac_in q.1 cs))), A.2.2.2.1, ac_flt FA cs A.2.2.2.2.1, A.2.2.2.2.2))]
              | false => none
            | _, _ => none
          | none => none
        | _, _ => none
      | .iaload => ac_aload T G i (pc + len) A
      | .baload => ac_aload T G i (pc + len) A
      | .laload => ac_aload T G i (pc + len) A
      | .aaload => ac_aload T G i (pc + len) A
      | .iastore => ac_astore T G FA wa i (pc + len) A
      | .bastore => ac_astore T G FA wa i (pc + len) A
      | .lastore => ac_astore T G FA wa i (pc + len) A
      | .lcmp => match A.2.1, px_find (pc + len) (px_cd M) with
        | ((1, y), o') :: ((1, x), o) :: r, some (3, .ifCond c off) => some (ac_to G (px_tgt (pc + len) off) c ((1, x), o) ((1, y), o') (A.1, r, A.2.2) ++ ac_to G (pc + len + 3) (ab_neg c) ((1, x), o) ((1, y), o') (A.1, r, A.2.2))
        | _, _ => none
      | _ => none
section ac_s3
variable {T : px_T} {X : Option (Nat × (Nat → Int32))} {P : List px_M} {G : List ab_C} {FA : Nat → List Nat} {Φ : Nat → px_H → Prop} {ws : List (Nat × Nat)} {wa : List Nat} {xs : Nat → Int32} {γ : Nat → Int} {A : ac_S} {lv : List (Nat × Value)} {st : List Value} {hp : px_H} {M : px_M} {pc : Nat} {outs : List (Nat × ac_S)}
/-- the flags speak of their arrays alone -/
def ac_Fl (FA : Nat → List Nat) (Φ : Nat → px_H → Prop) : Prop := ∀ (i : Nat) (hp hp' : px_H), (∀ c ∈ FA i, hp'[c]? = hp[c]?) → Φ i hp → Φ i hp'
def ac_R (T : px_T) (X : Option (Nat × (Nat → Int32))) (P : List px_M) (M : px_M) (G : List ab_C) (Φ : Nat → px_H → Prop) (ws : List (Nat × Nat)) (wa : List Nat) (xs : Nat → Int32) (γ : Nat → Int) (pc : Nat) (lv : List (Nat × Value)) (st : List Value) (hp : px_H) (outs : List (Nat × ac_S)) : Prop :=
  ∃ (pc' : Nat) (lv' : List (Nat × Value)) (st' : List Value) (hp' : px_H) (A' : ac_S), (pc', A') ∈ outs ∧ ac_s G Φ xs γ A' lv' st' hp' ∧ px_fr ws wa hp hp' ∧ ∃ k : Nat, ∀ (call : Nat → List Value → px_H → Option px_A) (N0 nc ns : Nat), px_its T X P call M N0 k (pc, lv, st, hp, nc, ns) = some (pc', lv', st', hp', nc, ns)
theorem ac_one {pc' : Nat} {lv' : List (Nat × Value)} {st' : List Value} {hp' : px_H} {A' : ac_S} (hm : (pc', A') ∈ outs) (hA : ac_s G Φ xs γ A' lv' st' hp') (hfr : px_fr ws wa hp hp') (h : ∀ (call : Nat → List Value → px_H → Option px_A) (N0 nc ns : Nat), px_step T X P call M N0 (pc, lv, st, hp, nc, ns) = some (.inl (pc', lv', st', hp', nc, ns))) : ac_R T X P M G Φ ws wa xs γ pc lv st hp outs :=
  ⟨pc', lv', st', hp', A', hm, hA, hfr, 1, fun call N0 nc ns => by simp only [px_its, h]⟩
theorem ac_rest (hA : ac_s G Φ xs γ A lv st hp) {r : List ab_V} {s : List Value} (hr : ab_st xs lv hp r s) : ac_s G Φ xs γ (A.1, r, A.2.2) lv s hp := ⟨hA.1, hr, hA.2.2⟩
theorem ac_no_ok {j : Nat} {rl : List (Nat × Int)} {lv' : List (Nat × Value)} (h : ac_rl γ rl lv) (hl : ∀ (m : Nat) (x : Int32), m ≠ j → px_find m lv = some (.int x) → px_find m lv' = some (.int x)) : ac_rl γ (ac_no j rl) lv' := by
  intro q hq
  obtain ⟨hm, hk⟩ := List.mem_filter.mp hq
  obtain ⟨x, h1, h2⟩ := h q hm
  simp only [Bool.not_eq_true'] at hk
  exact ⟨x, hl _ _ (Nat.ne_of_beq_eq_false hk) h1, h2⟩
theorem ac_sto1_ok (hA : ac_s G Φ xs γ A lv st hp) {a : ab_V} {r : List ab_V} {v : Value} {s : List Value} (hv : ab_v xs lv hp a v) (hr : ab_st xs lv hp r s) (j : Nat) {rl : List (Nat × Int)} (hrl : ac_rl γ rl (px_st1 lv j v)) : ac_s G Φ xs γ (ac_sto1 A j a r rl) (px_st1 lv j v) s hp := by
  obtain ⟨h1, h2, h3, h4, h5, h6, h7⟩ := hA
  have h9 := ab_sto1_ok (A := (A.1, A.2.1, G, A.2.2.2.1)) ⟨h1, h2, h3, h5⟩ hv hr j
  exact ⟨h9.1, h9.2.1, h3, h4, h5, h6, hrl⟩
theorem ac_sto2_ok (hA : ac_s G Φ xs γ A lv st hp) {a : ab_V} {r : List ab_V} {v : Value} {s : List Value} (hv : ab_v xs lv hp a v) (hr : ab_st xs lv hp r s) (j : Nat) {rl : List (Nat × Int)} (hrl : ac_rl γ rl (px_st2 lv j v)) : ac_s G Φ xs γ (ac_sto2 A j a r rl) (px_st2 lv j v) s hp := by
  obtain ⟨h1, h2, h3, h4, h5, h6, h7⟩ := hA
  have h9 := ab_sto2_ok (A := (A.1, A.2.1, G, A.2.2.2.1)) ⟨h1, h2, h3, h5⟩ hv hr j
  exact ⟨h9.1, h9.2.1, h3, h4, h5, h6, hrl⟩
theorem ac_no1 {rl : List (Nat × Int)} (h : ac_rl γ rl lv) (j : Nat) (v : Value) : ac_rl γ (ac_no j rl) (px_st1 lv j v) :=
  ac_no_ok h (fun m x hm hf => ab_sto1_find hf hm (fun _ hc => by cases hc))
theorem ac_no2 {rl : List (Nat × Int)} (h : ac_rl γ rl lv) (j : Nat) (v : Value) : ac_rl γ (ac_no (j + 1) (ac_no j rl)) (px_st2 lv j v) := by
  intro q hq
  obtain ⟨hm, hk⟩ := List.mem_filter.mp hq
  obtain ⟨hm, hk2⟩ := List.mem_filter.mp hm
  obtain ⟨x, h1, h2⟩ := h q hm
  simp only [Bool.not_eq_true'] at hk hk2
  exact ⟨x, ab_sto2_find h1 (Nat.ne_of_beq_eq_false hk2) (Nat.ne_of_beq_eq_false hk) (fun _ hc => by cases hc), h2⟩
theorem ac_a1_ok {i : Instr} {i1 i2 : Int} {c : Nat} {f : ab_F} {j : Int32} (hG : ab_h G hp) (hj : ab_in (i1, i2) j.toInt) (h : ac_a1 T G i i1 i2 c = some f) : ∃ v, px_ald T X i hp (.ref c) j = some v ∧ ab_f f v := by
  unfold ac_a1 at h
  split at h
  · rename_i t n f0 hc
    split at h
    · rename_i ty hty
      split at h
      · rename_i e1 e2 e3
        cases h
        obtain ⟨hin, hlt⟩ := ab_inR hj e2 e3
        obtain ⟨x, hx, hxc⟩ := ac_cell hG hc
        cases x with
        | inr q9 => exact absurd hxc (by simp [ab_c])
        | inl q9 =>
          obtain ⟨t', n', cont⟩ := q9
          obtain ⟨rfl, rfl, hall⟩ := hxc
          have hel := hall _ hlt
          unfold ab_aty at e1
          split at e1
          · cases cont with
            | inl g => exact ⟨_, by simp only [px_ald, hx, hin, hty], hel⟩
            | inr g =>
              exfalso
              rcases g with g | g | g | g
              · simp only at hel; exact absurd hel.1 (by rw [Nat.eq_of_beq_eq_true e1]; decide)
              · exact hel
              · exact hel
              · simp only at hel; obtain ⟨q8, -, hq⟩ := hel; exact absurd hq.1 (by rw [Nat.eq_of_beq_eq_true e1]; decide)
          · cases cont with
            | inl g => exact ⟨_, by simp only [px_ald, hx, hin, hty], hel⟩
            | inr g =>
              exfalso
              rcases g with g | g | g | g
              · simp only at hel; exact absurd hel.1 (by rw [Nat.eq_of_beq_eq_true e1]; decide)
              · exact hel
              · exact hel
              · simp only at hel; obtain ⟨q8, -, hq⟩ := hel; exact absurd hq.1 (by rw [Nat.eq_of_beq_eq_true e1]; decide)
          · cases cont with
            | inl g => simp only at hel; exact absurd hel.1 (by rw [Nat.eq_of_beq_eq_true e1]; decide)
            | inr g =>
              rcases g with g | g | g | g
              · exact ⟨_, by simp only [px_ald, hx, hin, hty], hel⟩
              · exact absurd hel (by simp)
              · exact absurd hel (by simp)
              · simp only at hel; obtain ⟨q8, -, hq⟩ := hel; exact absurd hq.1 (by rw [Nat.eq_of_beq_eq_true e1]; decide)
          · cases cont with
            | inl g => simp only at hel; exact absurd hel.1 (by rw [Nat.eq_of_beq_eq_true e1]; decide)
            | inr g =>
              rcases g with g | g | g | g
              · simp only at hel; exact absurd hel.1 (by rw [Nat.eq_of_beq_eq_true e1]; decide)
              · exact absurd hel (by simp)
              · exact absurd hel (by simp)
              · simp only at hel
                obtain ⟨q8, hg, hq⟩ := hel
                exact ⟨_, by simp only [px_ald, hx, hin, hty, hg], hq⟩
          · cases e1
      · cases h
    · cases h
  · cases h
theorem ac_am_ok {i : Instr} {i1 i2 : Int} {j : Int32} (hG : ab_h G hp) (hj : ab_in (i1, i2) j.toInt) : ∀ {cs : List Nat} {f : ab_F} {c : Nat}, ac_am T G i i1 i2 cs = some f → c ∈ cs → ∃ v, px_ald T X i hp (.ref c) j = some v ∧ ab_f f v := by
  intro cs
  induction cs with
  | nil => intro f c h; cases h
  | cons d r ih =>
    intro f c h hc
    unfold ac_am at h
    split at h
    · cases List.mem_singleton.mp hc
      exact ac_a1_ok hG hj h
    · split at h
      · rename_i f1 g1 hf hg
        split at h
        · rename_i hk
          cases h
          rcases List.mem_cons.mp hc with rfl | hc
          · obtain ⟨v, e1, e2⟩ := ac_a1_ok (X := X) hG hj hf
            exact ⟨v, e1, ab_join_l e2⟩
          · obtain ⟨v, e1, e2⟩ := ih hg hc
            exact ⟨v, e1, ab_join_r (Nat.eq_of_beq_eq_true hk) e2⟩
        · cases h
      · cases h
theorem ac_aload_ok (hA : ac_s G Φ xs γ A lv st hp) {i : Instr} {q : Nat} (h : ac_aload T G i q A = some outs) : ∃ (j : Int32) (a : Value) (s : List Value) (v : Value) (A' : ac_S), st = .int j :: a :: s ∧ px_ald T X i hp a j = some v ∧ (q, A') ∈ outs ∧ ac_s G Φ xs γ A' lv (v :: s) hp := by
  obtain ⟨h1, h2, h3, h4, h5, h6, h7⟩ := id hA
  unfold ac_aload at h
  split at h
  · rename_i i1 i2 r0 o0 c1 c2 cs o3 r hst
    rw [hst] at h2
    obtain ⟨v1, s1, rfl, g1, k1⟩ := ab_st_cons h2
    obtain ⟨v2, s2, rfl, g2, k2⟩ := ab_st_cons k1
    obtain ⟨j, rfl, hj⟩ := ab_f0 g1.1
    obtain ⟨c, rfl, hc⟩ := ab_f2 g2.1
    split at h
    · rename_i f hf
      cases h
      obtain ⟨v, e1, e2⟩ := ac_am_ok (X := X) h3 hj hf hc
      exact ⟨j, _, s2, v, _, rfl, e1, List.mem_singleton.mpr rfl, h1, ⟨⟨e2, ab_o_none _ _ _ _⟩, k2⟩, h3, h4, h5, h6, h7⟩
    · cases h
  · cases h
theorem ac_fv_arr {c : Nat} {x y : Nat × vp_A} (hx : hp[c]? = some (.inl x)) (d k : Nat) : ac_fv (hp.set c (.inl y)) d k = ac_fv hp d k := by
  unfold ac_fv
  by_cases h : d = c
  · subst h
    rw [List.getElem?_set_self (List.getElem?_eq_some_iff.mp hx).1, hx]
  · rw [List.getElem?_set_ne (Ne.symm h)]
theorem ac_flt_ok (hFl : ac_Fl FA Φ) {cs fl : List Nat} {c : Nat} {x : px_E} (hc : c ∈ cs) (h : ∀ i ∈ fl, Φ i hp) : ∀ i ∈ ac_flt FA cs fl, Φ i (hp.set c x) := by
  intro i hi
  obtain ⟨hm, hk⟩ := List.mem_filter.mp hi
  have := List.all_eq_true.mp hk c hc
  simp only [Bool.not_eq_true'] at this
  refine hFl i hp _ (fun d hd => ?_) (h i hm)
  by_cases he : d = c
  · subst he
    exact absurd hd (ac_in_no this)
  · rw [List.getElem?_set_ne (Ne.symm he)]
/-- an array set anew, within its bounds -/
theorem ac_set_arr (hFl : ac_Fl FA Φ) (hA : ac_s G Φ xs γ A lv st hp) {c t n : Nat} {f : ab_F} {y x : Nat × vp_A} {cs : List Nat} (hcs : c ∈ cs) (hx : hp[c]? = some (.inl x)) (hc : G[c]? = some (.inr (t, n, f))) (hy : ab_c (.inr (t, n, f)) (.inl y)) {r : List ab_V} {s : List Value} (hr : ab_st xs lv hp r s) :
    ac_s G Φ xs γ (A.1, r, A.2.2.1, A.2.2.2.1, ac_flt FA cs A.2.2.2.2.1, A.2.2.2.2.2) lv s (hp.set c (.inl y)) := by
  obtain ⟨h1, h2, h3, h4, h5, h6, h7⟩ := hA
  have hP : ∀ l w, ab_at xs lv hp l = some w → ab_at xs lv (hp.set c (.inl y)) l = some w := fun l w hl => ab_at_arr hx hl
  refine ⟨fun j a hm => ?_, ab_st_mono hP hr, ⟨by simp only [List.length_set]; exact h3.1, fun k a z ha hz => ?_⟩, fun q hq v hv => ?_, h5, ac_flt_ok hFl hcs h6, h7⟩
  · obtain ⟨v, hv, hav⟩ := h1 j a hm
    exact ⟨v, hv, ab_v_mono hP hav⟩
  · by_cases hk : k = c
    · subst hk
      rw [List.getElem?_set_self (List.getElem?_eq_some_iff.mp hx).1] at hz
      rw [hc] at ha
      cases ha
      cases hz
      exact hy
    · rw [List.getElem?_set_ne (Ne.symm hk)] at hz
      exact h3.2 _ _ _ ha hz
  · rw [ac_fv_arr hx] at hv
    exact h4 q hq v hv
theorem px_fr_arr {c : Nat} {x y : Nat × vp_A} (hx : hp[c]? = some (.inl x)) (hc : c ∈ wa) : px_fr ws wa hp (hp.set c (.inl y)) := by
  refine ⟨fun d q hd hq => ?_, fun d ci vs hv => ⟨vs, ?_, rfl, fun _ _ => rfl⟩⟩
  · rw [List.getElem?_set_ne (fun e => hd (by rw [← e]; exact hc))]
    exact hq
  · rw [List.getElem?_set_ne (fun e => by subst e; rw [hx] at hv; cases hv)]
    exact hv
theorem ac_astore_ok (hFl : ac_Fl FA Φ) (hA : ac_s G Φ xs γ A lv st hp) {i : Instr} {q : Nat} (h : ac_astore T G FA wa i q A = some outs) : ∃ (v : Value) (j : Int32) (a : Nat) (s : List Value) (hp' : px_H) (A' : ac_S), st = v :: .int j :: .ref a :: s ∧ px_ast T i hp a j v = some hp' ∧ (q, A') ∈ outs ∧ ac_s G Φ xs γ A' lv s hp' ∧ px_fr ws wa hp hp' := by
  obtain ⟨h1, h2, h3, h4, h5, h6, h7⟩ := id hA
  unfold ac_astore at h
  split at h
  · rename_i va i1 i2 r0 o0 c1 c2 cs o3 r hst
    rw [hst] at h2
    obtain ⟨v0, s0, rfl, g0, k0⟩ := ab_st_cons h2
    obtain ⟨v1, s1, rfl, g1, k1⟩ := ab_st_cons k0
    obtain ⟨v2, s2, rfl, g2, k2⟩ := ab_st_cons k1
    obtain ⟨j, rfl, hj⟩ := ab_f0 g1.1
    obtain ⟨c, rfl, hcm⟩ := ab_f2 g2.1
    split at h
    · rename_i hall0
      cases h
      have hw := List.all_eq_true.mp hall0 c hcm
      unfold ac_w1 at hw
      split at hw
      · rename_i t n f hc
        split at hw
        · rename_i ty hty
          simp only [Bool.and_eq_true] at hw
          obtain ⟨e1, e2, e3, e8, e9⟩ := hw
          have hwa := ac_in_ok e9
          obtain ⟨hin, hlt⟩ := ab_inR hj e2 e3
          obtain ⟨x, hx, hxc⟩ := ac_cell h3 hc
          obtain ⟨⟨kv, w1, w2, wr⟩, ov⟩ := va
          obtain ⟨kf, f1, f2, fr⟩ := f
          have hle : ab_f (kf, f1, f2, fr) v0 := ab_le_ok e8 g0.1
          cases x with
          | inr q9 => exact absurd hxc (by simp [ab_c])
          | inl q9 =>
            obtain ⟨t', n', cont⟩ := q9
            obtain ⟨rfl, rfl, hall⟩ := hxc
            have hel := hall _ hlt
            unfold ab_sty at e1
            split at e1
            · simp only [Bool.and_eq_true] at e1
              obtain ⟨e4, e5⟩ := e1
              obtain ⟨y, rfl, hy⟩ := ab_k0 e5 g0.1
              cases cont with
              | inl g =>
                refine ⟨_, j, c, s2, hp.set c (.inl (t, n, .inl (upd g j.toNatClampNeg y))), _, rfl, by simp only [px_ast, hx, hin, hty], List.mem_singleton.mpr rfl, ac_set_arr hFl hA hcm hx hc ⟨rfl, rfl, fun m hm => ?_⟩ k2, px_fr_arr hx hwa⟩
                simp only [upd]
                split
                · exact hle
                · exact hall m hm
              | inr g =>
                exfalso
                rcases g with g | g | g | g
                · simp only at hel; exact absurd hel.1 (by simp only; rw [Nat.eq_of_beq_eq_true e4]; decide)
                · exact hel
                · exact hel
                · simp only at hel; obtain ⟨q8, -, hq⟩ := hel; exact absurd hq.1 (by simp only; rw [Nat.eq_of_beq_eq_true e4]; decide)
            · simp only [Bool.and_eq_true, decide_eq_true_eq] at e1
              obtain ⟨e4, e5, e6, e7⟩ := e1
              obtain ⟨y, rfl, hy⟩ := ab_k0 e5 g0.1
              have hy01 : (decide (y = 0) || decide (y = 1)) = true := by
                have b0 := hy.1
                have b1 := hy.2
                simp only at b0 b1
                simp only [Bool.or_eq_true, decide_eq_true_eq, ← Int32.toInt_inj]
                have z0 : (0 : Int32).toInt = 0 := rfl
                have z1 : (1 : Int32).toInt = 1 := rfl
                omega
              cases cont with
              | inl g =>
                refine ⟨_, j, c, s2, hp.set c (.inl (t, n, .inl (upd g j.toNatClampNeg y))), _, rfl, by simp only [px_ast, hx, hin, hty, hy01], List.mem_singleton.mpr rfl, ac_set_arr hFl hA hcm hx hc ⟨rfl, rfl, fun m hm => ?_⟩ k2, px_fr_arr hx hwa⟩
                simp only [upd]
                split
                · exact hle
                · exact hall m hm
              | inr g =>
                exfalso
                rcases g with g | g | g | g
                · simp only at hel; exact absurd hel.1 (by simp only; rw [Nat.eq_of_beq_eq_true e4]; decide)
                · exact hel
                · exact hel
                · simp only at hel; obtain ⟨q8, -, hq⟩ := hel; exact absurd hq.1 (by simp only; rw [Nat.eq_of_beq_eq_true e4]; decide)
            · simp only [Bool.and_eq_true] at e1
              obtain ⟨e4, e5⟩ := e1
              obtain ⟨y, rfl, hy⟩ := ab_k1' e5 g0.1
              cases cont with
              | inl g => simp only at hel; exact absurd hel.1 (by simp only; rw [Nat.eq_of_beq_eq_true e4]; decide)
              | inr g =>
                rcases g with g | g | g | g
                · refine ⟨_, j, c, s2, hp.set c (.inl (t, n, .inr (.inl (vp_updL g j.toNatClampNeg y)))), _, rfl, by simp only [px_ast, hx, hin, hty], List.mem_singleton.mpr rfl, ac_set_arr hFl hA hcm hx hc ⟨rfl, rfl, fun m hm => ?_⟩ k2, px_fr_arr hx hwa⟩
                  simp only [vp_updL]
                  split
                  · exact hle
                  · exact hall m hm
                · exact absurd hel (by simp)
                · exact absurd hel (by simp)
                · simp only at hel; obtain ⟨q8, -, hq⟩ := hel; exact absurd hq.1 (by simp only; rw [Nat.eq_of_beq_eq_true e4]; decide)
            · cases e1
        · cases hw
      · cases hw
    · cases h
  · cases h
end ac_s3
end mg_1

section mg_2
section ac_s4
variable {T : px_T} {X : Option (Nat × (Nat → Int32))} {P : List px_M} {G : List ab_C} {FA : Nat → List Nat} {Φ : Nat → px_H → Prop} {ws : List (Nat × Nat)} {wa : List Nat} {xs : Nat → Int32} {γ : Nat → Int} {A : ac_S} {lv : List (Nat × Value)} {st : List Value} {hp : px_H} {M : px_M} {pc : Nat} {outs : List (Nat × ac_S)}
theorem ac_at_set {c ci k : Nat} {vs : List Value} {u : Value} {cs : List Nat} (hx : hp[c]? = some (.inr (ci, vs))) (hc : c ∈ cs) {l : ab_L} {w : Value} (hl : ab_at xs lv hp l = some w) (hk : ac_kf cs k l = false) : ab_at xs lv (hp.set c (.inr (ci, vs.set k u))) l = some w := by
  refine ab_at_set hx hl rfl ?_
  obtain ⟨a, b, d⟩ := l
  simp only [ac_kf, Bool.and_eq_false_iff] at hk
  simp only [ab_kf, Bool.and_eq_false_iff]
  rcases hk with h | h | h
  · exact Or.inl h
  · refine Or.inr (Or.inl (ab_beq_ne (fun e => ac_in_no h (by rw [e]; exact hc))))
  · exact Or.inr (Or.inr h)
theorem ac_fv_set {c ci k : Nat} {vs : List Value} {u : Value} (hx : hp[c]? = some (.inr (ci, vs))) (hk : k < vs.length) (d m : Nat) : ac_fv (hp.set c (.inr (ci, vs.set k u))) d m = if d = c ∧ m = k then some u else ac_fv hp d m := by
  unfold ac_fv
  by_cases h : d = c
  · subst h
    rw [List.getElem?_set_self (List.getElem?_eq_some_iff.mp hx).1, hx]
    simp only
    by_cases hm : m = k
    · subst hm
      rw [List.getElem?_set_self hk]
      simp
    · rw [List.getElem?_set_ne (Ne.symm hm), if_neg (fun h => hm h.2)]
  · rw [List.getElem?_set_ne (Ne.symm h), if_neg (fun h9 => h h9.1)]
theorem px_fr_obj {c ci k : Nat} {vs : List Value} {u : Value} (hx : hp[c]? = some (.inr (ci, vs))) (hw : (c, k) ∈ ws) : px_fr ws wa hp (hp.set c (.inr (ci, vs.set k u))) := by
  refine ⟨fun d q hd hq => ?_, fun d ci' vs' hv => ?_⟩
  · rw [List.getElem?_set_ne (fun e => by subst e; rw [hx] at hq; cases hq)]
    exact hq
  · by_cases h : d = c
    · subst h
      rw [hx] at hv
      cases hv
      refine ⟨vs.set k u, List.getElem?_set_self (List.getElem?_eq_some_iff.mp hx).1, List.length_set, fun m hm => ?_⟩
      rw [List.getElem?_set_ne (fun e => hm (by rw [← e]; exact hw))]
    · refine ⟨vs', ?_, rfl, fun _ _ => rfl⟩
      rw [List.getElem?_set_ne (Ne.symm h)]
      exact hv
theorem ac_put_ok (hFl : ac_Fl FA Φ) (hA : ac_s G Φ xs γ A lv st hp) {cs : List Nat} {c ci k : Nat} {vs : List Value} {u : Value} {a : ab_V} {f : ab_F} {r : List ab_V} {s : List Value} (hc : c ∈ cs) (hx : hp[c]? = some (.inr (ci, vs))) (hk : k < vs.length) (hau : ab_v xs lv hp a u) (hf1 : ac_f1 G ci k c = some f) (hle : ab_le a.1 f = true) (hr : ab_st xs lv hp r s) {ov' : List ac_O}
    (hov : ∀ q ∈ ov', q = (c, k, a.1) ∨ (q ∈ A.2.2.1 ∧ (Nat.beq q.2.1 k && ac_in q.1 cs) = false)) :
    ac_s G Φ xs γ (A.1.map (fun p => (p.1, ab_kill (ac_kf cs k) p.2)), r.map (ab_kill (ac_kf cs k)), ov', A.2.2.2.1, ac_flt FA cs A.2.2.2.2.1, A.2.2.2.2.2) lv s (hp.set c (.inr (ci, vs.set k u))) := by
  obtain ⟨h1, h2, h3, h4, h5, h6, h7⟩ := hA
  have hP : ∀ l w, ac_kf cs k l = false → ab_at xs lv hp l = some w → ab_at xs lv (hp.set c (.inr (ci, vs.set k u))) l = some w := fun l w q1 q2 => ac_at_set hx hc q2 q1
  refine ⟨fun j b hm => ?_, ab_kill_st hP hr, ⟨by simp only [List.length_set]; exact h3.1, fun m b z hb hz => ?_⟩, fun q hq v hv => ?_, h5, ac_flt_ok hFl hc h6, h7⟩
  · obtain ⟨⟨j0, b0⟩, hm0, he⟩ := List.mem_map.mp hm
    cases he
    obtain ⟨w, hw, hbw⟩ := h1 _ _ hm0
    exact ⟨w, hw, ab_kill_ok hP hbw⟩
  · by_cases hmc : m = c
    · subst hmc
      rw [List.getElem?_set_self (List.getElem?_eq_some_iff.mp hx).1] at hz
      cases hz
      have hold := h3.2 _ _ _ hb hx
      unfold ac_f1 at hf1
      rw [hb] at hf1
      cases b with
      | inr q9 => exact absurd hold (by simp [ab_c])
      | inl q9 =>
        obtain ⟨ci', fs⟩ := q9
        obtain ⟨rfl, hlen, hall⟩ := hold
        simp only [Nat.beq_refl] at hf1
        refine ⟨rfl, by rw [List.length_set]; exact hlen, fun n g w hn hw => ?_⟩
        by_cases hnk : n = k
        · subst hnk
          rw [List.getElem?_set_self hk] at hw
          cases hw
          rw [hf1] at hn
          cases hn
          exact ab_le_ok hle hau.1
        · rw [List.getElem?_set_ne (Ne.symm hnk)] at hw
          exact hall _ _ _ hn hw
    · rw [List.getElem?_set_ne (Ne.symm hmc)] at hz
      exact h3.2 _ _ _ hb hz
  · rw [ac_fv_set hx hk] at hv
    rcases hov q hq with rfl | ⟨hm, hn⟩
    · rw [if_pos ⟨rfl, rfl⟩] at hv
      cases hv
      exact hau.1
    · split at hv
      · rename_i he
        exfalso
        rw [he.1, he.2, Nat.beq_refl, Bool.true_and] at hn
        exact ac_in_no hn hc
      · exact h4 q hm v hv
set_option maxHeartbeats 8000000 in
set_option maxRecDepth 10000 in
theorem ac_step_ok (hFl : ac_Fl FA Φ) (hA : ac_s G Φ xs γ A lv st hp) (h : ac_step T G FA ws wa M pc A = some outs) : ac_R T X P M G Φ ws wa xs γ pc lv st hp outs := by
  obtain ⟨h1, h2, h3, h4, h5, h6, h7⟩ := id hA
  have rf := px_fr_rf ws wa hp
  unfold ac_step at h
  split at h
  · cases h
  rename_i len i hf
  split at h
  · rename_i st' ha
    cases h
    obtain ⟨st'', e1, e2⟩ := ac_alu_ok ha h2
    exact ac_one (List.mem_singleton.mpr rfl) ⟨h1, e2, h3, h4, h5, h6, h7⟩ rf (fun call N0 nc ns => by simp only [px_step, hf, e1])
  rename_i ha
  cases i
  case iload j =>
    simp only at h
    split at h
    · rename_i a hja
      split at h
      · rename_i hk
        cases h
        obtain ⟨v, hv, hav⟩ := h1 _ _ (px_find_mem hja)
        have hld := ac_ld_ok hA hv hav
        obtain ⟨⟨k, a1, a2, r⟩, o⟩ := a
        obtain ⟨x, rfl, hx⟩ := ab_k0 hk hav.1
        exact ac_one (st' := .int x :: st) (List.mem_singleton.mpr rfl) ⟨h1, ⟨hld, h2⟩, h3, h4, h5, h6, h7⟩ rf (fun call N0 nc ns => by simp only [px_step, hf, px_alu, hv])
      · cases h
    · cases h
  case iload_n j =>
    simp only at h
    split at h
    · rename_i a hja
      split at h
      · rename_i hk
        cases h
        obtain ⟨v, hv, hav⟩ := h1 _ _ (px_find_mem hja)
        have hld := ac_ld_ok hA hv hav
        obtain ⟨⟨k, a1, a2, r⟩, o⟩ := a
        obtain ⟨x, rfl, hx⟩ := ab_k0 hk hav.1
        exact ac_one (st' := .int x :: st) (List.mem_singleton.mpr rfl) ⟨h1, ⟨hld, h2⟩, h3, h4, h5, h6, h7⟩ rf (fun call N0 nc ns => by simp only [px_step, hf, px_alu, hv])
      · cases h
    · cases h
  case lload j =>
    simp only at h
    split at h
    · rename_i a hja
      split at h
      · rename_i hk
        cases h
        obtain ⟨v, hv, hav⟩ := h1 _ _ (px_find_mem hja)
        have hld := ac_ld_ok hA hv hav
        obtain ⟨⟨k, a1, a2, r⟩, o⟩ := a
        obtain ⟨x, rfl, hx⟩ := ab_k1' hk hav.1
        exact ac_one (st' := .long x :: st) (List.mem_singleton.mpr rfl) ⟨h1, ⟨hld, h2⟩, h3, h4, h5, h6, h7⟩ rf (fun call N0 nc ns => by simp only [px_step, hf, px_alu, hv])
      · cases h
    · cases h
  case lload_n j =>
    simp only at h
    split at h
    · rename_i a hja
      split at h
      · rename_i hk
        cases h
        obtain ⟨v, hv, hav⟩ := h1 _ _ (px_find_mem hja)
        have hld := ac_ld_ok hA hv hav
        obtain ⟨⟨k, a1, a2, r⟩, o⟩ := a
        obtain ⟨x, rfl, hx⟩ := ab_k1' hk hav.1
        exact ac_one (st' := .long x :: st) (List.mem_singleton.mpr rfl) ⟨h1, ⟨hld, h2⟩, h3, h4, h5, h6, h7⟩ rf (fun call N0 nc ns => by simp only [px_step, hf, px_alu, hv])
      · cases h
    · cases h
  case aload j =>
    simp only at h
    split at h
    · rename_i a hja
      split at h
      · rename_i hk
        cases h
        obtain ⟨v, hv, hav⟩ := h1 _ _ (px_find_mem hja)
        obtain ⟨⟨k, a1, a2, r⟩, o⟩ := a
        obtain ⟨c, rfl, hc⟩ := ab_k2 hk hav.1
        exact ac_one (st' := .ref c :: st) (List.mem_singleton.mpr rfl) ⟨h1, ⟨⟨hav.1, ab_o_none _ _ _ _⟩, h2⟩, h3, h4, h5, h6, h7⟩ rf (fun call N0 nc ns => by simp only [px_step, hf, px_alu, hv])
      · cases h
    · cases h
  case aload_n j =>
    simp only at h
    split at h
    · rename_i a hja
      split at h
      · rename_i hk
        cases h
        obtain ⟨v, hv, hav⟩ := h1 _ _ (px_find_mem hja)
        obtain ⟨⟨k, a1, a2, r⟩, o⟩ := a
        obtain ⟨c, rfl, hc⟩ := ab_k2 hk hav.1
        exact ac_one (st' := .ref c :: st) (List.mem_singleton.mpr rfl) ⟨h1, ⟨⟨hav.1, ab_o_none _ _ _ _⟩, h2⟩, h3, h4, h5, h6, h7⟩ rf (fun call N0 nc ns => by simp only [px_step, hf, px_alu, hv])
      · cases h
    · cases h
  case istore j =>
    simp only at h
    split at h
    · rename_i a r hst
      split at h
      · rename_i hk
        cases h
        simp only [Bool.and_eq_true] at hk
        rw [hst] at h2
        obtain ⟨v, s, rfl, hav, hr⟩ := ab_st_cons h2
        have hav' := hav
        obtain ⟨⟨k, a1, a2, rr⟩, o⟩ := a
        obtain ⟨x, rfl, hx⟩ := ab_k0 hk.1 hav.1
        exact ac_one (List.mem_singleton.mpr rfl) (ac_sto1_ok hA hav' hr _ (ac_no1 h7 _ _)) rf (fun call N0 nc ns => by simp only [px_step, hf, px_alu, hk.2])
      · cases h
    · cases h
  case istore_n j =>
    simp only at h
    split at h
    · rename_i a r hst
      split at h
      · rename_i hk
        cases h
        simp only [Bool.and_eq_true] at hk
        rw [hst] at h2
        obtain ⟨v, s, rfl, hav, hr⟩ := ab_st_cons h2
        have hav' := hav
        obtain ⟨⟨k, a1, a2, rr⟩, o⟩ := a
        obtain ⟨x, rfl, hx⟩ := ab_k0 hk.1 hav.1
        exact ac_one (List.mem_singleton.mpr rfl) (ac_sto1_ok hA hav' hr _ (ac_no1 h7 _ _)) rf (fun call N0 nc ns => by simp only [px_step, hf, px_alu, hk.2])
      · cases h
    · cases h
  case astore j =>
    simp only at h
    split at h
    · rename_i a r hst
      split at h
      · rename_i hk
        cases h
        simp only [Bool.and_eq_true] at hk
        rw [hst] at h2
        obtain ⟨v, s, rfl, hav, hr⟩ := ab_st_cons h2
        have hav' := hav
        obtain ⟨⟨k, a1, a2, rr⟩, o⟩ := a
        obtain ⟨x, rfl, hx⟩ := ab_k2 hk.1 hav.1
        exact ac_one (List.mem_singleton.mpr rfl) (ac_sto1_ok hA hav' hr _ (ac_no1 h7 _ _)) rf (fun call N0 nc ns => by simp only [px_step, hf, px_alu, hk.2])
      · cases h
    · cases h
  case astore_n j =>
    simp only at h
    split at h
    · rename_i a r hst
      split at h
      · rename_i hk
        cases h
        simp only [Bool.and_eq_true] at hk
        rw [hst] at h2
        obtain ⟨v, s, rfl, hav, hr⟩ := ab_st_cons h2
        have hav' := hav
        obtain ⟨⟨k, a1, a2, rr⟩, o⟩ := a
        obtain ⟨x, rfl, hx⟩ := ab_k2 hk.1 hav.1
        exact ac_one (List.mem_singleton.mpr rfl) (ac_sto1_ok hA hav' hr _ (ac_no1 h7 _ _)) rf (fun call N0 nc ns => by simp only [px_step, hf, px_alu, hk.2])
      · cases h
    · cases h
  case lstore j =>
    simp only at h
    split at h
    · rename_i a r hst
      split at h
      · rename_i hk
        cases h
        simp only [Bool.and_eq_true] at hk
        rw [hst] at h2
        obtain ⟨v, s, rfl, hav, hr⟩ := ab_st_cons h2
        have hav' := hav
        obtain ⟨⟨k, a1, a2, rr⟩, o⟩ := a
        obtain ⟨x, rfl, hx⟩ := ab_k1' hk.1 hav.1
        exact ac_one (List.mem_singleton.mpr rfl) (ac_sto2_ok hA hav' hr _ (ac_no2 h7 _ _)) rf (fun call N0 nc ns => by simp only [px_step, hf, px_alu, hk.2])
      · cases h
    · cases h
  case lstore_n j =>
    simp only at h
    split at h
    · rename_i a r hst
      split at h
      · rename_i hk
        cases h
        simp only [Bool.and_eq_true] at hk
        rw [hst] at h2
        obtain ⟨v, s, rfl, hav, hr⟩ := ab_st_cons h2
        have hav' := hav
        obtain ⟨⟨k, a1, a2, rr⟩, o⟩ := a
        obtain ⟨x, rfl, hx⟩ := ab_k1' hk.1 hav.1
        exact ac_one (List.mem_singleton.mpr rfl) (ac_sto2_ok hA hav' hr _ (ac_no2 h7 _ _)) rf (fun call N0 nc ns => by simp only [px_step, hf, px_alu, hk.2])
      · cases h
    · cases h
  case iinc j n =>
    simp only at h
    split at h
    · rename_i a1 a2 r o hja hj
      cases h
      obtain ⟨v, hv, hav⟩ := h1 _ _ (px_find_mem hja)
      obtain ⟨x, rfl, hx⟩ := ab_f0 hav.1
      have hq := ab_bi_ok (f := fun x y => x + y) (rule := ab_radd ab_topi) ab_add_ok hx (b := ((Int32.ofInt n).toInt, (Int32.ofInt n).toInt)) (y := Int32.ofInt n) ⟨Int.le_refl _, Int.le_refl _⟩
      have hrl : ac_rl γ (match decide (-2147483648 ≤ a1 + (Int32.ofInt n).toInt) && decide (a2 + (Int32.ofInt n).toInt ≤ 2147483647) with
            | true => ac_inc j (Int32.ofInt n).toInt A.2.2.2.2.2
            | false => ac_no j A.2.2.2.2.2) (px_st1 lv j (.int (x + Int32.ofInt n))) := by
        split
        · rename_i hb
          simp only [Bool.and_eq_true, decide_eq_true_eq] at hb
          intro q hq9
          obtain ⟨⟨j0, c0⟩, hm, he⟩ := List.mem_map.mp hq9
          obtain ⟨z, hz1, hz2⟩ := h7 _ hm
          simp only at he hz1 hz2
          split at he
          · rename_i hjj
            have hjj := Nat.eq_of_beq_eq_true hjj
            subst hjj
            subst he
            rw [hv] at hz1
            cases hz1
            refine ⟨x + Int32.ofInt n, ?_, ?_⟩
            · unfold px_st1 px_find
              rw [Nat.beq_refl]
            · have b0 := hx.1
              have b1 := hx.2
              simp only at b0 b1
              rw [Int32.toInt_add, ab_bmod32 (by omega) (by omega), hz2]
              simp only
              omega
          · rename_i hjj
            subst he
            exact ⟨z, ab_sto1_find hz1 (Nat.ne_of_beq_eq_false hjj) (fun _ hc => by cases hc), hz2⟩
        · exact ac_no1 h7 _ _
      exact ac_one (List.mem_singleton.mpr rfl) (ac_sto1_ok hA (v := .int (x + Int32.ofInt n)) ⟨⟨rfl, hq.1, hq.2⟩, ab_o_none _ _ _ _⟩ h2 _ hrl) rf (fun call N0 nc ns => by simp only [px_step, hf, px_alu, hv, hj])
    · cases h
  case ifCond c off =>
    simp only at h
    split at h
    · rename_i x o r hst
      cases h
      rw [hst] at h2
      obtain ⟨v, s, rfl, hav, hr⟩ := ab_st_cons h2
      obtain ⟨z1, z2, z3⟩ := x
      obtain ⟨y, rfl, hy⟩ := ab_f0 hav.1
      cases hc : px_cmp c y 0 with
      | true =>
        obtain ⟨A', m1, m2⟩ := ac_to_ok (ac_rest hA hr) hav (ab_const_ok 0) rfl rfl ((ab_cmp_rel c y 0).1 hc) (px_tgt pc off)
        exact ac_one (List.mem_append_left _ m1) m2 rf (fun call N0 nc ns => by simp only [px_step, hf, px_alu, hc])
      | false =>
        obtain ⟨A', m1, m2⟩ := ac_to_ok (ac_rest hA hr) hav (ab_const_ok 0) rfl rfl ((ab_cmp_rel c y 0).2 hc) (pc + 3)
        exact ac_one (List.mem_append_right _ m1) m2 rf (fun call N0 nc ns => by simp only [px_step, hf, px_alu, hc])
    · cases h
  case if_icmp c off =>
    simp only at h
    split at h
    · rename_i y o' x o r hst
      cases h
      rw [hst] at h2
      obtain ⟨v, s, rfl, hav, hr0⟩ := ab_st_cons h2
      obtain ⟨w, s, rfl, haw, hr⟩ := ab_st_cons hr0
      obtain ⟨z1, z2, z3⟩ := x
      obtain ⟨t1, t2, t3⟩ := y
      obtain ⟨b, rfl, hb⟩ := ab_f0 hav.1
      obtain ⟨a, rfl, ha9⟩ := ab_f0 haw.1
      cases hc : px_cmp c a b with
      | true =>
        obtain ⟨A', m1, m2⟩ := ac_to_ok (ac_rest hA hr) haw hav rfl rfl ((ab_cmp_rel c a b).1 hc) (px_tgt pc off)
        exact ac_one (List.mem_append_left _ m1) m2 rf (fun call N0 nc ns => by simp only [px_step, hf, px_alu, hc])
      | false =>
        obtain ⟨A', m1, m2⟩ := ac_to_ok (ac_rest hA hr) haw hav rfl rfl ((ab_cmp_rel c a b).2 hc) (pc + 3)
        exact ac_one (List.mem_append_right _ m1) m2 rf (fun call N0 nc ns => by simp only [px_step, hf, px_alu, hc])
    · cases h
  case goto off =>
    cases h
    exact ac_one (List.mem_singleton.mpr rfl) hA rf (fun call N0 nc ns => by simp only [px_step, hf, px_alu])
  case ldc idx =>
    simp only at h
    split at h
    · rename_i v hj
      cases h
      exact ac_one (st' := .int (Int32.ofInt v) :: st) (List.mem_singleton.mpr rfl) ⟨h1, ⟨ab_const_ok _, h2⟩, h3, h4, h5, h6, h7⟩ rf (fun call N0 nc ns => by simp only [px_step, hf, px_alu, hj])
    · cases h
  case ldc_w idx =>
    simp only at h
    split at h
    · rename_i v hj
      cases h
      exact ac_one (st' := .int (Int32.ofInt v) :: st) (List.mem_singleton.mpr rfl) ⟨h1, ⟨ab_const_ok _, h2⟩, h3, h4, h5, h6, h7⟩ rf (fun call N0 nc ns => by simp only [px_step, hf, px_alu, hj])
    · cases h
  case ldc2_w idx =>
    simp only at h
    split at h
    · rename_i v hj
      cases h
      exact ac_one (st' := .long (Int64.ofInt v) :: st) (List.mem_singleton.mpr rfl) ⟨h1, ⟨⟨⟨rfl, Int.le_refl _, Int.le_refl _⟩, ab_o_none _ _ _ _⟩, h2⟩, h3, h4, h5, h6, h7⟩ rf (fun call N0 nc ns => by simp only [px_step, hf, px_alu, hj])
    · cases h
  case tableswitch dflt lo hi offs =>
    simp only at h
    split at h
    · rename_i x o r hst
      split at h
      · rename_i hsz
        cases h
        have hsz := of_decide_eq_true hsz
        rw [hst] at h2
        obtain ⟨v, s, rfl, hav, hr⟩ := ab_st_cons h2
        obtain ⟨z1, z2, z3⟩ := x
        obtain ⟨y, rfl, hy⟩ := ab_f0 hav.1
        by_cases c1 : y.toInt < lo
        · obtain ⟨A', m1, m2⟩ := ac_toc_ok (ac_rest hA hr) hav rfl (c := .lt) (b := lo) c1 (px_tgt pc dflt)
          exact ac_one (List.mem_append_right _ (List.mem_append_left _ m1)) m2 rf (fun call N0 nc ns => by simp only [px_step, hf, px_alu, decide_eq_true c1, Bool.true_or])
        · by_cases c2 : hi < y.toInt
          · obtain ⟨A', m1, m2⟩ := ac_toc_ok (ac_rest hA hr) hav rfl (c := .gt) (b := hi) c2 (px_tgt pc dflt)
            exact ac_one (List.mem_append_right _ (List.mem_append_right _ m1)) m2 rf (fun call N0 nc ns => by simp only [px_step, hf, px_alu, decide_eq_true c2, Bool.or_true])
          · have hlt : (y.toInt - lo).toNat < offs.size := by omega
            have hoff : offs[(y.toInt - lo).toNat]? = some (offs[(y.toInt - lo).toNat]'hlt) := Array.getElem?_eq_getElem hlt
            obtain ⟨A', m1, m2⟩ := ac_toc_ok (ac_rest hA hr) hav rfl (c := .eq) (b := lo + ((y.toInt - lo).toNat : Int)) (show y.toInt = _ by omega) (px_tgt pc (offs[(y.toInt - lo).toNat]'hlt))
            refine ac_one (pc' := px_tgt pc (offs[(y.toInt - lo).toNat]'hlt)) (A' := A') (List.mem_append_left _ (List.mem_flatMap.mpr ⟨(y.toInt - lo).toNat, List.mem_range.mpr hlt, ?_⟩)) m2 rf (fun call N0 nc ns => by simp only [px_step, hf, px_alu, decide_eq_false c1, decide_eq_false c2, Bool.or_self, hoff])
            simp only [hoff]
            exact m1
      · cases h
    · cases h
  case lookupswitch dflt ps =>
    simp only at h
    split at h
    · rename_i x o r hst
      split at h
      · rename_i hok
        cases h
        simp only [Bool.and_eq_true, decide_eq_true_eq, List.all_eq_true] at hok
        rw [hst] at h2
        obtain ⟨v, s, rfl, hav, hr⟩ := ab_st_cons h2
        obtain ⟨z1, z2, z3⟩ := x
        obtain ⟨y, rfl, hy⟩ := ab_f0 hav.1
        have hoff : Op.lookupswitch.offset ps.toList dflt y.toInt = dflt ∨ ∃ q ∈ ps.toList, Op.lookupswitch.offset ps.toList dflt y.toInt = q.2 := by
          rcases hfd : ps.toList.find? (·.1 == y.toInt) with _ | ⟨a, b⟩
          · exact Or.inl (Op.lookupswitch.offset_none hfd)
          · exact Or.inr ⟨(a, b), List.mem_of_find?_eq_some hfd, Op.lookupswitch.offset_some hfd⟩
        rcases hoff with he | ⟨q, hq, he⟩
        · exact ac_one List.mem_cons_self (ac_rest hA hr) rf (fun call N0 nc ns => by simp only [px_step, hf, px_alu, he, decide_eq_true hok.1])
        · exact ac_one (List.mem_cons_of_mem _ (List.mem_map.mpr ⟨q, hq, rfl⟩)) (ac_rest hA hr) rf (fun call N0 nc ns => by simp only [px_step, hf, px_alu, he, decide_eq_true (hok.2 q hq)])
      · cases h
    · cases h
  case getfield idx =>
    simp only at h
    split at h
    · rename_i ci k fl c1 c2 c o r hj hst
      rw [hst] at h2
      obtain ⟨v, s, rfl, hav, hr⟩ := ab_st_cons h2
      have hv := ab_ref1 hav
      subst hv
      split at h
      · rename_i f0 f e1 e2
        cases h
        obtain ⟨vs, u, hx, hu, -, -⟩ := ac_f1_ok h3 e1
        have hfv : ac_fv hp c k = some u := by unfold ac_fv; rw [hx]; exact hu
        have hfu := ac_fF_ok h3 h4 e2 hfv
        refine ac_one (st' := u :: s) (List.mem_singleton.mpr rfl) ⟨h1, ⟨⟨hfu, fun l hl => ?_⟩, hr⟩, h3, h4, h5, h6, h7⟩ rf (fun call N0 nc ns => by simp only [px_step, hf, px_alu, hj, hx, Nat.beq_refl, hu])
        split at hl
        · cases hl
          exact ⟨u, hfv, rfl⟩
        · cases hl
      · cases h
    · rename_i ci k fl c1 c2 cs o r hno hj hst
      rw [hst] at h2
      obtain ⟨v, s, rfl, hav, hr⟩ := ab_st_cons h2
      obtain ⟨c, rfl, hc⟩ := ab_f2 hav.1
      split at h
      · rename_i f hfm
        cases h
        obtain ⟨vs, u, hx, hu, hfu⟩ := ac_fm_ok h3 hfm hc
        exact ac_one (st' := u :: s) (List.mem_singleton.mpr rfl) ⟨h1, ⟨⟨hfu, ab_o_none _ _ _ _⟩, hr⟩, h3, h4, h5, h6, h7⟩ rf (fun call N0 nc ns => by simp only [px_step, hf, px_alu, hj, hx, Nat.beq_refl, hu])
      · cases h
    · cases h
  case putfield idx =>
    simp only at h
    split at h
    · rename_i ci k fl a c1 c2 cs o r hj hst
      rw [hst] at h2
      obtain ⟨u, s0, rfl, hau, hr0⟩ := ab_st_cons h2
      obtain ⟨v, s, rfl, hav, hr⟩ := ab_st_cons hr0
      obtain ⟨c, rfl, hc⟩ := ab_f2 hav.1
      split at h
      · rename_i n tys hT
        split at h
        · rename_i ty hty hfl
          split at h
          · rename_i hok
            cases h
            simp only [Bool.and_eq_true] at hok
            have hp1 := List.all_eq_true.mp hok.2 c hc
            unfold ac_p1 at hp1
            split at hp1
            · rename_i f hf1
              simp only [Bool.and_eq_true] at hp1
              obtain ⟨vs, w, hx, -, -, hlt⟩ := ac_f1_ok h3 hf1
              refine ac_one (lv' := lv) (st' := s) (hp' := hp.set c (.inr (ci, vs.set k u))) (List.mem_singleton.mpr rfl) (ac_put_ok hFl hA hc hx hlt hau hf1 hp1.1 hr ?_) (px_fr_obj hx (ac_has_ok hp1.2)) (fun call N0 nc ns => by simp only [px_step, hf, px_alu, hj, hx, hT, Nat.beq_refl, hty, decide_eq_true hlt, hfl, ab_fits_ok hok.1 hau.1])
              intro q hq
              split at hq
              · rename_i c9
                cases List.mem_singleton.mp hc
                rcases List.mem_cons.mp hq with he | hq
                · exact Or.inl he
                · obtain ⟨q1, q2⟩ := List.mem_filter.mp hq
                  exact Or.inr ⟨q1, (Bool.not_eq_true' _).mp q2⟩
              · obtain ⟨q1, q2⟩ := List.mem_filter.mp hq
                exact Or.inr ⟨q1, (Bool.not_eq_true' _).mp q2⟩
            · cases hp1
          · cases h
        · cases h
      · cases h
    · cases h
  case iaload =>
    obtain ⟨j, a, s, v, A', rfl, e1, e2, e3⟩ := ac_aload_ok (X := X) hA h
    exact ac_one e2 e3 rf (fun call N0 nc ns => by simp only [px_step, hf, px_alu, e1, Option.map_some])
  case baload =>
    obtain ⟨j, a, s, v, A', rfl, e1, e2, e3⟩ := ac_aload_ok (X := X) hA h
    exact ac_one e2 e3 rf (fun call N0 nc ns => by simp only [px_step, hf, px_alu, e1, Option.map_some])
  case laload =>
    obtain ⟨j, a, s, v, A', rfl, e1, e2, e3⟩ := ac_aload_ok (X := X) hA h
    exact ac_one e2 e3 rf (fun call N0 nc ns => by simp only [px_step, hf, px_alu, e1, Option.map_some])
  case aaload =>
    obtain ⟨j, a, s, v, A', rfl, e1, e2, e3⟩ := ac_aload_ok (X := X) hA h
    exact ac_one e2 e3 rf (fun call N0 nc ns => by simp only [px_step, hf, px_alu, e1, Option.map_some])
  case iastore =>
    obtain ⟨v, j, a, s, hp', A', rfl, e1, e2, e3, e4⟩ := ac_astore_ok (ws := ws) hFl hA h
    exact ac_one e2 e3 e4 (fun call N0 nc ns => by simp only [px_step, hf, px_alu, e1, Option.map_some])
  case bastore =>
    obtain ⟨v, j, a, s, hp', A', rfl, e1, e2, e3, e4⟩ := ac_astore_ok (ws := ws) hFl hA h
    exact ac_one e2 e3 e4 (fun call N0 nc ns => by simp only [px_step, hf, px_alu, e1, Option.map_some])
  case lastore =>
    obtain ⟨v, j, a, s, hp', A', rfl, e1, e2, e3, e4⟩ := ac_astore_ok (ws := ws) hFl hA h
    exact ac_one e2 e3 e4 (fun call N0 nc ns => by simp only [px_step, hf, px_alu, e1, Option.map_some])
  case lcmp =>
    simp only at h
    split at h
    · rename_i y o' x o r c off hst hf2
      cases h
      rw [hst] at h2
      obtain ⟨v, s0, rfl, hav, hr0⟩ := ab_st_cons h2
      obtain ⟨w, s, rfl, haw, hr⟩ := ab_st_cons hr0
      obtain ⟨z1, z2, z3⟩ := x
      obtain ⟨t1, t2, t3⟩ := y
      obtain ⟨b, rfl, hb⟩ := ab_f1 hav.1
      obtain ⟨a, rfl, ha9⟩ := ab_f1 haw.1
      cases hc : px_cmp c (lg_cmp a b) 0 with
      | true =>
        obtain ⟨A', m1, m2⟩ := ac_to_ok (ac_rest hA hr) haw hav rfl rfl ((ab_lcmp_rel c a b).1 hc) (px_tgt (pc + len) off)
        exact ⟨_, _, _, _, A', List.mem_append_left _ m1, m2, rf, 2, fun call N0 nc ns => by simp only [px_its, px_step, hf, px_alu, px_lc, hf2, hc]⟩
      | false =>
        obtain ⟨A', m1, m2⟩ := ac_to_ok (ac_rest hA hr) haw hav rfl rfl ((ab_lcmp_rel c a b).2 hc) (pc + len + 3)
        exact ⟨_, _, _, _, A', List.mem_append_right _ m1, m2, rf, 2, fun call N0 nc ns => by simp only [px_its, px_step, hf, px_alu, px_lc, hf2, hc]⟩
    · cases h
  all_goals cases h
end ac_s4
end mg_2

section mg_3
/-! runs of the second interpreter: loops, contracts -/
abbrev ac_Out : Type := Option ab_V × List ac_O × List (Int × Int) × List Nat
/-- a contract: method, arguments, flags before; its ends (answer, what is known of the arguments, flags behind); fields and arrays that it may write -/
abbrev ac_K : Type := Nat × List ab_F × List Nat × List (Option ab_F × List (Nat × ab_B) × List Nat) × List (Nat × Nat) × List Nat
/-- a widening: locals (none: forgotten), fields forgotten, overrides, flags forgotten -/
abbrev ac_W : Type := List (Nat × Option ab_F) × List (Nat × Nat) × List ac_O × List Nat
/-- a loop: method, head, counter (a local; whether it grows), widenings -/
abbrev ac_L : Type := Nat × Nat × Option (Nat × Bool) × List ac_W
def ac_loop (me pc : Nat) : List ac_L → Option (Option (Nat × Bool) × List ac_W)
  | [] => none
  | q :: r => match Nat.beq q.1 me && Nat.beq q.2.1 pc with
    | true => some q.2.2
    | false => ac_loop me pc r
def ac_kg (l : ab_L) : Bool := !(Nat.beq l.1 2)
def ac_wl (ls : List (Nat × Option ab_F)) : List (Nat × ab_V) → List (Nat × ab_V)
  | [] => []
  | p :: r => match px_find p.1 ls with
    | some (some f) => (p.1, (f, none)) :: ac_wl ls r
    | some none => ac_wl ls r
    | none => (p.1, ab_kill ac_kg p.2) :: ac_wl ls r
def ac_widen (ctr : Option (Nat × Bool)) (A : ac_S) (w : ac_W) : ac_S :=
  (ac_wl w.1 A.1, A.2.1.map (ab_kill ac_kg), w.2.2.1 ++ A.2.2.1.filter (fun q => !(ac_has w.2.1 q.1 q.2.1)), A.2.2.2.1, A.2.2.2.2.1.filter (fun i => !(ac_in i w.2.2.2)), match ctr with
    | some (j, _) => (j, 0) :: ac_no j A.2.2.2.2.2
    | none => A.2.2.2.2.2)
def ac_eqL (l m : ab_L) : Bool := Nat.beq l.1 m.1 && (Nat.beq l.2.1 m.2.1 && Nat.beq l.2.2 m.2.2)
def ac_leV (a b : ab_V) : Bool := ab_le a.1 b.1 && (match b.2, a.2 with
  | none, _ => true
  | some l, some m => ac_eqL l m
  | some _, none => false)
def ac_leS : List ab_V → List ab_V → Bool
  | [], [] => true
  | a :: r, b :: s => ac_leV a b && ac_leS r s
  | _, _ => false
def ac_leX : List (Int × Int) → List (Int × Int) → Bool
  | _, [] => true
  | a :: r, b :: s => (decide (b.1 ≤ a.1) && decide (a.2 ≤ b.2)) && ac_leX r s
  | [], _ :: _ => false
def ac_leR (ctr : Option (Nat × Bool)) (rl : List (Nat × Int)) (q : Nat × Int) : Bool :=
  match ctr with
  | some (j, _) => match Nat.beq q.1 j with
    | true => decide (q.2 = 0)
    | false => rl.any (fun p => Nat.beq p.1 q.1 && decide (p.2 = q.2))
  | none => rl.any (fun p => Nat.beq p.1 q.1 && decide (p.2 = q.2))
def ac_isI (ctr : Option (Nat × Bool)) (B : ac_S) : Bool :=
  match ctr with
  | some (j, _) => match px_find j B.1 with
    | some a => Nat.beq a.1.1 0
    | none => false
  | none => true
/-- what holds of the first holds of the second -/
def ac_le (G : List ab_C) (ctr : Option (Nat × Bool)) (C B : ac_S) : Bool :=
  B.1.all (fun p => match px_find p.1 C.1 with
    | some a => ac_leV a p.2
    | none => false) && (ac_leS C.2.1 B.2.1 && (B.2.2.1.all (fun q => match ac_fF G C.2.2.1 q.1 q.2.1 with
    | some f => ab_le f q.2.2
    | none => false) && (ac_leX C.2.2.2.1 B.2.2.2.1 && (B.2.2.2.2.1.all (fun i => ac_in i C.2.2.2.2.1) && (B.2.2.2.2.2.all (ac_leR ctr C.2.2.2.2.2) && ac_isI ctr B)))))
def ac_prog (ctr : Option (Nat × Bool)) (C : ac_S) : Bool :=
  match ctr with
  | some (j, up) => match px_find j C.2.2.2.2.2 with
    | some d => match up with
      | true => decide (0 < d)
      | false => decide (d < 0)
    | none => false
  | none => false
def ac_clean (ctr : Option (Nat × Bool)) (A : ac_S) : ac_S :=
  match ctr with
  | some (j, _) => (A.1, A.2.1, A.2.2.1, A.2.2.2.1, A.2.2.2.2.1, ac_no j A.2.2.2.2.2)
  | none => A
def ac_enter (G : List ab_C) (ctr : Option (Nat × Bool)) (A : ac_S) : List ac_S → Option (List ac_S)
  | [] => none
  | B :: r => match ac_le G ctr A B with
    | true => some (B :: r)
    | false => ac_enter G ctr A r
def ac_go (G : List ab_C) (ctr : Option (Nat × Bool)) (f : ac_S → Option (List ac_Out × List (Nat × ac_S))) (pc : Nat) : List ac_S → Option (List ac_Out × List (Nat × ac_S))
  | [] => some ([], [])
  | B :: r => match f B with
    | none => none
    | some o => match (o.2.filter (fun q => Nat.beq q.1 pc)).all (fun q => (ac_prog ctr q.2 && ac_le G ctr q.2 B) || r.any (fun B' => ac_le G ctr q.2 B')) with
      | false => none
      | true => match ac_go G ctr f pc r with
        | none => none
        | some y => some (o.1 ++ y.1, (o.2.filter (fun q => !(Nat.beq q.1 pc))).map (fun q => (q.1, ac_clean ctr q.2)) ++ y.2)
def ac_argm : List ab_V → List ab_F → Bool
  | [], [] => true
  | a :: r, f :: s => ab_le a.1 f && ac_argm r s
  | _, _ => false
def ac_pick (mi : Nat) (args : List ab_V) : List ac_K → Option ac_K
  | [] => none
  | κ :: r => match Nat.beq κ.1 mi && ac_argm args κ.2.1 with
    | true => some κ
    | false => ac_pick mi args r
def ac_rfn (G : List ab_C) (args : List ab_V) : List (Nat × ab_B) → ac_S → ac_S
  | [], A => A
  | q :: r, A => ac_rfn G args r (match args[q.1]? with
    | some a => match a.2 with
      | some l => match Nat.beq l.1 1 with
        | true => A
        | false => ac_refine G A (some l) q.2
      | none => A
    | none => A)
def ac_after (G : List ab_C) (FA : Nat → List Nat) (κ : ac_K) (A : ac_S) (k : Nat) (args : List ab_V) (o : Option ab_F × List (Nat × ab_B) × List Nat) : ac_S :=
  ac_rfn G args o.2.1 (A.1.map (fun p => (p.1, ab_kill ab_isf p.2)), (o.1.map (fun f => ((f, none) : ab_V))).toList ++ (A.2.1.drop k).map (ab_kill ab_isf), A.2.2.1.filter (fun q => !(ac_has κ.2.2.2.2.1 q.1 q.2.1)), A.2.2.2.1, o.2.2 ++ ac_flt FA κ.2.2.2.2.2 A.2.2.2.2.1, A.2.2.2.2.2)
def ac_kok (ws : List (Nat × Nat)) (wa : List Nat) (κ : ac_K) (A : ac_S) : Bool :=
  κ.2.2.1.all (fun i => ac_in i A.2.2.2.2.1) && (κ.2.2.2.2.1.all (fun q => ac_has ws q.1 q.2) && κ.2.2.2.2.2.all (fun c => ac_in c wa))
def ac_ret (M : px_M) (i : Instr) (A : ac_S) : Option ac_Out :=
  match i, A.2.1, px_rt M with
  | .ireturn, [((0, a1, a2, r), o)], some .int => some (some (ab_kill ab_isl ((0, a1, a2, r), o)), A.2.2.1, A.2.2.2.1, A.2.2.2.2.1)
  | .ireturn, [((0, a1, a2, r), o)], some .boolean => if 0 ≤ a1 ∧ a2 ≤ 1 then some (some (ab_kill ab_isl ((0, a1, a2, r), o)), A.2.2.1, A.2.2.2.1, A.2.2.2.2.1) else none
  | .lreturn, [((1, x), o)], some .long => some (some (ab_kill ab_isl ((1, x), o)), A.2.2.1, A.2.2.2.1, A.2.2.2.2.1)
  | .return_, [], none => some (none, A.2.2.1, A.2.2.2.1, A.2.2.2.2.1)
  | _, _, _ => none
def ac_back (A : ac_S) (k : Nat) (o : ac_Out) : ac_S :=
  (A.1.map (fun p => (p.1, ab_kill ab_isf p.2)), o.1.toList ++ (A.2.1.drop k).map (ab_kill ab_isf), o.2.1, o.2.2.1, o.2.2.2, A.2.2.2.2.2)
def ac_cl (G : List ab_C) (ci c : Nat) : Bool := match G[c]? with
  | some (.inl (ci', _)) => Nat.beq ci' ci
  | _ => false
def ac_leO (G : List ab_C) (o p : ac_Out) : Bool :=
  (match o.1, p.1 with
    | none, none => true
    | some a, some b => ac_leV a b
    | _, _ => false) && (p.2.1.all (fun q => match ac_fF G o.2.1 q.1 q.2.1 with
    | some f => ab_le f q.2.2
    | none => false) && (ac_leX o.2.2.1 p.2.2.1 && p.2.2.2.all (fun i => ac_in i o.2.2.2)))
/-- ends that others hold too are left out -/
def ac_prune (G : List ab_C) : List ac_Out → List ac_Out
  | [] => []
  | o :: r => match (ac_prune G r).any (ac_leO G o) with
    | true => ac_prune G r
    | false => o :: (ac_prune G r).filter (fun p => !(ac_leO G p o))
def ac_run (T : px_T) (P : List px_M) (G : List ab_C) (FA : Nat → List Nat) (K : List ac_K) (lps : List ac_L) (ws : List (Nat × Nat)) (wa : List Nat) : Nat → Bool → List Nat → Nat → px_M → Nat → ac_S → Option (List ac_Out × List (Nat × ac_S))
  | 0, _, _, _, _, _, _ => none
  | n + 1, fresh, stop, me, M, pc, A =>
    match !fresh && ac_in pc stop with
    | true => some ([], [(pc, A)])
    | false => match (match fresh with
        | true => none
        | false => ac_loop me pc lps) with
      | some (ctr, wd) => match ac_enter G ctr A (wd.map (ac_widen ctr A)) with
        | none => none
        | some Bs => ac_go G ctr (fun B => ac_run T P G FA K lps ws wa n true (pc :: stop) me M pc B) pc Bs
      | none => match px_find pc (px_cd M) with
        | none => none
        | some (_, i) => match ac_ret M i A with
          | some o => some ([o], [])
          | none =>
            let call (k mi : Nat) : Option (List ac_Out × List (Nat × ac_S)) := match P[mi]? with
              | none => none
              | some N => match ab_callok N k A.2.1 with
                | false => none
                | true => match ac_pick mi (A.2.1.take k).reverse K with
                  | some κ => match ac_kok ws wa κ A with
                    | false => none
                    | true => ab_all (fun o => ac_run T P G FA K lps ws wa n false stop me M (pc + 3) (ac_after G FA κ A k (A.2.1.take k).reverse o)) κ.2.2.2.1
                  | none => match ac_run T P G FA K lps ws wa n false [] mi N 0 (ab_args 0 ((A.2.1.take k).reverse.map (ab_kill ab_isl)), [], A.2.2.1, A.2.2.2.1, A.2.2.2.2.1, []) with
                    | some (outs, []) => ab_all (fun o => ac_run T P G FA K lps ws wa n false stop me M (pc + 3) (ac_back A k o)) (ac_prune G outs)
                    | _ => none
            match i with
            | .invokevirtual idx => match px_find idx (px_cp M) with
              | some (1, mi, na, ci) => match A.2.1[na]? with
                | some ((2, _, _, cs), _) => match cs.all (ac_cl G ci.toNat) with
                  | true => call (na + 1) mi
                  | false => none
                | _ => none
              | _ => none
            | .invokestatic idx => match px_find idx (px_cp M) with
              | some (2, mi, na, _) => call na mi
              | some (11, w, _, _) => match ab_math w A.2.1, decide (((A.2.1.drop 2).map ab_cat).sum ≤ 8) with
                | some st', true => ac_run T P G FA K lps ws wa n false stop me M (pc + 3) (A.1, st', A.2.2)
                | _, _ => none
              | _ => none
            | _ => match ac_step T G FA ws wa M pc A with
              | none => none
              | some outs => ab_all (fun q => ac_run T P G FA K lps ws wa n false stop me M q.1 q.2) outs
/-! what a contract says -/
def ac_argv : List ab_F → List Value → Prop
  | [], [] => True
  | f :: r, v :: s => ab_f f v ∧ ac_argv r s
  | _, _ => False
def ac_rv (f : Option ab_F) (r : Option Value) : Prop := match f, r with
  | none, none => True
  | some f, some v => ab_f f v
  | _, _ => False
def ac_ok (T : px_T) (P : List px_M) (G : List ab_C) (Φ : Nat → px_H → Prop) (κ : ac_K) : Prop :=
  ∀ (av : List Value) (hp : px_H), ab_h G hp → ac_argv κ.2.1 av → (∀ i ∈ κ.2.2.1, Φ i hp) → ∃ (r : Option Value) (hp' : px_H) (o : Option ab_F × List (Nat × ab_B) × List Nat), o ∈ κ.2.2.2.1 ∧ px_C T P κ.1 av hp r hp' ∧ ab_h G hp' ∧ ac_rv o.1 r ∧
    (∀ q ∈ o.2.1, ∃ v z, av[q.1]? = some v ∧ ab_num v = some z ∧ ab_in q.2 z) ∧ (∀ i ∈ o.2.2, Φ i hp') ∧ px_fr κ.2.2.2.2.1 κ.2.2.2.2.2 hp hp'
def ac_o' (G : List ab_C) (Φ : Nat → px_H → Prop) (xs : Nat → Int32) (o : ac_Out) (r : Option Value) (hp : px_H) : Prop :=
  (match o.1, r with
    | none, none => True
    | some a, some v => ab_v xs [] hp a v
    | _, _ => False) ∧ ab_h G hp ∧ ac_ov o.2.1 hp ∧ ab_x o.2.2.1 xs ∧ ∀ i ∈ o.2.2.2, Φ i hp
def ac_Fin (T : px_T) (X : Option (Nat × (Nat → Int32))) (P : List px_M) (M : px_M) (G : List ab_C) (Φ : Nat → px_H → Prop) (ws : List (Nat × Nat)) (wa : List Nat) (xs : Nat → Int32) (γ : Nat → Int) (pc : Nat) (lv : List (Nat × Value)) (st : List Value) (hp : px_H) (outs : List ac_Out) (stops : List (Nat × ac_S)) : Prop :=
  (∃ (r : Option Value) (hp' : px_H) (o : ac_Out), o ∈ outs ∧ ac_o' G Φ xs o r hp' ∧ px_fr ws wa hp hp' ∧ ∃ n0 k : Nat, ∀ n, n0 ≤ n → ∀ N0 nc ns : Nat, nc ≤ (px_rm M).cells → ns ≤ (px_rm M).slots → px_run T X P (px_call T P ab_nn n) M N0 k (pc, lv, st, hp, nc, ns) = some (r, hp')) ∨
  (∃ (pc' : Nat) (lv' : List (Nat × Value)) (st' : List Value) (hp' : px_H) (A' : ac_S), (pc', A') ∈ stops ∧ ac_s G Φ xs γ A' lv' st' hp' ∧ px_fr ws wa hp hp' ∧ ∃ n0 k : Nat, ∀ n, n0 ≤ n → ∀ N0 nc ns : Nat, nc ≤ (px_rm M).cells → ns ≤ (px_rm M).slots → px_its T X P (px_call T P ab_nn n) M N0 k (pc, lv, st, hp, nc, ns) = some (pc', lv', st', hp', nc, ns))
section ac_s5
variable {T : px_T} {X : Option (Nat × (Nat → Int32))} {P : List px_M} {G : List ab_C} {FA : Nat → List Nat} {Φ : Nat → px_H → Prop} {ws : List (Nat × Nat)} {wa : List Nat} {xs : Nat → Int32} {γ : Nat → Int} {M : px_M}
theorem ac_Fin_its {pc pc1 : Nat} {lv lv1 : List (Nat × Value)} {st st1 : List Value} {hp hp1 : px_H} {outs outs1 : List ac_Out} {stops stops1 : List (Nat × ac_S)}
    (h : ∃ n0 k : Nat, ∀ n, n0 ≤ n → ∀ N0 nc ns : Nat, nc ≤ (px_rm M).cells → ns ≤ (px_rm M).slots → px_its T X P (px_call T P ab_nn n) M N0 k (pc, lv, st, hp, nc, ns) = some (pc1, lv1, st1, hp1, nc, ns))
    (hfr : px_fr ws wa hp hp1) (hF : ac_Fin T X P M G Φ ws wa xs γ pc1 lv1 st1 hp1 outs1 stops1) (ho : ∀ o ∈ outs1, o ∈ outs) (hs : ∀ q ∈ stops1, q ∈ stops) : ac_Fin T X P M G Φ ws wa xs γ pc lv st hp outs stops := by
  obtain ⟨n1, k1, h1⟩ := h
  rcases hF with ⟨r, hp', o, m1, m2, m3, n0, k, h2⟩ | ⟨pc', lv', st', hp', A', m1, m2, m3, n0, k, h2⟩
  · refine Or.inl ⟨r, hp', o, ho _ m1, m2, px_fr_tr hfr m3, max n0 n1, k1 + k, fun n hn N0 nc ns q1 q2 => ?_⟩
    exact px_its_run k1 (h1 n (by omega) N0 nc ns q1 q2) (h2 n (by omega) N0 nc ns q1 q2)
  · refine Or.inr ⟨pc', lv', st', hp', A', hs _ m1, m2, px_fr_tr hfr m3, max n0 n1, k1 + k, fun n hn N0 nc ns q1 q2 => ?_⟩
    exact px_its_add k1 (h1 n (by omega) N0 nc ns q1 q2) (h2 n (by omega) N0 nc ns q1 q2)
theorem ac_ret_ok {pc len : Nat} {i : Instr} {A : ac_S} {o : ac_Out} {lv : List (Nat × Value)} {st : List Value} {hp : px_H} (hf : px_find pc (px_cd M) = some (len, i)) (h : ac_ret M i A = some o) (hA : ac_s G Φ xs γ A lv st hp) :
    ∃ r : Option Value, ac_o' G Φ xs o r hp ∧ ∀ (call : Nat → List Value → px_H → Option px_A) (N0 nc ns : Nat), nc ≤ (px_rm M).cells → ns ≤ (px_rm M).slots → px_step T X P call M N0 (pc, lv, st, hp, nc, ns) = some (.inr (r, hp)) := by
  obtain ⟨h1, h2, h3, h4, h5, h6, h7⟩ := hA
  unfold ac_ret at h
  split at h
  · rename_i a1 a2 r9 o9 hst hrt
    cases h
    rw [hst] at h2
    obtain ⟨v, s, rfl, g1, k1⟩ := ab_st_cons h2
    obtain ⟨x, rfl, hx⟩ := ab_f0 g1.1
    cases s with
    | cons => exact absurd k1 (by simp [ab_st])
    | nil => exact ⟨some (.int x), ⟨ab_kill_ok (fun l w q1 q2 => ab_isl_at l w q1 q2) g1, h3, h4, h5, h6⟩, fun call N0 nc ns q1 q2 => by simp only [px_step, hf, px_alu, hrt, decide_eq_true q1, decide_eq_true q2, px_zr]⟩
  · rename_i a1 a2 r9 o9 hst hrt
    split at h
    · rename_i hb
      cases h
      rw [hst] at h2
      obtain ⟨v, s, rfl, g1, k1⟩ := ab_st_cons h2
      obtain ⟨x, rfl, hx⟩ := ab_f0 g1.1
      have hz : (decide (x = 0) || decide (x = 1)) = true := by
        have b0 := hx.1
        have b1 := hx.2
        simp only at b0 b1
        simp only [Bool.or_eq_true, decide_eq_true_eq, ← Int32.toInt_inj]
        have z0 : (0 : Int32).toInt = 0 := rfl
        have z1 : (1 : Int32).toInt = 1 := rfl
        omega
      cases s with
      | cons => exact absurd k1 (by simp [ab_st])
      | nil => exact ⟨some (.int x), ⟨ab_kill_ok (fun l w q1 q2 => ab_isl_at l w q1 q2) g1, h3, h4, h5, h6⟩, fun call N0 nc ns q1 q2 => by simp only [px_step, hf, px_alu, hrt, decide_eq_true q1, decide_eq_true q2, px_zr, hz]⟩
    · cases h
  · rename_i x9 o9 hst hrt
    cases h
    rw [hst] at h2
    obtain ⟨v, s, rfl, g1, k1⟩ := ab_st_cons h2
    obtain ⟨z1, z2, z3⟩ := x9
    obtain ⟨x, rfl, hx⟩ := ab_f1 g1.1
    cases s with
    | cons => exact absurd k1 (by simp [ab_st])
    | nil => exact ⟨some (.long x), ⟨ab_kill_ok (fun l w q1 q2 => ab_isl_at l w q1 q2) g1, h3, h4, h5, h6⟩, fun call N0 nc ns q1 q2 => by simp only [px_step, hf, px_alu, hrt, decide_eq_true q1, decide_eq_true q2]⟩
  · rename_i hst hrt
    cases h
    rw [hst] at h2
    cases st with
    | cons => exact absurd h2 (by simp [ab_st])
    | nil => exact ⟨none, ⟨trivial, h3, h4, h5, h6⟩, fun call N0 nc ns q1 q2 => by simp only [px_step, hf, px_alu, hrt, decide_eq_true q1, decide_eq_true q2]⟩
  · cases h
theorem ac_eqL_ok {l m : ab_L} (h : ac_eqL l m = true) : l = m := by
  obtain ⟨a, b, c⟩ := l
  obtain ⟨a', b', c'⟩ := m
  simp only [ac_eqL, Bool.and_eq_true] at h
  rw [Nat.eq_of_beq_eq_true h.1, Nat.eq_of_beq_eq_true h.2.1, Nat.eq_of_beq_eq_true h.2.2]
theorem ac_leV_ok {lv : List (Nat × Value)} {hp : px_H} {a b : ab_V} {v : Value} (h : ac_leV a b = true) (hv : ab_v xs lv hp a v) : ab_v xs lv hp b v := by
  simp only [ac_leV, Bool.and_eq_true] at h
  refine ⟨ab_le_ok h.1 hv.1, fun l hl => ?_⟩
  have h2 := h.2
  rw [hl] at h2
  rcases ha : a.2 with _ | m
  · rw [ha] at h2; cases h2
  · rw [ha] at h2
    exact hv.2 l (by rw [ha, ac_eqL_ok h2])
theorem ac_leS_ok {lv : List (Nat × Value)} {hp : px_H} : ∀ {as bs : List ab_V} {st : List Value}, ac_leS as bs = true → ab_st xs lv hp as st → ab_st xs lv hp bs st := by
  intro as
  induction as with
  | nil =>
    intro bs st h hs
    cases bs with
    | nil => exact hs
    | cons => cases h
  | cons a r ih =>
    intro bs st h hs
    cases bs with
    | nil => cases h
    | cons b s =>
      obtain ⟨v, s', rfl, h1, h2⟩ := ab_st_cons hs
      simp only [ac_leS, Bool.and_eq_true] at h
      exact ⟨ac_leV_ok h.1 h1, ih h.2 h2⟩
theorem ac_leX_ok : ∀ {as bs : List (Int × Int)}, ac_leX as bs = true → ∀ (j : Nat) (b : Int × Int), bs[j]? = some b → ∃ a, as[j]? = some a ∧ b.1 ≤ a.1 ∧ a.2 ≤ b.2 := by
  intro as
  induction as with
  | nil =>
    intro bs h j b hb
    cases bs with
    | nil => simp at hb
    | cons => cases h
  | cons a r ih =>
    intro bs h j b hb
    cases bs with
    | nil => simp at hb
    | cons b0 s =>
      simp only [ac_leX, Bool.and_eq_true, decide_eq_true_eq] at h
      cases j with
      | zero => simp only [List.getElem?_cons_zero, Option.some.injEq] at hb; subst hb; exact ⟨a, rfl, h.1.1, h.1.2⟩
      | succ j => exact ih h.2 j b hb
theorem ac_leO_ok {hp : px_H} {o p : ac_Out} {r : Option Value} (h : ac_leO G o p = true) (ho : ac_o' G Φ xs o r hp) : ac_o' G Φ xs p r hp := by
  obtain ⟨h1, h2, h3, h4, h5⟩ := ho
  simp only [ac_leO, Bool.and_eq_true, List.all_eq_true] at h
  obtain ⟨l1, l2, l3, l4⟩ := h
  refine ⟨?_, h2, fun q hq v hv => ?_, fun j b hb => ?_, fun i hi => h5 i (ac_in_ok (l4 i hi))⟩
  · cases e1 : o.1 with
    | none =>
      rw [e1] at l1 h1
      cases e2 : p.1 with
      | none => exact h1
      | some b => rw [e2] at l1; cases l1
    | some a =>
      rw [e1] at l1 h1
      cases e2 : p.1 with
      | none => rw [e2] at l1; cases l1
      | some b =>
        rw [e2] at l1
        cases r with
        | none => exact absurd h1 (by simp)
        | some v => exact ac_leV_ok l1 h1
  · have := l2 q hq
    split at this
    · rename_i f hf
      exact ab_le_ok this (ac_fF_ok h2 h3 hf hv)
    · cases this
  · obtain ⟨a, ha, e1, e2⟩ := ac_leX_ok l3 j b hb
    have := h4 j a ha
    exact ⟨Int.le_trans e1 this.1, Int.le_trans this.2 e2⟩
theorem ac_prune_ok {hp : px_H} {r : Option Value} : ∀ {outs : List ac_Out} {o : ac_Out}, o ∈ outs → ac_o' G Φ xs o r hp → ∃ p ∈ ac_prune G outs, ac_o' G Φ xs p r hp := by
  intro outs
  induction outs with
  | nil => intro o h; cases h
  | cons q t ih =>
    intro o hm ho
    unfold ac_prune
    rcases List.mem_cons.mp hm with rfl | hm
    · split
      · rename_i ha
        obtain ⟨p, hp1, hp2⟩ := List.any_eq_true.mp ha
        exact ⟨p, hp1, ac_leO_ok hp2 ho⟩
      · exact ⟨o, List.mem_cons_self, ho⟩
    · obtain ⟨p, hp1, hp2⟩ := ih hm ho
      split
      · exact ⟨p, hp1, hp2⟩
      · cases hl : ac_leO G p q with
        | true => exact ⟨q, List.mem_cons_self, ac_leO_ok hl hp2⟩
        | false => exact ⟨p, List.mem_cons_of_mem _ (List.mem_filter.mpr ⟨hp1, by simp only [hl]; rfl⟩), hp2⟩
theorem ac_le_ok {ctr : Option (Nat × Bool)} {C B : ac_S} {lv : List (Nat × Value)} {st : List Value} {hp : px_H} (h : ac_le G ctr C B = true) (hC : ac_s G Φ xs γ C lv st hp) :
    ∃ γ' : Nat → Int, (∀ i, (∀ j u, ctr = some (j, u) → i ≠ j) → γ' i = γ i) ∧ ac_s G Φ xs γ' B lv st hp ∧ ∀ j u, ctr = some (j, u) → ∃ x : Int32, px_find j lv = some (.int x) ∧ γ' j = x.toInt := by
  obtain ⟨h1, h2, h3, h4, h5, h6, h7⟩ := hC
  simp only [ac_le, Bool.and_eq_true, List.all_eq_true] at h
  obtain ⟨l1, l2, l3, l4, l5, l6, l7⟩ := h
  have hlv : ab_lv xs hp B.1 lv := by
    intro j a hm
    have := l1 _ hm
    simp only at this
    split at this
    · rename_i b hb
      obtain ⟨v, hv, hav⟩ := h1 _ _ (px_find_mem hb)
      exact ⟨v, hv, ac_leV_ok this hav⟩
    · cases this
  have hov : ac_ov B.2.2.1 hp := by
    intro q hq v hv
    have := l3 q hq
    split at this
    · rename_i f hf
      exact ab_le_ok this (ac_fF_ok h3 h4 hf hv)
    · cases this
  have hx : ab_x B.2.2.2.1 xs := by
    intro j b hb
    obtain ⟨a, ha, e1, e2⟩ := ac_leX_ok l4 j b hb
    have := h5 j a ha
    exact ⟨Int.le_trans e1 this.1, Int.le_trans this.2 e2⟩
  have hfl : ∀ i ∈ B.2.2.2.2.1, Φ i hp := fun i hi => h6 i (ac_in_ok (l5 i hi))
  have hany : ∀ q : Nat × Int, (C.2.2.2.2.2.any fun p => Nat.beq p.1 q.1 && decide (p.2 = q.2)) = true → q ∈ C.2.2.2.2.2 := by
    intro q hq
    simp only [List.any_eq_true, Bool.and_eq_true, decide_eq_true_eq] at hq
    obtain ⟨⟨p1, p2⟩, hm, e1, e2⟩ := hq
    obtain ⟨q1, q2⟩ := q
    have e1 := Nat.eq_of_beq_eq_true e1
    simp only at e1 e2
    subst e1 e2
    exact hm
  cases ctr with
  | none => exact ⟨γ, fun _ _ => rfl, ⟨hlv, l2 |> fun h => ac_leS_ok h h2, h3, hov, hx, hfl, fun q hq => h7 q (hany q (l6 q hq))⟩, fun j u he => by cases he⟩
  | some ju =>
    obtain ⟨j, u⟩ := ju
    simp only [ac_isI] at l7
    split at l7
    · rename_i a ha
      obtain ⟨v, hv, hav⟩ := hlv _ _ (px_find_mem ha)
      obtain ⟨⟨k, a1, a2, r⟩, o⟩ := a
      obtain ⟨x, rfl, -⟩ := ab_k0 l7 hav.1
      refine ⟨fun i => if i = j then x.toInt else γ i, fun i hi => if_neg (hi j u rfl), ⟨hlv, ac_leS_ok l2 h2, h3, hov, hx, hfl, fun q hq => ?_⟩, fun j' u' he => ?_⟩
      · have := l6 q hq
        simp only [ac_leR] at this
        split at this
        · rename_i hb
          have hb := Nat.eq_of_beq_eq_true hb
          have h0 := of_decide_eq_true this
          refine ⟨x, by rw [hb]; exact hv, ?_⟩
          show x.toInt = (if q.1 = j then x.toInt else γ q.1) + q.2
          rw [if_pos hb, h0]
          omega
        · rename_i hb
          obtain ⟨z, hz1, hz2⟩ := h7 q (hany q this)
          exact ⟨z, hz1, by show z.toInt = (if q.1 = j then x.toInt else γ q.1) + q.2; rw [if_neg (Nat.ne_of_beq_eq_false hb)]; exact hz2⟩
      · cases he
        exact ⟨x, hv, if_pos rfl⟩
    · cases l7
theorem ac_clean_ok {ctr : Option (Nat × Bool)} {A : ac_S} {γ' : Nat → Int} {lv : List (Nat × Value)} {st : List Value} {hp : px_H} (hA : ac_s G Φ xs γ' A lv st hp) (hγ : ∀ i, (∀ j u, ctr = some (j, u) → i ≠ j) → γ' i = γ i) : ac_s G Φ xs γ (ac_clean ctr A) lv st hp := by
  obtain ⟨h1, h2, h3, h4, h5, h6, h7⟩ := hA
  unfold ac_clean
  split
  · rename_i j u
    refine ⟨h1, h2, h3, h4, h5, h6, fun q hq => ?_⟩
    obtain ⟨hm, hk⟩ := List.mem_filter.mp hq
    simp only [Bool.not_eq_true'] at hk
    obtain ⟨x, e1, e2⟩ := h7 q hm
    refine ⟨x, e1, ?_⟩
    rw [e2, hγ q.1 (fun j' u' he => by cases he; exact Nat.ne_of_beq_eq_false hk)]
  · refine ⟨h1, h2, h3, h4, h5, h6, fun q hq => ?_⟩
    obtain ⟨x, e1, e2⟩ := h7 q hq
    exact ⟨x, e1, by rw [e2, hγ q.1 (fun j' u' he => by cases he)]⟩
/-- how far a counter may still go -/
def ac_ms (up : Bool) (x : Int32) : Nat := match up with
  | true => (2147483647 - x.toInt).toNat
  | false => (x.toInt + 2147483648).toNat
theorem ac_go_ok {ctr : Option (Nat × Bool)} {f : ac_S → Option (List ac_Out × List (Nat × ac_S))} {pc : Nat}
    (hf : ∀ (B : ac_S) (o : List ac_Out × List (Nat × ac_S)), f B = some o → ∀ (γ' : Nat → Int) (lv : List (Nat × Value)) (st : List Value) (hp : px_H), ac_s G Φ xs γ' B lv st hp → ac_Fin T X P M G Φ ws wa xs γ' pc lv st hp o.1 o.2) :
    ∀ (Bs : List ac_S) (y : List ac_Out × List (Nat × ac_S)), ac_go G ctr f pc Bs = some y → ∀ B ∈ Bs, ∀ (γ' : Nat → Int) (lv : List (Nat × Value)) (st : List Value) (hp : px_H), (∀ i, (∀ j u, ctr = some (j, u) → i ≠ j) → γ' i = γ i) → ac_s G Φ xs γ' B lv st hp →
      (∀ j u, ctr = some (j, u) → ∃ x : Int32, px_find j lv = some (.int x) ∧ γ' j = x.toInt) → ac_Fin T X P M G Φ ws wa xs γ pc lv st hp y.1 y.2 := by
  intro Bs
  induction Bs with
  | nil => intro y _ B hB; cases hB
  | cons B0 r ih =>
    intro y hy
    unfold ac_go at hy
    split at hy
    · cases hy
    rename_i o hfo
    split at hy
    · cases hy
    rename_i hall
    split at hy
    · cases hy
    rename_i y' hy'
    cases hy
    have hrest : ∀ B ∈ r, ∀ (γ' : Nat → Int) (lv : List (Nat × Value)) (st : List Value) (hp : px_H), (∀ i, (∀ j u, ctr = some (j, u) → i ≠ j) → γ' i = γ i) → ac_s G Φ xs γ' B lv st hp →
        (∀ j u, ctr = some (j, u) → ∃ x : Int32, px_find j lv = some (.int x) ∧ γ' j = x.toInt) → ac_Fin T X P M G Φ ws wa xs γ pc lv st hp (o.1 ++ y'.1) ((o.2.filter (fun q => !(Nat.beq q.1 pc))).map (fun q => (q.1, ac_clean ctr q.2)) ++ y'.2) := by
      intro B hB γ' lv st hp h1 h2 h3
      exact ac_Fin_its ⟨0, 0, fun _ _ _ _ _ _ _ => rfl⟩ (px_fr_rf _ _ _) (ih y' hy' B hB γ' lv st hp h1 h2 h3) (fun _ h => List.mem_append_right _ h) (fun _ h => List.mem_append_right _ h)
    have key : ∀ (m : Nat) (γ' : Nat → Int) (lv : List (Nat × Value)) (st : List Value) (hp : px_H), (∀ i, (∀ j u, ctr = some (j, u) → i ≠ j) → γ' i = γ i) → ac_s G Φ xs γ' B0 lv st hp →
        (∀ j u, ctr = some (j, u) → ∃ x : Int32, px_find j lv = some (.int x) ∧ γ' j = x.toInt ∧ ac_ms u x < m) → ac_Fin T X P M G Φ ws wa xs γ pc lv st hp (o.1 ++ y'.1) ((o.2.filter (fun q => !(Nat.beq q.1 pc))).map (fun q => (q.1, ac_clean ctr q.2)) ++ y'.2) := by
      intro m
      induction m with
      | zero =>
        intro γ' lv st hp h1 h2 h3
        cases hctr : ctr with
        | some ju =>
          obtain ⟨j, u⟩ := ju
          obtain ⟨x, -, -, h9⟩ := h3 j u hctr
          omega
        | none =>
          subst hctr
          rcases hf B0 o hfo γ' lv st hp h2 with ⟨r9, hp', oc, m1, m2, m3, m4⟩ | ⟨pc', lv', st', hp', A', m1, m2, m3, m4⟩
          · exact Or.inl ⟨r9, hp', oc, List.mem_append_left _ m1, m2, m3, m4⟩
          · cases hb : Nat.beq pc' pc with
            | false => exact Or.inr ⟨pc', lv', st', hp', ac_clean none A', List.mem_append_left _ (List.mem_map.mpr ⟨(pc', A'), List.mem_filter.mpr ⟨m1, by simp only [hb]; rfl⟩, rfl⟩), ac_clean_ok m2 h1, m3, m4⟩
            | true =>
              have hq := List.all_eq_true.mp hall (pc', A') (List.mem_filter.mpr ⟨m1, hb⟩)
              have hb := Nat.eq_of_beq_eq_true hb
              subst hb
              simp only [ac_prog, Bool.false_and, Bool.false_or, List.any_eq_true] at hq
              obtain ⟨B', hB', hle⟩ := hq
              obtain ⟨γ2, g1, g2, g3⟩ := ac_le_ok hle m2
              exact ac_Fin_its m4 m3 (hrest B' hB' γ2 lv' st' hp' (fun i hi => (g1 i hi).trans (h1 i hi)) g2 g3) (fun _ h => h) (fun _ h => h)
      | succ m ihm =>
        intro γ' lv st hp h1 h2 h3
        rcases hf B0 o hfo γ' lv st hp h2 with ⟨r9, hp', oc, m1, m2, m3, m4⟩ | ⟨pc', lv', st', hp', A', m1, m2, m3, m4⟩
        · exact Or.inl ⟨r9, hp', oc, List.mem_append_left _ m1, m2, m3, m4⟩
        · cases hb : Nat.beq pc' pc with
          | false => exact Or.inr ⟨pc', lv', st', hp', ac_clean ctr A', List.mem_append_left _ (List.mem_map.mpr ⟨(pc', A'), List.mem_filter.mpr ⟨m1, by simp only [hb]; rfl⟩, rfl⟩), ac_clean_ok m2 h1, m3, m4⟩
          | true =>
            have hq := List.all_eq_true.mp hall (pc', A') (List.mem_filter.mpr ⟨m1, hb⟩)
            have hb := Nat.eq_of_beq_eq_true hb
            subst hb
            simp only [Bool.or_eq_true, Bool.and_eq_true, List.any_eq_true] at hq
            rcases hq with ⟨hprog, hle⟩ | ⟨B', hB', hle⟩
            · obtain ⟨γ2, g1, g2, g3⟩ := ac_le_ok hle m2
              refine ac_Fin_its m4 m3 (ihm γ2 lv' st' hp' (fun i hi => (g1 i hi).trans (h1 i hi)) g2 (fun j u he => ?_)) (fun _ h => h) (fun _ h => h)
              obtain ⟨x', e1, e2⟩ := g3 j u he
              obtain ⟨x, f1, f2, f3⟩ := h3 j u he
              refine ⟨x', e1, e2, ?_⟩
              subst he
              simp only [ac_prog] at hprog
              split at hprog
              · rename_i d hd
                obtain ⟨z, z1, z2⟩ := m2.2.2.2.2.2.2 _ (px_find_mem hd)
                simp only at z1 z2
                rw [e1] at z1
                cases z1
                have b1 := ab_i32 x'
                have b2 := ab_i32 x
                simp only [ab_in, ab_topi] at b1 b2
                rw [f2] at z2
                split at hprog
                · have := of_decide_eq_true hprog
                  simp only [ac_ms] at f3 ⊢
                  omega
                · have := of_decide_eq_true hprog
                  simp only [ac_ms] at f3 ⊢
                  omega
              · cases hprog
            · obtain ⟨γ2, g1, g2, g3⟩ := ac_le_ok hle m2
              exact ac_Fin_its m4 m3 (hrest B' hB' γ2 lv' st' hp' (fun i hi => (g1 i hi).trans (h1 i hi)) g2 g3) (fun _ h => h) (fun _ h => h)
    intro B hB γ' lv st hp h1 h2 h3
    rcases List.mem_cons.mp hB with rfl | hB
    · refine key 4294967296 γ' lv st hp h1 h2 (fun j u he => ?_)
      obtain ⟨x, e1, e2⟩ := h3 j u he
      refine ⟨x, e1, e2, ?_⟩
      have b2 := ab_i32 x
      simp only [ab_in, ab_topi] at b2
      cases u <;> simp only [ac_ms] <;> omega
    · exact hrest B hB γ' lv st hp h1 h2 h3
end ac_s5
end mg_3

section mg_4
/-! the second interpreter is sound -/
section ac_s6
variable {T : px_T} {P : List px_M} {G : List ab_C} {FA : Nat → List Nat} {Φ : Nat → px_H → Prop} {ws : List (Nat × Nat)} {wa : List Nat} {xs : Nat → Int32} {K : List ac_K} {lps : List ac_L}
theorem ac_back_ok {γ : Nat → Int} {A : ac_S} {lv : List (Nat × Value)} {st : List Value} {hp hp' : px_H} {o : ac_Out} {r : Option Value} (hA : ac_s G Φ xs γ A lv st hp) (ho : ac_o' G Φ xs o r hp') (k : Nat) : ac_s G Φ xs γ (ac_back A k o) lv (r.toList ++ st.drop k) hp' := by
  obtain ⟨h1, h2, h3, h4, h5, h6, h7⟩ := hA
  obtain ⟨g1, g2, g3, g4, g5⟩ := ho
  have hP : ∀ l w, ab_isf l = false → ab_at xs lv hp l = some w → ab_at xs lv hp' l = some w := fun l w q1 q2 => ab_isf_at l w q1 q2
  refine ⟨fun j a hm => ?_, ?_, g2, g3, g4, g5, h7⟩
  · obtain ⟨⟨j0, a0⟩, hm0, he⟩ := List.mem_map.mp hm
    cases he
    obtain ⟨v, hv, hav⟩ := h1 _ _ hm0
    exact ⟨v, hv, ab_kill_ok hP hav⟩
  · have hd := ab_kill_st hP (ab_st_drop k h2)
    obtain ⟨oa, oh, ox, of⟩ := o
    cases oa with
    | none => cases r with
      | none => exact hd
      | some v => exact absurd g1 (by simp)
    | some a => cases r with
      | none => exact absurd g1 (by simp)
      | some v => exact ⟨ab_v_mono (fun l w q => ab_nil_at l w q) g1, hd⟩
theorem ac_rfn_ok {γ : Nat → Int} {lv : List (Nat × Value)} {st : List Value} {hp hp' : px_H} {args : List ab_V} {av : List Value} (hargs : ∀ (i : Nat) (a : ab_V) (v : Value), args[i]? = some a → av[i]? = some v → ab_v xs lv hp a v) :
    ∀ {rf : List (Nat × ab_B)} {A : ac_S}, (∀ q ∈ rf, ∃ v z, av[q.1]? = some v ∧ ab_num v = some z ∧ ab_in q.2 z) → ac_s G Φ xs γ A lv st hp' → ac_s G Φ xs γ (ac_rfn G args rf A) lv st hp' := by
  intro rf
  induction rf with
  | nil => intro A _ hA; exact hA
  | cons q r ih =>
    intro A hr hA
    unfold ac_rfn
    refine ih (fun q' h => hr q' (List.mem_cons_of_mem _ h)) ?_
    split
    · rename_i a ha
      split
      · rename_i l hl
        split
        · exact hA
        · rename_i hb
          refine ac_refine_ok hA (fun l' hl' => ?_)
          cases hl'
          obtain ⟨v, z, e1, e2, e3⟩ := hr q List.mem_cons_self
          obtain ⟨w, w1, w2⟩ := (hargs _ _ _ ha e1).2 l hl
          exact ⟨w, z, ab_isf_at l w hb w1, by rw [w2]; exact e2, e3⟩
      · exact hA
    · exact hA
theorem ac_argm_ok {lv : List (Nat × Value)} {hp : px_H} : ∀ {as : List ab_V} {fs : List ab_F} {av : List Value}, ac_argm as fs = true → ab_st xs lv hp as av → ac_argv fs av := by
  intro as
  induction as with
  | nil =>
    intro fs av h hs
    cases fs with
    | nil => cases av <;> first | trivial | exact absurd hs (by simp [ab_st])
    | cons => cases h
  | cons a r ih =>
    intro fs av h hs
    cases fs with
    | nil => cases h
    | cons f s =>
      obtain ⟨v, s', rfl, h1, h2⟩ := ab_st_cons hs
      simp only [ac_argm, Bool.and_eq_true] at h
      exact ⟨ab_le_ok h.1 h1.1, ih h.2 h2⟩
theorem ac_pick_ok {mi : Nat} {args : List ab_V} {κ : ac_K} : ∀ {K : List ac_K}, ac_pick mi args K = some κ → κ ∈ K ∧ κ.1 = mi ∧ ac_argm args κ.2.1 = true := by
  intro K
  induction K with
  | nil => intro h; cases h
  | cons q r ih =>
    intro h
    unfold ac_pick at h
    split at h
    · rename_i hb
      cases h
      simp only [Bool.and_eq_true] at hb
      exact ⟨List.mem_cons_self, Nat.eq_of_beq_eq_true hb.1, hb.2⟩
    · obtain ⟨h1, h2⟩ := ih h
      exact ⟨List.mem_cons_of_mem _ h1, h2⟩
theorem ac_st_get {lv : List (Nat × Value)} {hp : px_H} : ∀ {as : List ab_V} {st : List Value} {i : Nat} {a : ab_V} {v : Value}, ab_st xs lv hp as st → as[i]? = some a → st[i]? = some v → ab_v xs lv hp a v := by
  intro as
  induction as with
  | nil => intro st i a v _ h; simp at h
  | cons b r ih =>
    intro st i a v hs ha hv
    obtain ⟨u, s, rfl, h1, h2⟩ := ab_st_cons hs
    cases i with
    | zero =>
      simp only [List.getElem?_cons_zero, Option.some.injEq] at ha hv
      subst ha hv
      exact h1
    | succ i => exact ih h2 ha hv
theorem ac_after_ok (hFl : ac_Fl FA Φ) (hFG : ∀ i, ∀ c ∈ FA i, ∃ q, G[c]? = some (.inr q)) {γ : Nat → Int} {A : ac_S} {lv : List (Nat × Value)} {st : List Value} {hp hp' : px_H} {κ : ac_K} {o : Option ab_F × List (Nat × ab_B) × List Nat} {r : Option Value} {k : Nat} (hA : ac_s G Φ xs γ A lv st hp) (hG : ab_h G hp') (hr : ac_rv o.1 r)
    (hrf : ∀ q ∈ o.2.1, ∃ v z, (st.take k).reverse[q.1]? = some v ∧ ab_num v = some z ∧ ab_in q.2 z) (hfl : ∀ i ∈ o.2.2, Φ i hp') (hfr : px_fr κ.2.2.2.2.1 κ.2.2.2.2.2 hp hp') : ac_s G Φ xs γ (ac_after G FA κ A k (A.2.1.take k).reverse o) lv (r.toList ++ st.drop k) hp' := by
  obtain ⟨h1, h2, h3, h4, h5, h6, h7⟩ := hA
  have hargs := ab_st_rev (ab_st_take k h2)
  refine ac_rfn_ok (hp := hp) (av := (st.take k).reverse) (fun i a v ha hv => ac_st_get hargs ha hv) hrf ?_
  have hP : ∀ l w, ab_isf l = false → ab_at xs lv hp l = some w → ab_at xs lv hp' l = some w := fun l w q1 q2 => ab_isf_at l w q1 q2
  refine ⟨fun j a hm => ?_, ?_, hG, fun q hq v hv => ?_, h5, fun i hi => ?_, h7⟩
  · obtain ⟨⟨j0, a0⟩, hm0, he⟩ := List.mem_map.mp hm
    cases he
    obtain ⟨v, hv, hav⟩ := h1 _ _ hm0
    exact ⟨v, hv, ab_kill_ok hP hav⟩
  · have hd := ab_kill_st hP (ab_st_drop k h2)
    obtain ⟨oa, ob, oc⟩ := o
    cases oa with
    | none => cases r with
      | none => exact hd
      | some v => exact absurd hr (by simp [ac_rv])
    | some a => cases r with
      | none => exact absurd hr (by simp [ac_rv])
      | some v => exact ⟨⟨hr, ab_o_none _ _ _ _⟩, hd⟩
  · obtain ⟨hm, hk⟩ := List.mem_filter.mp hq
    simp only [Bool.not_eq_true'] at hk
    have hnot : (q.1, q.2.1) ∉ κ.2.2.2.2.1 := by
      intro hin
      have : ac_has κ.2.2.2.2.1 q.1 q.2.1 = true := by
        simp only [ac_has, List.any_eq_true, Bool.and_eq_true]
        exact ⟨_, hin, Nat.beq_refl _, Nat.beq_refl _⟩
      rw [this] at hk
      cases hk
    refine h4 q hm v ?_
    unfold ac_fv at hv ⊢
    rcases hc : hp[q.1]? with _ | (x | ⟨ci, vs⟩)
    · have hlen : hp'.length = hp.length := by rw [← hG.1, h3.1]
      have hn : hp'[q.1]? = none := by
        rw [List.getElem?_eq_none_iff] at hc ⊢
        omega
      rw [hn] at hv
      cases hv
    · exfalso
      have hlt := (List.getElem?_eq_some_iff.mp hc).1
      rcases hg : G[q.1]? with _ | a
      · rw [List.getElem?_eq_none_iff, h3.1] at hg
        omega
      · have e1 := h3.2 _ _ _ hg hc
        obtain ⟨y, hy, e2⟩ := ac_cell hG hg
        rw [hy] at hv
        cases a with
        | inl a => exact absurd e1 (by simp [ab_c])
        | inr a => cases y with
          | inl y => cases hv
          | inr y => exact absurd e2 (by simp [ab_c])
    · obtain ⟨vs', f1, f2, f3⟩ := hfr.2 _ _ _ hc
      rw [f1] at hv
      simp only at hv ⊢
      rw [← f3 _ hnot]
      exact hv
  · rcases List.mem_append.mp hi with hi | hi
    · exact hfl i hi
    · obtain ⟨hm, hk⟩ := List.mem_filter.mp hi
      refine hFl i hp hp' (fun c hc => ?_) (h6 i hm)
      have hnot : c ∉ κ.2.2.2.2.2 := by
        intro hin
        have := List.all_eq_true.mp hk c hin
        simp only [Bool.not_eq_true'] at this
        exact ac_in_no this hc
      obtain ⟨q, hq⟩ := hFG i c hc
      obtain ⟨x, hx, hxc⟩ := ac_cell h3 hq
      cases x with
      | inr y => exact absurd hxc (by simp [ab_c])
      | inl y => rw [hfr.1 c y hnot hx, hx]
set_option maxHeartbeats 8000000 in
theorem ac_run_ok (hFl : ac_Fl FA Φ) (hFG : ∀ i, ∀ c ∈ FA i, ∃ q, G[c]? = some (.inr q)) (hK : ∀ κ ∈ K, ac_ok T P G Φ κ) :
    ∀ (n : Nat) (fresh : Bool) (stop : List Nat) (me : Nat) (M : px_M) (pc : Nat) (A : ac_S) (o : List ac_Out × List (Nat × ac_S)) (X : Option (Nat × (Nat → Int32))) (γ : Nat → Int) (lv : List (Nat × Value)) (st : List Value) (hp : px_H),
    ac_run T P G FA K lps ws wa n fresh stop me M pc A = some o → ac_s G Φ xs γ A lv st hp → ac_Fin T X P M G Φ ws wa xs γ pc lv st hp o.1 o.2 := by
  intro n
  induction n with
  | zero => intro fresh stop me M pc A o X γ lv st hp h; cases h
  | succ n ih =>
    intro fresh stop me M pc A o X γ lv st hp h hA
    have hcallee : ∀ (k mi : Nat) (N : px_M), P[mi]? = some N → ab_callok N k A.2.1 = true → (k ≤ st.length ∧ ((st.drop k).map fun v => v.category).sum ≤ 8 ∧ (px_rm N).cells = 0 ∧ (px_rm N).slots = 0 ∧ (lg_sl (st.take k).reverse).length ≤ px_ml N) := by
      intro k mi N hN hok
      simp only [ab_callok, Bool.and_eq_true, decide_eq_true_eq] at hok
      obtain ⟨c1, c2, c3, c4, c5⟩ := hok
      have hcat := ab_st_cat hA.2.1
      have hlen := ab_st_len hA.2.1
      refine ⟨by rw [← hlen]; exact c1, by rw [List.map_drop, ← hcat, ← List.map_drop]; exact c2, c3, c4, ?_⟩
      rw [ab_lg', List.map_reverse, List.sum_reverse, List.map_take, ← hcat, ← List.map_take]
      exact c5
    have hcall : ∀ (k mi : Nat) (o : List ac_Out × List (Nat × ac_S)),
        (∀ (N : px_M) (r : Option Value) (hp' : px_H), P[mi]? = some N → k ≤ st.length → ((st.drop k).map fun v => v.category).sum ≤ 8 → (px_rm N).cells = 0 → (px_rm N).slots = 0 → ∀ call : Nat → List Value → px_H → Option px_A, call mi (st.take k).reverse hp = some (r, hp') → ∀ N0 nc ns : Nat, nc ≤ (px_rm M).cells → ns ≤ (px_rm M).slots → px_its T X P call M N0 1 (pc, lv, st, hp, nc, ns) = some (pc + 3, lv, r.toList ++ st.drop k, hp', nc, ns)) →
        (match P[mi]? with
              | none => none
              | some N => match ab_callok N k A.2.1 with
                | false => none
                | true => match ac_pick mi (A.2.1.take k).reverse K with
                  | some κ => match ac_kok ws wa κ A with
                    | false => none
                    | true => ab_all (fun o => ac_run T P G FA K lps ws wa n false stop me M (pc + 3) (ac_after G FA κ A k (A.2.1.take k).reverse o)) κ.2.2.2.1
                  | none => match ac_run T P G FA K lps ws wa n false [] mi N 0 (ab_args 0 ((A.2.1.take k).reverse.map (ab_kill ab_isl)), [], A.2.2.1, A.2.2.2.1, A.2.2.2.2.1, []) with
                    | some (outs, []) => ab_all (fun o => ac_run T P G FA K lps ws wa n false stop me M (pc + 3) (ac_back A k o)) (ac_prune G outs)
                    | _ => none) = some o → ac_Fin T X P M G Φ ws wa xs γ pc lv st hp o.1 o.2 := by
      intro k mi o hst h
      split at h
      · cases h
      rename_i N hN
      split at h
      · cases h
      rename_i hok
      obtain ⟨d1, d2, d3, d4, d5⟩ := hcallee k mi N hN hok
      split at h
      · -- a contract
        rename_i κ hκ
        split at h
        · cases h
        rename_i hkok
        obtain ⟨p1, p2, p3⟩ := ac_pick_ok hκ
        simp only [ac_kok, Bool.and_eq_true, List.all_eq_true] at hkok
        obtain ⟨q1, q2, q3⟩ := hkok
        obtain ⟨r, hp', oc, m1, ⟨n0, m2⟩, m3, m4, m5, m6, m7⟩ := hK κ p1 (st.take k).reverse hp hA.2.2.1 (ac_argm_ok p3 (ab_st_rev (ab_st_take k hA.2.1))) (fun i hi => hA.2.2.2.2.2.1 i (ac_in_ok (q1 i hi)))
        obtain ⟨x, e1, e2, e3⟩ := ab_all_ok h oc m1
        rw [p2] at m2
        refine ac_Fin_its ⟨n0, 1, fun n hn N0 nc ns b1 b2 => hst N r hp' hN d1 d2 d3 d4 _ (m2 n hn) N0 nc ns b1 b2⟩ (px_fr_mono m7 (fun q hq => ac_has_ok (q2 q hq)) (fun c hc => ac_in_ok (q3 c hc))) (ih false stop me M (pc + 3) _ _ X γ lv _ hp' e1 (ac_after_ok hFl hFG hA m3 m4 m5 m6 m7)) e2 e3
      · -- inlined
        split at h
        · rename_i couts hrun
          obtain ⟨h1, h2, h3, h4, h5, h6, h7⟩ := id hA
          have hargs := ab_kill_st (P := ab_isl) (lv' := lv_args 0 (st.take k).reverse) (fun l w q1 q2 => ab_isl_at l w q1 q2) (ab_st_rev (ab_st_take k h2))
          have hF := ih false [] mi N 0 _ _ none (fun _ => 0) (lv_args 0 (st.take k).reverse) [] hp hrun ⟨fun j a hm => ab_args_ok 0 hargs j a hm, trivial, h3, h4, h5, h6, fun q hq => by cases hq⟩
          rcases hF with ⟨r, hp', oc, m1, m2, m3, hr⟩ | ⟨pc', lv', st', hp', A', m1, -⟩
          · obtain ⟨n0, hcl⟩ := ab_call_ok hN d5 hr
            obtain ⟨oc, m1, m2⟩ := ac_prune_ok m1 m2
            obtain ⟨x, e1, e2, e3⟩ := ab_all_ok h oc m1
            exact ac_Fin_its ⟨n0, 1, fun n hn N0 nc ns b1 b2 => hst N r hp' hN d1 d2 d3 d4 _ (hcl n hn) N0 nc ns b1 b2⟩ m3 (ih false stop me M (pc + 3) _ _ X γ lv _ hp' e1 (ac_back_ok hA m2 k)) e2 e3
          · cases m1
        · cases h
    unfold ac_run at h
    split at h
    · cases h
      exact Or.inr ⟨pc, lv, st, hp, A, List.mem_singleton.mpr rfl, hA, px_fr_rf _ _ _, 0, 0, fun _ _ _ _ _ _ _ => rfl⟩
    split at h
    · -- a loop
      rename_i ctr wd hlp
      split at h
      · cases h
      rename_i Bs hen
      have hent : ∀ {L9 : List ac_S}, ac_enter G ctr A L9 = some Bs → ∃ B ∈ Bs, ac_le G ctr A B = true := by
        intro L9
        induction L9 with
        | nil => intro h; cases h
        | cons B r ih9 =>
          intro h
          unfold ac_enter at h
          split at h
          · rename_i hle
            cases h
            exact ⟨B, List.mem_cons_self, hle⟩
          · exact ih9 h
      obtain ⟨B, hB, hle⟩ := hent hen
      obtain ⟨γ', g1, g2, g3⟩ := ac_le_ok hle hA
      exact ac_go_ok (fun B o hB γ' lv st hp hs => ih true (pc :: stop) me M pc B o X γ' lv st hp hB hs) Bs o h B hB γ' lv st hp g1 g2 g3
    split at h
    · cases h
    rename_i len i hf
    split at h
    · rename_i o9 hr
      cases h
      obtain ⟨r, g1, g2⟩ := ac_ret_ok (X := X) (T := T) (P := P) hf hr hA
      exact Or.inl ⟨r, hp, o9, List.mem_singleton.mpr rfl, g1, px_fr_rf _ _ _, 0, 1, fun n hn N0 nc ns q1 q2 => by simp only [px_run, g2 _ _ _ _ q1 q2]⟩
    rename_i hr
    simp only at h
    split at h
    · -- invokevirtual
      rename_i idx
      split at h
      · rename_i mi na ci hj
        split at h
        · rename_i c1 c2 cs o9 hna
          split at h
          · rename_i hcl
            refine hcall (na + 1) mi o (fun N r hp' hN d1 d2 d3 d4 call hc N0 nc ns b1 b2 => ?_) h
            have hlt : na < st.length := by omega
            have hst9 : st[na]? = some (st[na]'hlt) := List.getElem?_eq_getElem hlt
            have hv := ac_st_get hA.2.1 hna hst9
            obtain ⟨c, hc1, hc2⟩ := ab_f2 hv.1
            have hcc := List.all_eq_true.mp hcl c hc2
            unfold ac_cl at hcc
            split at hcc
            · rename_i ci' fs hg
              obtain ⟨vs, hx, -, -⟩ := ac_obj hA.2.2.1 hg
              rw [hc1] at hst9
              simp only [px_its, px_step, hf, px_alu, hj, hst9, hx, hcc, hN, decide_eq_true d1, decide_eq_true d2, d3, d4, Nat.add_zero, decide_eq_true b1, decide_eq_true b2, true_or, decide_true, hc]
            · cases hcc
          · cases h
        · cases h
      · cases h
    · -- invokestatic
      rename_i idx
      split at h
      · rename_i mi na z9 hj
        refine hcall na mi o (fun N r hp' hN d1 d2 d3 d4 call hc N0 nc ns b1 b2 => ?_) h
        simp only [px_its, px_step, hf, px_alu, hj, hN, decide_eq_true d1, decide_eq_true d2, d3, d4, Nat.add_zero, decide_eq_true b1, decide_eq_true b2, true_or, decide_true, hc]
      · rename_i w z1 z2 hj
        split at h
        · rename_i st' hm hd
          obtain ⟨st'', g1, g2⟩ := ab_math_ok hm hA.2.1
          have hd2 : decide (((st.drop 2).map fun v => v.category).sum ≤ 8) = true := by
            rw [List.map_drop, ← ab_st_cat hA.2.1, ← List.map_drop]
            exact hd
          refine ac_Fin_its ⟨0, 1, fun n hn N0 nc ns q1 q2 => ?_⟩ (px_fr_rf _ _ _) (ih false stop me M (pc + 3) _ _ X γ lv st'' hp h ⟨hA.1, g2, hA.2.2⟩) (fun _ h => h) (fun _ h => h)
          simp only [px_its, px_step, hf, px_alu, hj, g1, hd2, decide_eq_true q1, decide_eq_true q2]
        · cases h
      · cases h
    · -- a step
      split at h
      · cases h
      · rename_i outs hs
        obtain ⟨pc1, lv1, st1, hp1, A1, m1, m2, m3, k, hk⟩ := ac_step_ok (P := P) (X := X) hFl hA hs
        obtain ⟨x, e1, e2, e3⟩ := ab_all_ok h _ m1
        exact ac_Fin_its ⟨0, k, fun n hn N0 nc ns q1 q2 => hk _ _ _ _⟩ m3 (ih false stop me M pc1 A1 _ X γ lv1 st1 hp1 e1 m2) e2 e3
end ac_s6
/-! contracts by the interpreter -/
def ac_exp : List ab_F → List (List ab_F)
  | [] => [[]]
  | f :: r => match f.1 with
    | 2 => (f.2.2.2.map (fun c => (ac_exp r).map (fun s => (2, 0, 0, [c]) :: s))).flatten
    | _ => (ac_exp r).map (fun s => f :: s)
def ac_ini : Nat → List ab_F → List ab_V
  | _, [] => []
  | i, f :: r => (f, match Nat.beq f.1 0 with
    | true => some (2, i, 0)
    | false => none) :: ac_ini (i + 1) r
def ac_gh (fs : List ab_F) : List (Int × Int) := fs.map (fun f => match Nat.beq f.1 0 with
  | true => (f.2.1, f.2.2.1)
  | false => ab_topi)
def ac_rok (fs : List ab_F) (o : ac_Out) (q : Option ab_F × List (Nat × ab_B) × List Nat) : Bool :=
  (match o.1, q.1 with
    | none, none => true
    | some a, some f => ab_le a.1 f
    | _, _ => false) && (q.2.1.all (fun p => match fs[p.1]?, o.2.2.1[p.1]? with
    | some f, some b => Nat.beq f.1 0 && (decide (p.2.1 ≤ b.1) && decide (b.2 ≤ p.2.2))
    | _, _ => false) && q.2.2.all (fun i => ac_in i o.2.2.2))
def ac_check (T : px_T) (P : List px_M) (G : List ab_C) (FA : Nat → List Nat) (K : List ac_K) (lps : List ac_L) (n : Nat) (κ : ac_K) : Bool :=
  match P[κ.1]? with
  | none => false
  | some N => (ac_exp κ.2.1).all (fun fs => decide (((ac_ini 0 fs).map ab_cat).sum ≤ px_ml N) && (match ac_run T P G FA K lps κ.2.2.2.2.1 κ.2.2.2.2.2 n false [] κ.1 N 0 (ab_args 0 (ac_ini 0 fs), [], [], ac_gh fs, κ.2.2.1, []) with
    | some (outs, []) => outs.all (fun o => κ.2.2.2.1.any (ac_rok fs o))
    | _ => false))
theorem ac_exp_ok : ∀ {fs : List ab_F} {av : List Value}, ac_argv fs av → ∃ gs ∈ ac_exp fs, ac_argv gs av := by
  intro fs
  induction fs with
  | nil => intro av h; exact ⟨[], List.mem_singleton.mpr rfl, h⟩
  | cons f r ih =>
    intro av h
    cases av with
    | nil => exact absurd h (by simp [ac_argv])
    | cons v s =>
      obtain ⟨h1, h2⟩ := h
      obtain ⟨gs, hm, hg⟩ := ih h2
      obtain ⟨k, a1, a2, rs⟩ := f
      unfold ac_exp
      split
      · rename_i hk
        simp only at hk
        subst hk
        obtain ⟨c, rfl, hc⟩ := ab_f2 h1
        exact ⟨(2, 0, 0, [c]) :: gs, List.mem_flatten.mpr ⟨_, List.mem_map.mpr ⟨c, hc, rfl⟩, List.mem_map.mpr ⟨gs, hm, rfl⟩⟩, ⟨rfl, List.mem_singleton.mpr rfl⟩, hg⟩
      · exact ⟨_, List.mem_map.mpr ⟨gs, hm, rfl⟩, h1, hg⟩
def ac_xs (av : List Value) (i : Nat) : Int32 := match av[i]? with
  | some (.int x) => x
  | _ => 0
theorem ac_ini_ok {av : List Value} {lv : List (Nat × Value)} {hp : px_H} : ∀ {fs : List ab_F} {bv : List Value} {i : Nat}, ac_argv fs bv → (∀ j, bv[j]? = av[i + j]?) → ab_st (ac_xs av) lv hp (ac_ini i fs) bv := by
  intro fs
  induction fs with
  | nil => intro bv i h _; cases bv <;> first | trivial | exact absurd h (by simp [ac_argv])
  | cons f r ih =>
    intro bv i h hj
    cases bv with
    | nil => exact absurd h (by simp [ac_argv])
    | cons v s =>
      obtain ⟨h1, h2⟩ := h
      refine ⟨⟨h1, fun l hl => ?_⟩, ih h2 (fun j => ?_)⟩
      · split at hl
        · rename_i hk
          cases hl
          obtain ⟨k, a1, a2, rs⟩ := f
          obtain ⟨x, rfl, -⟩ := ab_k0 hk h1
          refine ⟨.int (ac_xs av i), rfl, ?_⟩
          have := hj 0
          simp only [List.getElem?_cons_zero, Nat.add_zero] at this
          unfold ac_xs
          rw [← this]
        · cases hl
      · have := hj (j + 1)
        simp only [List.getElem?_cons_succ] at this
        rw [this]
        congr 1
        omega
theorem ac_argv_get : ∀ {fs : List ab_F} {av : List Value} {i : Nat} {f : ab_F}, ac_argv fs av → fs[i]? = some f → ∃ v, av[i]? = some v ∧ ab_f f v := by
  intro fs
  induction fs with
  | nil => intro av i f _ h; simp at h
  | cons g r ih =>
    intro av i f h hf
    cases av with
    | nil => exact absurd h (by simp [ac_argv])
    | cons v s =>
      obtain ⟨h1, h2⟩ := h
      cases i with
      | zero => simp only [List.getElem?_cons_zero, Option.some.injEq] at hf; subst hf; exact ⟨v, rfl, h1⟩
      | succ i =>
        obtain ⟨w, e1, e2⟩ := ih (av := s) (i := i) h2 (by simpa using hf)
        exact ⟨w, by simpa using e1, e2⟩
theorem ac_check_ok {T : px_T} {P : List px_M} {G : List ab_C} {FA : Nat → List Nat} {Φ : Nat → px_H → Prop} {K : List ac_K} {lps : List ac_L} {n : Nat} {κ : ac_K} (hFl : ac_Fl FA Φ) (hFG : ∀ i, ∀ c ∈ FA i, ∃ q, G[c]? = some (.inr q)) (hK : ∀ κ ∈ K, ac_ok T P G Φ κ) (h : ac_check T P G FA K lps n κ = true) : ac_ok T P G Φ κ := by
  intro av hp hG hav hfl
  unfold ac_check at h
  split at h
  · cases h
  rename_i N hN
  obtain ⟨gs, hm, hgs⟩ := ac_exp_ok hav
  have h1 := List.all_eq_true.mp h gs hm
  simp only [Bool.and_eq_true, decide_eq_true_eq] at h1
  obtain ⟨h1, h2⟩ := h1
  split at h2
  · rename_i outs hrun
    have hst : ab_st (ac_xs av) (lv_args 0 av) hp (ac_ini 0 gs) av := ac_ini_ok hgs (fun j => by rw [Nat.zero_add])
    have hx : ab_x (ac_gh gs) (ac_xs av) := by
      intro j q hq
      unfold ac_gh at hq
      rw [List.getElem?_map] at hq
      rcases hg : gs[j]? with _ | f
      · rw [hg] at hq; cases hq
      · rw [hg] at hq
        cases hq
        obtain ⟨v, e1, e2⟩ := ac_argv_get hgs hg
        cases hk : Nat.beq f.1 0 with
        | true =>
          simp only [hk]
          obtain ⟨k, a1, a2, rs⟩ := f
          obtain ⟨x, rfl, hx⟩ := ab_k0 hk e2
          unfold ac_xs
          rw [e1]
          exact hx
        | false =>
          simp only [hk]
          exact ab_i32 _
    have hF := ac_run_ok (xs := ac_xs av) (Φ := Φ) hFl hFG hK n false [] κ.1 N 0 _ _ none (fun _ => 0) (lv_args 0 av) [] hp hrun ⟨fun j a hm => ab_args_ok 0 hst j a hm, trivial, hG, fun q hq => (by cases hq), hx, hfl, fun q hq => (by cases hq)⟩
    rcases hF with ⟨r, hp', oc, m1, m2, m3, hr⟩ | ⟨pc', lv', st', hp', A', m1, -⟩
    · obtain ⟨q, hq, hrok⟩ := List.any_eq_true.mp (List.all_eq_true.mp h2 oc m1)
      have hl : (lg_sl av).length ≤ px_ml N := by
        rw [ab_lg', ← ab_st_cat hst]
        exact h1
      simp only [ac_rok, Bool.and_eq_true, List.all_eq_true] at hrok
      obtain ⟨w1, w2, w3⟩ := hrok
      refine ⟨r, hp', q, hq, ab_call_ok hN hl hr, m2.2.1, ?_, fun p hp9 => ?_, fun i hi => m2.2.2.2.2 i (ac_in_ok (w3 i hi)), m3⟩
      · have g1 := m2.1
        unfold ac_rv
        cases h8 : oc.1 with
        | none =>
          rw [h8] at w1 g1
          cases h9 : q.1 with
          | none => cases r <;> first | trivial | exact absurd g1 (by simp)
          | some f => rw [h9] at w1; cases w1
        | some a =>
          rw [h8] at w1 g1
          cases h9 : q.1 with
          | none => rw [h9] at w1; cases w1
          | some f =>
            rw [h9] at w1
            cases r with
            | none => exact absurd g1 (by simp)
            | some v => exact ab_le_ok w1 g1.1
      · have := w2 p hp9
        split at this
        · rename_i f b hf hb
          simp only [Bool.and_eq_true, decide_eq_true_eq] at this
          obtain ⟨v, e1, e2⟩ := ac_argv_get hgs hf
          obtain ⟨k, a1, a2, rs⟩ := f
          obtain ⟨x, rfl, -⟩ := ab_k0 this.1 e2
          have hxb := m2.2.2.2.1 _ _ hb
          have hxe : ac_xs av p.1 = x := by unfold ac_xs; rw [e1]
          rw [hxe] at hxb
          exact ⟨.int x, x.toInt, e1, rfl, Int.le_trans this.2.1 hxb.1, Int.le_trans hxb.2 this.2.2⟩
        · cases this
    · cases m1
  · cases h2
end mg_4

section mg_5
/-! a contract in pieces: the way to a loop's head, and each of its widenings, run by themselves -/
def ac_pc1 (G : List ab_C) (ctr : Option (Nat × Bool)) (f : ac_S → Option (List ac_Out × List (Nat × ac_S))) (pc : Nat) (ok : ac_Out → Bool) (B : ac_S) (r : List ac_S) : Bool :=
  match f B with
  | none => false
  | some o => o.1.all ok && o.2.all (fun q => Nat.beq q.1 pc && ((ac_prog ctr q.2 && ac_le G ctr q.2 B) || r.any (fun B' => ac_le G ctr q.2 B')))
def ac_pcs (G : List ab_C) (ctr : Option (Nat × Bool)) (f : ac_S → Option (List ac_Out × List (Nat × ac_S))) (pc : Nat) (ok : ac_Out → Bool) : List ac_S → Prop
  | [] => True
  | B :: r => ac_pc1 G ctr f pc ok B r = true ∧ ac_pcs G ctr f pc ok r
theorem ac_pcs_ok {G : List ab_C} {ctr : Option (Nat × Bool)} {f : ac_S → Option (List ac_Out × List (Nat × ac_S))} {pc : Nat} {ok : ac_Out → Bool} : ∀ {Bs : List ac_S}, ac_pcs G ctr f pc ok Bs → ∃ y, ac_go G ctr f pc Bs = some y ∧ (∀ o ∈ y.1, ok o = true) ∧ y.2 = [] := by
  intro Bs
  induction Bs with
  | nil => intro _; exact ⟨([], []), rfl, fun o h => (by cases h), rfl⟩
  | cons B r ih =>
    intro h
    obtain ⟨h1, h2⟩ := h
    obtain ⟨y, e1, e2, e3⟩ := ih h2
    unfold ac_pc1 at h1
    split at h1
    · cases h1
    rename_i o ho
    simp only [Bool.and_eq_true, List.all_eq_true] at h1
    have hfil : o.2.filter (fun q => !(Nat.beq q.1 pc)) = [] := by
      rw [List.filter_eq_nil_iff]
      intro q hq
      rw [(h1.2 q hq).1]
      decide
    have hall : (o.2.filter (fun q => Nat.beq q.1 pc)).all (fun q => (ac_prog ctr q.2 && ac_le G ctr q.2 B) || r.any (fun B' => ac_le G ctr q.2 B')) = true := by
      rw [List.all_eq_true]
      intro q hq
      exact (h1.2 q (List.mem_filter.mp hq).1).2
    refine ⟨(o.1 ++ y.1, (o.2.filter (fun q => !(Nat.beq q.1 pc))).map (fun q => (q.1, ac_clean ctr q.2)) ++ y.2), ?_, fun p hp => ?_, ?_⟩
    · unfold ac_go
      rw [ho]
      simp only [hall, e1]
    · rcases List.mem_append.mp hp with h | h
      · exact h1.1 p h
      · exact e2 p h
    · simp only [hfil, e3, List.map_nil, List.append_nil]
/-- the way from the entry to the head -/
def ac_ent (T : px_T) (P : List px_M) (G : List ab_C) (FA : Nat → List Nat) (K : List ac_K) (lps : List ac_L) (n : Nat) (κ : ac_K) (N : px_M) (ctr : Option (Nat × Bool)) (pc : Nat) (Bs : List ac_S) : Bool :=
  match ac_run T P G FA K lps κ.2.2.2.2.1 κ.2.2.2.2.2 n false [pc] κ.1 N 0 (ab_args 0 (ac_ini 0 κ.2.1), [], [], ac_gh κ.2.1, κ.2.2.1, []) with
  | none => false
  | some o => o.1.all (fun p => κ.2.2.2.1.any (ac_rok κ.2.1 p)) && o.2.all (fun q => Nat.beq q.1 pc && Bs.any (fun B => ac_le G ctr q.2 B))
theorem ac_ent_ok {T : px_T} {P : List px_M} {G : List ab_C} {FA : Nat → List Nat} {Φ : Nat → px_H → Prop} {K : List ac_K} {lps : List ac_L} {n m : Nat} {κ : ac_K} {N : px_M} {ctr : Option (Nat × Bool)} {pc : Nat} {Bs : List ac_S} {stop : List Nat} (hFl : ac_Fl FA Φ) (hFG : ∀ i, ∀ c ∈ FA i, ∃ q, G[c]? = some (.inr q)) (hK : ∀ κ ∈ K, ac_ok T P G Φ κ)
    (hN : P[κ.1]? = some N) (hml : ((ac_ini 0 κ.2.1).map ab_cat).sum ≤ px_ml N) (he : ac_ent T P G FA K lps n κ N ctr pc Bs = true)
    (hp9 : ac_pcs G ctr (fun B => ac_run T P G FA K lps κ.2.2.2.2.1 κ.2.2.2.2.2 m true (pc :: stop) κ.1 N pc B) pc (fun p => κ.2.2.2.1.any (ac_rok κ.2.1 p)) Bs) : ac_ok T P G Φ κ := by
  intro av hp hG hgs hfl
  have hst : ab_st (ac_xs av) (lv_args 0 av) hp (ac_ini 0 κ.2.1) av := ac_ini_ok hgs (fun j => by rw [Nat.zero_add])
  have hx : ab_x (ac_gh κ.2.1) (ac_xs av) := by
    intro j q hq
    unfold ac_gh at hq
    rw [List.getElem?_map] at hq
    rcases hg : κ.2.1[j]? with _ | f
    · rw [hg] at hq; cases hq
    · rw [hg] at hq
      cases hq
      obtain ⟨v, e1, e2⟩ := ac_argv_get hgs hg
      cases hk : Nat.beq f.1 0 with
      | true =>
        simp only [hk]
        obtain ⟨k, a1, a2, rs⟩ := f
        obtain ⟨x, rfl, hx⟩ := ab_k0 hk e2
        unfold ac_xs
        rw [e1]
        exact hx
      | false =>
        simp only [hk]
        exact ab_i32 _
  have hl : (lg_sl av).length ≤ px_ml N := by
    rw [ab_lg', ← ab_st_cat hst]
    exact hml
  have fin : ∀ (r : Option Value) (hp' : px_H) (oc : ac_Out), κ.2.2.2.1.any (ac_rok κ.2.1 oc) = true → ac_o' G Φ (ac_xs av) oc r hp' → px_fr κ.2.2.2.2.1 κ.2.2.2.2.2 hp hp' → (∃ n0 k : Nat, ∀ n, n0 ≤ n → ∀ N0 nc ns : Nat, nc ≤ (px_rm N).cells → ns ≤ (px_rm N).slots → px_run T none P (px_call T P ab_nn n) N N0 k (0, lv_args 0 av, [], hp, nc, ns) = some (r, hp')) →
      ∃ (r : Option Value) (hp' : px_H) (o : Option ab_F × List (Nat × ab_B) × List Nat), o ∈ κ.2.2.2.1 ∧ px_C T P κ.1 av hp r hp' ∧ ab_h G hp' ∧ ac_rv o.1 r ∧ (∀ q ∈ o.2.1, ∃ v z, av[q.1]? = some v ∧ ab_num v = some z ∧ ab_in q.2 z) ∧ (∀ i ∈ o.2.2, Φ i hp') ∧ px_fr κ.2.2.2.2.1 κ.2.2.2.2.2 hp hp' := by
    intro r hp' oc hany m2 m3 hr
    obtain ⟨q, hq, hrok⟩ := List.any_eq_true.mp hany
    simp only [ac_rok, Bool.and_eq_true, List.all_eq_true] at hrok
    obtain ⟨w1, w2, w3⟩ := hrok
    refine ⟨r, hp', q, hq, ab_call_ok hN hl hr, m2.2.1, ?_, fun p hp9 => ?_, fun i hi => m2.2.2.2.2 i (ac_in_ok (w3 i hi)), m3⟩
    · have g1 := m2.1
      unfold ac_rv
      cases h8 : oc.1 with
      | none =>
        rw [h8] at w1 g1
        cases h9 : q.1 with
        | none => cases r <;> first | trivial | exact absurd g1 (by simp)
        | some f => rw [h9] at w1; cases w1
      | some a =>
        rw [h8] at w1 g1
        cases h9 : q.1 with
        | none => rw [h9] at w1; cases w1
        | some f =>
          rw [h9] at w1
          cases r with
          | none => exact absurd g1 (by simp)
          | some v => exact ab_le_ok w1 g1.1
    · have := w2 p hp9
      split at this
      · rename_i f b hf hb
        simp only [Bool.and_eq_true, decide_eq_true_eq] at this
        obtain ⟨v, e1, e2⟩ := ac_argv_get hgs hf
        obtain ⟨k, a1, a2, rs⟩ := f
        obtain ⟨x, rfl, -⟩ := ab_k0 this.1 e2
        have hxb := m2.2.2.2.1 _ _ hb
        have hxe : ac_xs av p.1 = x := by unfold ac_xs; rw [e1]
        rw [hxe] at hxb
        exact ⟨.int x, x.toInt, e1, rfl, Int.le_trans this.2.1 hxb.1, Int.le_trans hxb.2 this.2.2⟩
      · cases this
  unfold ac_ent at he
  split at he
  · cases he
  rename_i o hrun
  simp only [Bool.and_eq_true, List.all_eq_true] at he
  have hF := ac_run_ok (xs := ac_xs av) (Φ := Φ) hFl hFG hK n false [pc] κ.1 N 0 _ _ none (fun _ => 0) (lv_args 0 av) [] hp hrun ⟨fun j a hm => ab_args_ok 0 hst j a hm, trivial, hG, fun q hq => (by cases hq), hx, hfl, fun q hq => (by cases hq)⟩
  rcases hF with ⟨r, hp', oc, m1, m2, m3, hr⟩ | ⟨pc', lv', st', hp', A', m1, m2, m3, hit⟩
  · exact fin r hp' oc (he.1 oc m1) m2 m3 hr
  · obtain ⟨q1, q2⟩ := he.2 _ m1
    have q1 := Nat.eq_of_beq_eq_true q1
    simp only at q1
    subst q1
    obtain ⟨B, hB, hle⟩ := List.any_eq_true.mp q2
    obtain ⟨γ', g1, g2, g3⟩ := ac_le_ok hle m2
    obtain ⟨y, e1, e2, e3⟩ := ac_pcs_ok hp9
    have hG2 := ac_go_ok (T := T) (X := none) (P := P) (M := N) (Φ := Φ) (ws := κ.2.2.2.2.1) (wa := κ.2.2.2.2.2) (xs := ac_xs av) (γ := fun _ => 0) (fun B o hB γ' lv st hp hs => ac_run_ok (xs := ac_xs av) (Φ := Φ) hFl hFG hK m true (pc' :: stop) κ.1 N pc' B o none γ' lv st hp hB hs) Bs y e1 B hB γ' lv' st' hp' g1 g2 g3
    have hF2 := ac_Fin_its hit m3 hG2 (fun _ h => h) (fun _ h => h)
    rcases hF2 with ⟨r, hp2, oc, m1, m2, m3, hr⟩ | ⟨pc2, lv2, st2, hp2, A2, m1, -⟩
    · exact fin r hp2 oc (e2 oc m1) m2 m3 hr
    · rw [e3] at m1
      cases m1
end mg_5
