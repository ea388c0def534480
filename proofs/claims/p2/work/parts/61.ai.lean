/-! refinement by a place -/
def ab_isn (f : ab_F) : Bool := Nat.beq f.1 0 || Nat.beq f.1 1
def ab_bnd (A : ab_S) (l : ab_L) : Option ab_B :=
  match l with
  | (0, j, _) => match px_find j A.1 with
    | some ((k, a1, a2, _), _) => if Nat.beq k 0 || Nat.beq k 1 then some (a1, a2) else none
    | none => none
  | (1, c, k) => match A.2.2.1[c]? with
    | some (.inl (_, fs)) => match fs[k]? with
      | some (k', a1, a2, _) => if Nat.beq k' 0 || Nat.beq k' 1 then some (a1, a2) else none
      | none => none
    | _ => none
  | (2, j, _) => A.2.2.2[j]?
  | _ => none
def ab_setl (q : ab_B) (j : Nat) (p : Nat × ab_V) : Nat × ab_V := match Nat.beq p.1 j with
  | true => (p.1, ((p.2.1.1, q.1, q.2, p.2.1.2.2.2), p.2.2))
  | false => p
def ab_set (A : ab_S) (l : ab_L) (q : ab_B) : ab_S :=
  match l with
  | (0, j, _) => (A.1.map (ab_setl q j), A.2)
  | (1, c, k) => match A.2.2.1[c]? with
    | some (.inl (ci, fs)) => match fs[k]? with
      | some (k', _, _, r) => (A.1, A.2.1, A.2.2.1.set c (.inl (ci, fs.set k (k', q.1, q.2, r))), A.2.2.2)
      | none => A
    | _ => A
  | (2, j, _) => (A.1, A.2.1, A.2.2.1, A.2.2.2.set j q)
  | _ => A
def ab_meet (a b : ab_B) : ab_B := (max a.1 b.1, min a.2 b.2)
def ab_refine (A : ab_S) (o : Option ab_L) (q : ab_B) : ab_S :=
  match o with
  | none => A
  | some l => match ab_bnd A l with
    | none => A
    | some b => ab_set A l (ab_meet b q)
theorem ab_meet_in {a b : ab_B} {x : Int} (h1 : ab_in a x) (h2 : ab_in b x) : ab_in (ab_meet a b) x := by
  obtain ⟨p1, p2⟩ := h1
  obtain ⟨q1, q2⟩ := h2
  exact ⟨Int.max_le.mpr ⟨p1, q1⟩, Int.le_min.mpr ⟨p2, q2⟩⟩
theorem ab_setl_fst (q : ab_B) (j : Nat) (p : Nat × ab_V) : (ab_setl q j p).1 = p.1 := by
  unfold ab_setl
  split <;> rfl
section ab_s2
variable {xs : Nat → Int32} {lv : List (Nat × Value)} {st : List Value} {hp : px_H} {A : ab_S}
theorem ab_num_f {k : Nat} {a1 a2 : Int} {r : List Nat} {v : Value} {z : Int} (h : ab_f (k, a1, a2, r) v) (hz : ab_num v = some z) : ab_in (a1, a2) z := by
  cases v <;> first | (cases hz; exact h.2) | cases hz
theorem ab_f_num {k : Nat} {a1 a2 b1 b2 : Int} {r : List Nat} {v : Value} {z : Int} (h : ab_f (k, a1, a2, r) v) (hz : ab_num v = some z) (hb : ab_in (b1, b2) z) : ab_f (k, b1, b2, r) v := by
  cases v <;> first | (cases hz; exact ⟨h.1, hb.1, hb.2⟩) | cases hz
theorem ab_num_k {k : Nat} {a1 a2 : Int} {r : List Nat} {v : Value} (h : ab_f (k, a1, a2, r) v) (hk : (Nat.beq k 0 || Nat.beq k 1) = true) : ∃ z, ab_num v = some z := by
  simp only [Bool.or_eq_true] at hk
  rcases hk with hk | hk
  · have := Nat.eq_of_beq_eq_true hk
    subst this
    obtain ⟨x, rfl, -⟩ := ab_f0 h
    exact ⟨_, rfl⟩
  · have := Nat.eq_of_beq_eq_true hk
    subst this
    obtain ⟨x, rfl, -⟩ := ab_f1 h
    exact ⟨_, rfl⟩
/-- the bounds at a place hold -/
theorem ab_bnd_ok (hA : ab_s xs A lv st hp) {l : ab_L} {b : ab_B} (h : ab_bnd A l = some b) {w : Value} (hw : ab_at xs lv hp l = some w) {z : Int} (hz : ab_num w = some z) : ab_in b z := by
  obtain ⟨h1, h2, h3, h4⟩ := hA
  unfold ab_bnd at h
  split at h
  · split at h
    · rename_i j _ k a1 a2 r o hf
      split at h
      · cases h
        obtain ⟨v, hv, hav⟩ := h1 _ _ (px_find_mem hf)
        simp only [ab_at] at hw
        rw [hv] at hw
        cases hw
        exact ab_num_f hav.1 hz
      · cases h
    · cases h
  · split at h
    · rename_i c k ci fs hc
      split at h
      · rename_i k' a1 a2 r hf
        split at h
        · cases h
          simp only [ab_at] at hw
          split at hw
          · rename_i ci' vs hx
            have := h3.2 _ _ _ hc hx
            exact ab_num_f (this.2.2 _ _ _ hf hw) hz
          · cases hw
        · cases h
      · cases h
    · cases h
  · simp only [ab_at] at hw
    cases hw
    cases hz
    exact h4 _ _ h
  · cases h
theorem ab_refine_ok (hA : ab_s xs A lv st hp) {o : Option ab_L} {q : ab_B} (ho : ∀ l, o = some l → ∃ w z, ab_at xs lv hp l = some w ∧ ab_num w = some z ∧ ab_in q z) : ab_s xs (ab_refine A o q) lv st hp := by
  unfold ab_refine
  split
  · exact hA
  · rename_i l
    split
    · exact hA
    · rename_i b hb
      obtain ⟨w, z, hw, hz, hq⟩ := ho l rfl
      have hin := ab_meet_in (ab_bnd_ok hA hb hw hz) hq
      obtain ⟨h1, h2, h3, h4⟩ := hA
      unfold ab_set
      split
      · rename_i j _
        refine ⟨fun j' a ha => ?_, h2, h3, h4⟩
        obtain ⟨⟨j0, a0⟩, hm, he⟩ := List.mem_map.mp ha
        have hj0 : j0 = j' := (ab_setl_fst (ab_meet b q) j (j0, a0)).symm.trans (by rw [he])
        subst hj0
        obtain ⟨v, hv, hav⟩ := h1 _ _ hm
        have ha2 : a = (ab_setl (ab_meet b q) j (j0, a0)).2 := by rw [he]
        subst ha2
        refine ⟨v, hv, ?_⟩
        unfold ab_setl
        split
        · rename_i hj
          have := Nat.eq_of_beq_eq_true hj
          simp only at this
          subst this
          simp only [ab_at] at hw
          rw [hv] at hw
          cases hw
          obtain ⟨⟨k, a1, a2, r⟩, o⟩ := a0
          exact ⟨ab_f_num hav.1 hz hin, hav.2⟩
        · exact hav
      · rename_i c k
        split
        · rename_i ci fs hc
          split
          · rename_i k' a1 a2 r hf
            refine ⟨h1, h2, ⟨by simp only [List.length_set]; exact h3.1, fun n a x ha hx => ?_⟩, h4⟩
            by_cases hn : n = c
            · subst hn
              have hlt : n < A.2.2.1.length := (List.getElem?_eq_some_iff.mp hc).1
              rw [List.getElem?_set_self hlt] at ha
              cases ha
              simp only [ab_at, hx] at hw
              split at hw
              · rename_i ci' vs hx'
                cases hx'
                have h9 := h3.2 _ _ _ hc hx
                refine ⟨h9.1, by rw [List.length_set]; exact h9.2.1, fun m f v hm hv => ?_⟩
                by_cases hmk : m = k
                · subst hmk
                  rw [List.getElem?_set_self (List.getElem?_eq_some_iff.mp hf).1] at hm
                  cases hm
                  rw [hv] at hw
                  cases hw
                  exact ab_f_num (h9.2.2 _ _ _ hf hv) hz hin
                · rw [List.getElem?_set_ne (Ne.symm hmk)] at hm
                  exact h9.2.2 _ _ _ hm hv
              · cases hw
            · rw [List.getElem?_set_ne (Ne.symm hn)] at ha
              exact h3.2 _ _ _ ha hx
          · exact ⟨h1, h2, h3, h4⟩
        · exact ⟨h1, h2, h3, h4⟩
      · rename_i j _
        refine ⟨h1, h2, h3, fun j' q' hq' => ?_⟩
        by_cases hj : j' = j
        · subst hj
          have hlt : j' < A.2.2.2.length := by
            have := (List.getElem?_eq_some_iff.mp hq').1
            rwa [List.length_set] at this
          rw [List.getElem?_set_self hlt] at hq'
          cases hq'
          simp only [ab_at] at hw
          cases hw
          cases hz
          exact hin
        · rw [List.getElem?_set_ne (Ne.symm hj)] at hq'
          exact h4 _ _ hq'
      · exact ⟨h1, h2, h3, h4⟩
end ab_s2
/-! branches -/
def ab_neg (c : ClassFile.Cond) : ClassFile.Cond :=
  match c with
  | .eq => .ne
  | .ne => .eq
  | .lt => .ge
  | .ge => .lt
  | .gt => .le
  | .le => .gt
def ab_rel (c : ClassFile.Cond) (x y : Int) : Prop :=
  match c with
  | .eq => x = y
  | .ne => x ≠ y
  | .lt => x < y
  | .ge => y ≤ x
  | .gt => y < x
  | .le => x ≤ y
def ab_trim (a : ab_B) (v : Int) : ab_B := (if a.1 = v then a.1 + 1 else a.1, if a.2 = v then a.2 - 1 else a.2)
def ab_cnd (c : ClassFile.Cond) (a b : ab_B) : ab_B × ab_B :=
  match c with
  | .eq => (ab_meet a b, ab_meet a b)
  | .ne => (if b.1 = b.2 then ab_trim a b.1 else a, if a.1 = a.2 then ab_trim b a.1 else b)
  | .lt => ((a.1, min a.2 (b.2 - 1)), (max b.1 (a.1 + 1), b.2))
  | .ge => ((max a.1 b.1, a.2), (b.1, min b.2 a.2))
  | .gt => ((max a.1 (b.1 + 1), a.2), (b.1, min b.2 (a.2 - 1)))
  | .le => ((a.1, min a.2 b.2), (max b.1 a.1, b.2))
theorem ab_cnd_ok {c : ClassFile.Cond} {a b : ab_B} {x y : Int} (h : ab_rel c x y) (ha : ab_in a x) (hb : ab_in b y) : ab_in (ab_cnd c a b).1 x ∧ ab_in (ab_cnd c a b).2 y := by
  obtain ⟨a1, a2⟩ := a
  obtain ⟨b1, b2⟩ := b
  simp only [ab_in] at ha hb ⊢
  cases c <;> simp only [ab_rel] at h <;> simp only [ab_cnd, ab_meet, ab_trim]
  · subst h; omega
  · refine ⟨?_, ?_⟩ <;> split <;> (try simp only) <;> (try split) <;> (try split) <;> omega
  · omega
  · omega
  · omega
  · omega
theorem ab_cmp_rel (c : ClassFile.Cond) (x y : Int32) : (px_cmp c x y = true → ab_rel c x.toInt y.toInt) ∧ (px_cmp c x y = false → ab_rel (ab_neg c) x.toInt y.toInt) := by
  cases c <;> simp only [px_cmp, ab_rel, ab_neg, decide_eq_true_eq, decide_eq_false_iff_not, Int32.lt_iff_toInt_lt, Int32.le_iff_toInt_le, ← Int32.toInt_inj] <;> refine ⟨fun h => ?_, fun h => ?_⟩ <;> omega
def ab_if (c : ClassFile.Cond) (x y : ab_V) (A : ab_S) : Option ab_S :=
  let q := ab_cnd c (x.1.2.1, x.1.2.2.1) (y.1.2.1, y.1.2.2.1)
  if q.1.1 ≤ q.1.2 ∧ q.2.1 ≤ q.2.2 then some (ab_refine (ab_refine A x.2 q.1) y.2 q.2) else none
theorem ab_if_ok {xs : Nat → Int32} {lv : List (Nat × Value)} {st : List Value} {hp : px_H} {A : ab_S} (hA : ab_s xs A lv st hp) {c : ClassFile.Cond} {x y : ab_V} {v w : Value} {a b : Int} (hx : ab_v xs lv hp x v) (hy : ab_v xs lv hp y w) (hv : ab_num v = some a) (hw : ab_num w = some b) (hr : ab_rel c a b) : ∃ A', ab_if c x y A = some A' ∧ ab_s xs A' lv st hp := by
  obtain ⟨⟨kx, x1, x2, rx⟩, ox⟩ := x
  obtain ⟨⟨ky, y1, y2, ry⟩, oy⟩ := y
  have h := ab_cnd_ok hr (ab_num_f hx.1 hv) (ab_num_f hy.1 hw)
  unfold ab_if
  simp only
  rw [if_pos ⟨Int.le_trans h.1.1 h.1.2, Int.le_trans h.2.1 h.2.2⟩]
  refine ⟨_, rfl, ab_refine_ok (ab_refine_ok hA ?_) ?_⟩
  · intro l hl
    obtain ⟨u, hu, e⟩ := hx.2 l hl
    exact ⟨u, a, hu, by rw [e, hv], h.1⟩
  · intro l hl
    obtain ⟨u, hu, e⟩ := hy.2 l hl
    exact ⟨u, b, hu, by rw [e, hw], h.2⟩
