section mg_0
/-! EXACT METHODS: the heap as a state, what lies in its fields and arrays, and what a method makes of it (the functions fn_.. are printed by sx.py) -/
section sx_0
variable {hp : px_H}
def gI (hp : px_H) (c k : Nat) : Int32 := match ac_fv hp c k with
  | some (.int x) => x
  | _ => 0
def gL (hp : px_H) (c k : Nat) : Int64 := match ac_fv hp c k with
  | some (.long x) => x
  | _ => 0
def gR (hp : px_H) (c k : Nat) : Nat := match ac_fv hp c k with
  | some (.ref x) => x
  | _ => 0
def aI (hp : px_H) (c : Nat) : Nat → Int32 := match hp[c]? with
  | some (.inl (_, _, .inl f)) => f
  | _ => fun _ => 0
def aL (hp : px_H) (c : Nat) : Nat → Int64 := match hp[c]? with
  | some (.inl (_, _, .inr (.inl f))) => f
  | _ => fun _ => 0
def aR (hp : px_H) (c : Nat) (j : Nat) : Nat := match hp[c]? with
  | some (.inl (_, _, .inr (.inr (.inr (.inr f))))) => (f j).getD 0
  | _ => 0
def wF (hp : px_H) (c k : Nat) (v : Value) : px_H := match hp[c]? with
  | some (.inr (ci, fs)) => hp.set c (.inr (ci, fs.set k v))
  | _ => hp
def uI (hp : px_H) (c j : Nat) (x : Int32) : px_H := match hp[c]? with
  | some (.inl (t, n, .inl f)) => hp.set c (.inl (t, n, .inl (upd f j x)))
  | _ => hp
def uL (hp : px_H) (c j : Nat) (x : Int64) : px_H := match hp[c]? with
  | some (.inl (t, n, .inr (.inl f))) => hp.set c (.inl (t, n, .inr (.inl (vp_updL f j x))))
  | _ => hp
/-! the shape of the heap: its bounds, with all ints and longs let go -/
def sh_f (f : ab_F) : ab_F := match f.1 with
  | 0 => (0, -2147483648, 2147483647, [])
  | 1 => (1, -9223372036854775808, 9223372036854775807, [])
  | _ => f
def sh_c (a : ab_C) : ab_C := match a with
  | .inl (ci, fs) => .inl (ci, fs.map sh_f)
  | .inr (t, n, f) => .inr (t, n, sh_f f)
def oS (hp : px_H) : Prop := ab_h (nm_GH.map sh_c) hp
theorem sh_f_ok {f : ab_F} {v : Value} (h : ab_f f v) : ab_f (sh_f f) v := by
  obtain ⟨k, a, b, r⟩ := f
  cases v with
  | int x =>
    have e : k = 0 := h.1
    subst e
    exact ⟨rfl, (ab_i32 x).1, (ab_i32 x).2⟩
  | long x =>
    have e : k = 1 := h.1
    subst e
    exact ⟨rfl, (ab_i64 x).1, (ab_i64 x).2⟩
  | ref x =>
    have e : k = 2 := h.1
    subst e
    exact h
  | retAddr x =>
    have e : k = 3 := h
    subst e
    exact h
  | _ => exact h.elim
theorem sh_c_ok {a : ab_C} {x : px_E} (h : ab_c a x) : ab_c (sh_c a) x := by
  cases a with
  | inl q =>
    obtain ⟨ci, fs⟩ := q
    cases x with
    | inl y => exact h.elim
    | inr y =>
      obtain ⟨ci', vs⟩ := y
      refine ⟨h.1, by rw [List.length_map]; exact h.2.1, fun k f v hf hv => ?_⟩
      rw [List.getElem?_map] at hf
      cases hg : fs[k]? with
      | none => rw [hg] at hf; cases hf
      | some g =>
        rw [hg] at hf
        cases hf
        exact sh_f_ok (h.2.2 k g v hg hv)
  | inr q =>
    obtain ⟨t, n, f⟩ := q
    cases x with
    | inr y => exact h.elim
    | inl y =>
      obtain ⟨t', n', cont⟩ := y
      refine ⟨h.1, h.2.1, fun j hj => ?_⟩
      have h3 := h.2.2 j hj
      match cont, h3 with
      | .inl g, h3 => exact sh_f_ok h3
      | .inr (.inl g), h3 => exact sh_f_ok h3
      | .inr (.inr (.inl g)), h3 => exact h3.elim
      | .inr (.inr (.inr (.inl g))), h3 => exact h3.elim
      | .inr (.inr (.inr (.inr g))), ⟨q, e, h3⟩ => exact ⟨q, e, sh_f_ok h3⟩
theorem oS_of (h : ab_h nm_GH hp) : oS hp := by
  refine ⟨by rw [List.length_map]; exact h.1, fun k a x ha hx => ?_⟩
  rw [List.getElem?_map] at ha
  cases hg : nm_GH[k]? with
  | none => rw [hg] at ha; cases ha
  | some g =>
    rw [hg] at ha
    cases ha
    exact sh_c_ok (h.2 k g x hg hx)
theorem oS_at {c : Nat} {a : ab_C} (hS : oS hp) (h : nm_GH[c]? = some a) : ∃ x, hp[c]? = some x ∧ ab_c (sh_c a) x := by
  refine ac_cell hS ?_
  rw [List.getElem?_map, h]
  rfl
theorem oS_obj {c ci : Nat} {fs : List ab_F} (hS : oS hp) (h : nm_GH[c]? = some (.inl (ci, fs))) : ∃ vs, hp[c]? = some (.inr (ci, vs)) ∧ fs.length = vs.length ∧ ∀ (k : Nat) (f : ab_F) (v : Value), fs[k]? = some f → vs[k]? = some v → ab_f (sh_f f) v := by
  obtain ⟨x, hx, hc⟩ := oS_at hS h
  cases x with
  | inl q => exact hc.elim
  | inr q =>
    obtain ⟨ci', vs⟩ := q
    obtain ⟨e, h1, h2⟩ := hc
    subst e
    rw [List.length_map] at h1
    refine ⟨vs, hx, h1, fun k f v hf hv => h2 k (sh_f f) v ?_ hv⟩
    rw [List.getElem?_map, hf]
    rfl
/-! what may be asked of the shape -/
def bO (cs : List Nat) (ci : Nat) : Bool := cs.all fun c => match nm_GH[c]? with
  | some (.inl (ci', _)) => Nat.beq ci' ci
  | _ => false
def bF (cs : List Nat) (ci k kd : Nat) : Bool := cs.all fun c => match nm_GH[c]? with
  | some (.inl (ci', fs)) => Nat.beq ci' ci && (match fs[k]? with
    | some f => Nat.beq f.1 kd
    | none => false)
  | _ => false
def bR (cs : List Nat) (ci k : Nat) (ds : List Nat) : Bool := cs.all fun c => match nm_GH[c]? with
  | some (.inl (ci', fs)) => Nat.beq ci' ci && (match fs[k]? with
    | some f => Nat.beq f.1 2 && f.2.2.2.all (fun d => ds.any (fun e => Nat.beq d e))
    | none => false)
  | _ => false
def bA (cs : List Nat) (t n kd : Nat) : Bool := cs.all fun c => match nm_GH[c]? with
  | some (.inr (t', n', f)) => Nat.beq t' t && (Nat.beq n' n && (Nat.beq f.1 kd && Nat.ble 1 n))
  | _ => false
def bAR (cs : List Nat) (t n : Nat) (ds : List Nat) : Bool := cs.all fun c => match nm_GH[c]? with
  | some (.inr (t', n', f)) => Nat.beq t' t && (Nat.beq n' n && (Nat.beq f.1 2 && (Nat.ble 1 n && f.2.2.2.all (fun d => ds.any (fun e => Nat.beq d e)))))
  | _ => false
variable {cs ds : List Nat} {ci k a t n : Nat}
theorem bO_ok (h : bO cs ci = true) (hm : a ∈ cs) (hS : oS hp) : ∃ fs, hp[a]? = some (.inr (ci, fs)) := by
  have h1 := List.all_eq_true.mp h a hm
  split at h1
  · rename_i ci' fs hg
    have := Nat.eq_of_beq_eq_true h1
    subst this
    obtain ⟨vs, hx, -, -⟩ := oS_obj hS hg
    exact ⟨vs, hx⟩
  · cases h1
theorem bF_ok {kd : Nat} (h : bF cs ci k kd = true) (hm : a ∈ cs) (hS : oS hp) : ∃ (fs : List Value) (v : Value) (f : ab_F), hp[a]? = some (.inr (ci, fs)) ∧ fs[k]? = some v ∧ ac_fv hp a k = some v ∧ f.1 = kd ∧ ab_f (sh_f f) v := by
  have h1 := List.all_eq_true.mp h a hm
  split at h1
  · rename_i ci' fs hg
    simp only [Bool.and_eq_true] at h1
    obtain ⟨h1, h2⟩ := h1
    have := Nat.eq_of_beq_eq_true h1
    subst this
    split at h2
    · rename_i f hf
      obtain ⟨vs, hx, hl, ha⟩ := oS_obj hS hg
      have hlt : k < vs.length := by rw [← hl]; exact (List.getElem?_eq_some_iff.mp hf).1
      refine ⟨vs, vs[k], f, hx, List.getElem?_eq_getElem hlt, ?_, Nat.eq_of_beq_eq_true h2, ha k f _ hf (List.getElem?_eq_getElem hlt)⟩
      unfold ac_fv
      rw [hx]
      exact List.getElem?_eq_getElem hlt
    · cases h2
  · cases h1
theorem sh_k0 {f : ab_F} {v : Value} (e : f.1 = 0) (h : ab_f (sh_f f) v) : ∃ x, v = .int x := by
  obtain ⟨k, a, b, r⟩ := f
  simp only at e
  subst e
  obtain ⟨x, e, -⟩ := ab_f0 h
  exact ⟨x, e⟩
theorem sh_k1 {f : ab_F} {v : Value} (e : f.1 = 1) (h : ab_f (sh_f f) v) : ∃ x, v = .long x := by
  obtain ⟨k, a, b, r⟩ := f
  simp only at e
  subst e
  obtain ⟨x, e, -⟩ := ab_f1 h
  exact ⟨x, e⟩
theorem sh_k2 {f : ab_F} {v : Value} (e : f.1 = 2) (h : ab_f (sh_f f) v) : ∃ x, v = .ref x ∧ x ∈ f.2.2.2 := by
  obtain ⟨k, a, b, r⟩ := f
  simp only at e
  subst e
  obtain ⟨x, e, h2⟩ := ab_f2 h
  exact ⟨x, e, h2⟩
theorem bI_ok (h : bF cs ci k 0 = true) (hm : a ∈ cs) (hS : oS hp) : ∃ fs, hp[a]? = some (.inr (ci, fs)) ∧ fs[k]? = some (.int (gI hp a k)) := by
  obtain ⟨fs, v, f, h1, h2, h3, h4, h5⟩ := bF_ok h hm hS
  obtain ⟨x, rfl⟩ := sh_k0 h4 h5
  refine ⟨fs, h1, ?_⟩
  unfold gI
  rw [h3, h2]
theorem bL_ok (h : bF cs ci k 1 = true) (hm : a ∈ cs) (hS : oS hp) : ∃ fs, hp[a]? = some (.inr (ci, fs)) ∧ fs[k]? = some (.long (gL hp a k)) := by
  obtain ⟨fs, v, f, h1, h2, h3, h4, h5⟩ := bF_ok h hm hS
  obtain ⟨x, rfl⟩ := sh_k1 h4 h5
  refine ⟨fs, h1, ?_⟩
  unfold gL
  rw [h3, h2]
theorem sx_any {d : Nat} {l ds : List Nat} (h : l.all (fun d => ds.any (fun e => Nat.beq d e)) = true) (hd : d ∈ l) : d ∈ ds := by
  obtain ⟨e, he, hb⟩ := List.any_eq_true.mp (List.all_eq_true.mp h d hd)
  rw [Nat.eq_of_beq_eq_true hb]
  exact he
theorem bR_ok (h : bR cs ci k ds = true) (hm : a ∈ cs) (hS : oS hp) : ∃ fs, hp[a]? = some (.inr (ci, fs)) ∧ fs[k]? = some (.ref (gR hp a k)) ∧ gR hp a k ∈ ds := by
  have h1 := List.all_eq_true.mp h a hm
  split at h1
  · rename_i ci' fs hg
    simp only [Bool.and_eq_true] at h1
    obtain ⟨h1, h2⟩ := h1
    have := Nat.eq_of_beq_eq_true h1
    subst this
    split at h2
    · rename_i f hf
      simp only [Bool.and_eq_true] at h2
      obtain ⟨vs, hx, hl, ha⟩ := oS_obj hS hg
      have hlt : k < vs.length := by rw [← hl]; exact (List.getElem?_eq_some_iff.mp hf).1
      have hv := List.getElem?_eq_getElem hlt
      obtain ⟨x, e1, e2⟩ := sh_k2 (Nat.eq_of_beq_eq_true h2.1) (ha k f _ hf hv)
      have e3 : gR hp a k = x := by
        unfold gR ac_fv
        rw [hx]
        simp only
        rw [hv, e1]
      rw [e1] at hv
      exact ⟨vs, hx, by rw [e3]; exact hv, by rw [e3]; exact sx_any h2.2 e2⟩
    · cases h2
  · cases h1
theorem bR1_ok {d : Nat} (h : bR cs ci k [d] = true) (hm : a ∈ cs) (hS : oS hp) : ∃ fs, hp[a]? = some (.inr (ci, fs)) ∧ fs[k]? = some (.ref d) := by
  obtain ⟨fs, h1, h2, h3⟩ := bR_ok h hm hS
  rw [List.mem_singleton.mp h3] at h2
  exact ⟨fs, h1, h2⟩
theorem bA_at {kd : Nat} (h : bA cs t n kd = true) (hm : a ∈ cs) (hS : oS hp) : ∃ (f : ab_F) (cont : (Nat → Int32) ⊕ (Nat → Int64) ⊕ (Nat → UInt32) ⊕ (Nat → UInt64) ⊕ (Nat → Option Nat)), f.1 = kd ∧ 0 < n ∧ hp[a]? = some (.inl (t, n, cont)) ∧ ab_c (.inr (t, n, sh_f f)) (.inl (t, n, cont)) := by
  have h1 := List.all_eq_true.mp h a hm
  split at h1
  · rename_i t' n' f hg
    simp only [Bool.and_eq_true] at h1
    have e1 := Nat.eq_of_beq_eq_true h1.1
    have e2 := Nat.eq_of_beq_eq_true h1.2.1
    subst e1 e2
    obtain ⟨x, hx, hc⟩ := oS_at hS hg
    cases x with
    | inr q => exact hc.elim
    | inl q =>
      obtain ⟨t2, n2, cont⟩ := q
      have q1 : t' = t2 := hc.1
      have q2 : n' = n2 := hc.2.1
      subst q1 q2
      exact ⟨f, cont, Nat.eq_of_beq_eq_true h1.2.2.1, Nat.le_of_ble_eq_true h1.2.2.2, hx, hc⟩
  · cases h1
theorem bAI_ok (h : bA cs t n 0 = true) (hm : a ∈ cs) (hS : oS hp) : hp[a]? = some (.inl (t, n, .inl (aI hp a))) := by
  obtain ⟨f, cont, e, hn, hx, hc⟩ := bA_at h hm hS
  have h3 := hc.2.2 0 hn
  match cont, hx, h3 with
  | .inl g, hx, h3 =>
    have : aI hp a = g := by
      unfold aI
      rw [hx]
    rw [this]
    exact hx
  | .inr (.inl g), hx, h3 =>
    obtain ⟨x, hx2⟩ := sh_k0 e h3
    cases hx2
  | .inr (.inr (.inl g)), hx, h3 => exact h3.elim
  | .inr (.inr (.inr (.inl g))), hx, h3 => exact h3.elim
  | .inr (.inr (.inr (.inr g))), hx, ⟨q, e2, h3⟩ =>
    obtain ⟨x, hx2⟩ := sh_k0 e h3
    cases hx2
theorem bAL_ok (h : bA cs t n 1 = true) (hm : a ∈ cs) (hS : oS hp) : hp[a]? = some (.inl (t, n, .inr (.inl (aL hp a)))) := by
  obtain ⟨f, cont, e, hn, hx, hc⟩ := bA_at h hm hS
  have h3 := hc.2.2 0 hn
  match cont, hx, h3 with
  | .inl g, hx, h3 =>
    obtain ⟨x, hx2⟩ := sh_k1 e h3
    cases hx2
  | .inr (.inl g), hx, h3 =>
    have : aL hp a = g := by
      unfold aL
      rw [hx]
    rw [this]
    exact hx
  | .inr (.inr (.inl g)), hx, h3 => exact h3.elim
  | .inr (.inr (.inr (.inl g))), hx, h3 => exact h3.elim
  | .inr (.inr (.inr (.inr g))), hx, ⟨q, e2, h3⟩ =>
    obtain ⟨x, hx2⟩ := sh_k1 e h3
    cases hx2
theorem bAR_ok {j : Int32} (h : bAR cs t n ds = true) (hm : a ∈ cs) (hS : oS hp) (hj : px_inR j n = true) : ∃ g : Nat → Option Nat, hp[a]? = some (.inl (t, n, .inr (.inr (.inr (.inr g))))) ∧ g j.toNatClampNeg = some (aR hp a j.toNatClampNeg) ∧ aR hp a j.toNatClampNeg ∈ ds := by
  have h1 := List.all_eq_true.mp h a hm
  split at h1
  · rename_i t' n' f hg
    simp only [Bool.and_eq_true] at h1
    have e1 := Nat.eq_of_beq_eq_true h1.1
    have e2 := Nat.eq_of_beq_eq_true h1.2.1
    subst e1 e2
    have hlt : j.toNatClampNeg < n' := by
      unfold px_inR at hj
      simp only [Bool.and_eq_true, decide_eq_true_eq] at hj
      have : j.toNatClampNeg = j.toInt.toNat := rfl
      omega
    obtain ⟨x, hx, hc⟩ := oS_at hS hg
    have e := Nat.eq_of_beq_eq_true h1.2.2.1
    match x, hx, hc with
    | .inr q, hx, hc => exact hc.elim
    | .inl (t2, n2, .inl g), hx, hc =>
      obtain ⟨x, hx2⟩ := sh_k2 e (hc.2.2 _ hlt)
      cases hx2.1
    | .inl (t2, n2, .inr (.inl g)), hx, hc =>
      obtain ⟨x, hx2⟩ := sh_k2 e (hc.2.2 _ hlt)
      cases hx2.1
    | .inl (t2, n2, .inr (.inr (.inl g))), hx, hc => exact (hc.2.2 _ hlt).elim
    | .inl (t2, n2, .inr (.inr (.inr (.inl g)))), hx, hc => exact (hc.2.2 _ hlt).elim
    | .inl (t2, n2, .inr (.inr (.inr (.inr g)))), hx, hc =>
      obtain ⟨q, e2, h3⟩ := hc.2.2 _ hlt
      obtain ⟨x, hx2, hx3⟩ := sh_k2 e h3
      cases hx2
      have q1 : t' = t2 := hc.1
      have q2 : n' = n2 := hc.2.1
      subst q1 q2
      have e4 : aR hp a j.toNatClampNeg = q := by
        unfold aR
        rw [hx]
        simp only [e2, Option.getD_some]
      exact ⟨g, hx, by rw [e4]; exact e2, by rw [e4]; exact sx_any h1.2.2.2.2 hx3⟩
  · cases h1
end sx_0
end mg_0

section mg_1
/-! writing keeps the shape; what is read behind it -/
section sx_1
variable {hp : px_H} {cs ds : List Nat} {ci k a t n : Nat}
theorem wF_eq {fs : List Value} {v : Value} (hx : hp[a]? = some (.inr (ci, fs))) : wF hp a k v = hp.set a (.inr (ci, fs.set k v)) := by
  unfold wF
  rw [hx]
theorem uI_eq {f : Nat → Int32} {j : Nat} {x : Int32} (hx : hp[a]? = some (.inl (t, n, .inl f))) : uI hp a j x = hp.set a (.inl (t, n, .inl (upd f j x))) := by
  unfold uI
  rw [hx]
theorem uL_eq {f : Nat → Int64} {j : Nat} {x : Int64} (hx : hp[a]? = some (.inl (t, n, .inr (.inl f)))) : uL hp a j x = hp.set a (.inl (t, n, .inr (.inl (vp_updL f j x)))) := by
  unfold uL
  rw [hx]
theorem oS_set {x y : px_E} (hS : oS hp) (hx : hp[a]? = some x) (h : ∀ b : ab_C, ab_c b x → (nm_GH.map sh_c)[a]? = some b → ab_c b y) : oS (hp.set a y) := by
  refine ⟨by rw [List.length_set]; exact hS.1, fun j b z hb hz => ?_⟩
  by_cases hj : j = a
  · subst hj
    have hlt := (List.getElem?_eq_some_iff.mp hx).1
    rw [List.getElem?_set_self hlt] at hz
    cases hz
    exact h b (hS.2 j b x hb hx) hb
  · rw [List.getElem?_set_ne (Ne.symm hj)] at hz
    exact hS.2 j b z hb hz
theorem oS_put {fs : List Value} {v w : Value} (hS : oS hp) (hx : hp[a]? = some (.inr (ci, fs))) (hk : fs[k]? = some w) (hv : ∀ f : ab_F, ab_f (sh_f f) w → ab_f (sh_f f) v) : oS (wF hp a k v) := by
  rw [wF_eq hx]
  refine oS_set hS hx (fun b hb hb2 => ?_)
  rw [List.getElem?_map] at hb2
  cases hg : nm_GH[a]? with
  | none => rw [hg] at hb2; cases hb2
  | some g =>
    rw [hg] at hb2
    cases hb2
    cases g with
    | inr q => exact hb.elim
    | inl q =>
      obtain ⟨c0, gs⟩ := q
      obtain ⟨e1, e2, e3⟩ := hb
      refine ⟨e1, by rw [List.length_set]; exact e2, fun j f u hf hu => ?_⟩
      by_cases hj : j = k
      · subst hj
        have hlt := (List.getElem?_eq_some_iff.mp hk).1
        rw [List.getElem?_set_self hlt] at hu
        cases hu
        rw [List.getElem?_map] at hf
        cases hf2 : gs[j]? with
        | none => rw [hf2] at hf; cases hf
        | some f2 =>
          rw [hf2] at hf
          cases hf
          refine hv f2 (e3 j (sh_f f2) w ?_ hk)
          rw [List.getElem?_map, hf2]
          rfl
      · rw [List.getElem?_set_ne (Ne.symm hj)] at hu
        exact e3 j f u hf hu
theorem sh_i {f : ab_F} {x y : Int32} (h : ab_f (sh_f f) (.int x)) : ab_f (sh_f f) (.int y) := by
  obtain ⟨k, a, b, r⟩ := f
  match k, h with
  | 0, _ => exact ⟨rfl, (ab_i32 y).1, (ab_i32 y).2⟩
  | 1, h => exact absurd (show (1 : Nat) = 0 from h.1) (by decide)
  | k + 2, h => exact absurd h.1 (by simp [sh_f])
theorem sh_l {f : ab_F} {x y : Int64} (h : ab_f (sh_f f) (.long x)) : ab_f (sh_f f) (.long y) := by
  obtain ⟨k, a, b, r⟩ := f
  match k, h with
  | 0, h => exact absurd (show (0 : Nat) = 1 from h.1) (by decide)
  | 1, _ => exact ⟨rfl, (ab_i64 y).1, (ab_i64 y).2⟩
  | k + 2, h =>
    have e : k + 2 = 1 := h.1
    omega
theorem oS_wI {v : Int32} (h : bF cs ci k 0 = true) (hm : a ∈ cs) (hS : oS hp) : oS (wF hp a k (.int v)) := by
  obtain ⟨fs, h1, h2⟩ := bI_ok h hm hS
  exact oS_put hS h1 h2 (fun f hf => sh_i hf)
theorem oS_wL {v : Int64} (h : bF cs ci k 1 = true) (hm : a ∈ cs) (hS : oS hp) : oS (wF hp a k (.long v)) := by
  obtain ⟨fs, h1, h2⟩ := bL_ok h hm hS
  exact oS_put hS h1 h2 (fun f hf => sh_l hf)
/-- a field that holds a reference, of an object that is known -/
def bW (a ci k d : Nat) : Bool := match nm_GH[a]? with
  | some (.inl (ci', fs)) => Nat.beq ci' ci && (match fs[k]? with
    | some f => Nat.beq f.1 2 && f.2.2.2.any (fun e => Nat.beq e d)
    | none => false)
  | _ => false
theorem oS_wR {d : Nat} (h : bW a ci k d = true) (hS : oS hp) : oS (wF hp a k (.ref d)) := by
  unfold bW at h
  split at h
  · rename_i ci' fs hg
    simp only [Bool.and_eq_true] at h
    have := Nat.eq_of_beq_eq_true h.1
    subst this
    obtain ⟨-, h2⟩ := h
    split at h2
    · rename_i f hf
      simp only [Bool.and_eq_true] at h2
      obtain ⟨vs, hx, hl, ha⟩ := oS_obj hS hg
      rw [wF_eq hx]
      refine oS_set hS hx (fun b hb hb2 => ?_)
      rw [List.getElem?_map, hg] at hb2
      cases hb2
      obtain ⟨e1, e2, e3⟩ := hb
      refine ⟨e1, by rw [List.length_set]; exact e2, fun j f' u hf' hu => ?_⟩
      by_cases hj : j = k
      · subst hj
        have hlt : j < vs.length := by rw [← hl]; exact (List.getElem?_eq_some_iff.mp hf).1
        rw [List.getElem?_set_self hlt] at hu
        cases hu
        rw [List.getElem?_map, hf] at hf'
        cases hf'
        obtain ⟨f0, f1, f2, f3⟩ := f
        have e := Nat.eq_of_beq_eq_true h2.1
        simp only at e
        subst e
        obtain ⟨e, he, hb⟩ := List.any_eq_true.mp h2.2
        rw [← Nat.eq_of_beq_eq_true hb]
        exact ⟨rfl, he⟩
      · rw [List.getElem?_set_ne (Ne.symm hj)] at hu
        exact e3 j f' u hf' hu
    · cases h2
  · cases h
theorem oS_uI {j : Nat} {x : Int32} (h : bA cs t n 0 = true) (hm : a ∈ cs) (hS : oS hp) : oS (uI hp a j x) := by
  have hx := bAI_ok h hm hS
  rw [uI_eq hx]
  refine oS_set hS hx (fun b hb hb2 => ?_)
  rw [List.getElem?_map] at hb2
  cases hg : nm_GH[a]? with
  | none => rw [hg] at hb2; cases hb2
  | some g =>
    rw [hg] at hb2
    cases hb2
    cases g with
    | inl q => exact hb.elim
    | inr q =>
      obtain ⟨t0, n0, f⟩ := q
      exact ⟨hb.1, hb.2.1, fun i hi => sh_i (hb.2.2 i hi)⟩
theorem oS_uL {j : Nat} {x : Int64} (h : bA cs t n 1 = true) (hm : a ∈ cs) (hS : oS hp) : oS (uL hp a j x) := by
  have hx := bAL_ok h hm hS
  rw [uL_eq hx]
  refine oS_set hS hx (fun b hb hb2 => ?_)
  rw [List.getElem?_map] at hb2
  cases hg : nm_GH[a]? with
  | none => rw [hg] at hb2; cases hb2
  | some g =>
    rw [hg] at hb2
    cases hb2
    cases g with
    | inl q => exact hb.elim
    | inr q =>
      obtain ⟨t0, n0, f⟩ := q
      exact ⟨hb.1, hb.2.1, fun i hi => sh_l (hb.2.2 i hi)⟩
/-! reading behind a write -/
theorem fv_wF_ne {v : Value} {c j : Nat} (h : ¬ (c = a ∧ j = k)) : ac_fv (wF hp a k v) c j = ac_fv hp c j := by
  unfold wF
  split
  · rename_i ci' fs hx
    by_cases hk : k < fs.length
    · rw [ac_fv_set hx hk, if_neg h]
    · have e : fs.set k v = fs := List.set_eq_of_length_le (by omega)
      rw [e]
      unfold ac_fv
      by_cases hc : c = a
      · subst hc
        rw [List.getElem?_set_self (List.getElem?_eq_some_iff.mp hx).1, hx]
      · rw [List.getElem?_set_ne (Ne.symm hc)]
  · rfl
theorem fv_wF_eq {v w : Value} (h : ac_fv hp a k = some w) : ac_fv (wF hp a k v) a k = some v := by
  unfold ac_fv at h
  split at h
  · rename_i ci' fs hx
    rw [wF_eq hx, ac_fv_set hx (List.getElem?_eq_some_iff.mp h).1, if_pos ⟨rfl, rfl⟩]
  · cases h
theorem fv_uI {c j b : Nat} {x : Int32} : ac_fv (uI hp a b x) c j = ac_fv hp c j := by
  unfold uI
  split
  · rename_i hx
    rw [ac_fv_arr hx]
  · rfl
theorem fv_uL {c j b : Nat} {x : Int64} : ac_fv (uL hp a b x) c j = ac_fv hp c j := by
  unfold uL
  split
  · rename_i hx
    rw [ac_fv_arr hx]
  · rfl
theorem at_wF {v : Value} {c : Nat} {q : Nat × vp_A} : (wF hp a k v)[c]? = some (.inl q) ↔ hp[c]? = some (.inl q) := by
  unfold wF
  split
  · rename_i ci' fs hx
    by_cases hc : c = a
    · subst hc
      rw [List.getElem?_set_self (List.getElem?_eq_some_iff.mp hx).1, hx]
      constructor <;> intro h <;> cases h
    · rw [List.getElem?_set_ne (Ne.symm hc)]
  · exact Iff.rfl
theorem aI_wF {v : Value} {c : Nat} : aI (wF hp a k v) c = aI hp c := by
  unfold aI
  cases h : hp[c]? with
  | none =>
    cases h2 : (wF hp a k v)[c]? with
    | none => rfl
    | some y =>
      cases y with
      | inl q => rw [at_wF.mp h2] at h; cases h
      | inr q => rfl
  | some y =>
    cases y with
    | inl q => rw [at_wF.mpr h]
    | inr q =>
      cases h2 : (wF hp a k v)[c]? with
      | none => rfl
      | some z =>
        cases z with
        | inl q => rw [at_wF.mp h2] at h; cases h
        | inr q => rfl
theorem aL_wF {v : Value} {c : Nat} : aL (wF hp a k v) c = aL hp c := by
  unfold aL
  cases h : hp[c]? with
  | none =>
    cases h2 : (wF hp a k v)[c]? with
    | none => rfl
    | some y =>
      cases y with
      | inl q => rw [at_wF.mp h2] at h; cases h
      | inr q => rfl
  | some y =>
    cases y with
    | inl q => rw [at_wF.mpr h]
    | inr q =>
      cases h2 : (wF hp a k v)[c]? with
      | none => rfl
      | some z =>
        cases z with
        | inl q => rw [at_wF.mp h2] at h; cases h
        | inr q => rfl
theorem at_uI_ne {j c : Nat} {x : Int32} (h : c ≠ a) : (uI hp a j x)[c]? = hp[c]? := by
  unfold uI
  split
  · rw [List.getElem?_set_ne (Ne.symm h)]
  · rfl
theorem at_uL_ne {j c : Nat} {x : Int64} (h : c ≠ a) : (uL hp a j x)[c]? = hp[c]? := by
  unfold uL
  split
  · rw [List.getElem?_set_ne (Ne.symm h)]
  · rfl
theorem aI_uI_ne {j c : Nat} {x : Int32} (h : c ≠ a) : aI (uI hp a j x) c = aI hp c := by
  unfold aI
  rw [at_uI_ne h]
theorem aL_uL_ne {j c : Nat} {x : Int64} (h : c ≠ a) : aL (uL hp a j x) c = aL hp c := by
  unfold aL
  rw [at_uL_ne h]
theorem aI_uI {j : Nat} {x : Int32} (h : bA cs t n 0 = true) (hm : a ∈ cs) (hS : oS hp) : aI (uI hp a j x) a = upd (aI hp a) j x := by
  have hx := bAI_ok h hm hS
  rw [uI_eq hx]
  conv => lhs; unfold aI
  rw [List.getElem?_set_self (List.getElem?_eq_some_iff.mp hx).1]
  rfl
theorem aL_uL {j : Nat} {x : Int64} (h : bA cs t n 1 = true) (hm : a ∈ cs) (hS : oS hp) : aL (uL hp a j x) a = vp_updL (aL hp a) j x := by
  have hx := bAL_ok h hm hS
  rw [uL_eq hx]
  conv => lhs; unfold aL
  rw [List.getElem?_set_self (List.getElem?_eq_some_iff.mp hx).1]
  rfl
theorem aI_uL {j c : Nat} {x : Int64} : aI (uL hp a j x) c = aI hp c := by
  by_cases h : c = a
  · subst h
    unfold uL
    split
    · rename_i hx
      unfold aI
      rw [List.getElem?_set_self (List.getElem?_eq_some_iff.mp hx).1, hx]
    · rfl
  · unfold aI
    rw [at_uL_ne h]
theorem aL_uI {j c : Nat} {x : Int32} : aL (uI hp a j x) c = aL hp c := by
  by_cases h : c = a
  · subst h
    unfold uI
    split
    · rename_i hx
      unfold aL
      rw [List.getElem?_set_self (List.getElem?_eq_some_iff.mp hx).1, hx]
    · rfl
  · unfold aL
    rw [at_uI_ne h]
theorem gI_uI {c j b : Nat} {x : Int32} : gI (uI hp a b x) c j = gI hp c j := by unfold gI; rw [fv_uI]
theorem gL_uI {c j b : Nat} {x : Int32} : gL (uI hp a b x) c j = gL hp c j := by unfold gL; rw [fv_uI]
theorem gR_uI {c j b : Nat} {x : Int32} : gR (uI hp a b x) c j = gR hp c j := by unfold gR; rw [fv_uI]
theorem gI_uL {c j b : Nat} {x : Int64} : gI (uL hp a b x) c j = gI hp c j := by unfold gI; rw [fv_uL]
theorem gL_uL {c j b : Nat} {x : Int64} : gL (uL hp a b x) c j = gL hp c j := by unfold gL; rw [fv_uL]
theorem gR_uL {c j b : Nat} {x : Int64} : gR (uL hp a b x) c j = gR hp c j := by unfold gR; rw [fv_uL]
theorem gI_wF_ne {v : Value} {c j : Nat} (h : ¬ (c = a ∧ j = k)) : gI (wF hp a k v) c j = gI hp c j := by unfold gI; rw [fv_wF_ne h]
theorem gL_wF_ne {v : Value} {c j : Nat} (h : ¬ (c = a ∧ j = k)) : gL (wF hp a k v) c j = gL hp c j := by unfold gL; rw [fv_wF_ne h]
theorem gR_wF_ne {v : Value} {c j : Nat} (h : ¬ (c = a ∧ j = k)) : gR (wF hp a k v) c j = gR hp c j := by unfold gR; rw [fv_wF_ne h]
theorem fv_of {kd : Nat} (h : bF cs ci k kd = true) (hm : a ∈ cs) (hS : oS hp) : ∃ w, ac_fv hp a k = some w := by
  obtain ⟨fs, v, f, -, -, h3, -, -⟩ := bF_ok h hm hS
  exact ⟨v, h3⟩
theorem gI_wF {v : Int32} (h : bF cs ci k 0 = true) (hm : a ∈ cs) (hS : oS hp) : gI (wF hp a k (.int v)) a k = v := by
  obtain ⟨w, hw⟩ := fv_of h hm hS
  unfold gI
  rw [fv_wF_eq hw]
theorem gL_wF {v : Int64} (h : bF cs ci k 1 = true) (hm : a ∈ cs) (hS : oS hp) : gL (wF hp a k (.long v)) a k = v := by
  obtain ⟨w, hw⟩ := fv_of h hm hS
  unfold gL
  rw [fv_wF_eq hw]
theorem gR_wF {v : Nat} (h : bF cs ci k 2 = true) (hm : a ∈ cs) (hS : oS hp) : gR (wF hp a k (.ref v)) a k = v := by
  obtain ⟨w, hw⟩ := fv_of h hm hS
  unfold gR
  rw [fv_wF_eq hw]
end sx_1
end mg_1

section mg_2
/-! steps of a method, from place to place; locals that are known -/
def px_Y (M : px_M) (pc : Nat) (lv : List (Nat × Value)) (st : List Value) (hp : px_H) (r : Option Value) (hp' : px_H) : Prop := px_Z nm_T none nm_P M pc lv st hp r hp' ∧ oS hp'
def lk (lv : List (Nat × Value)) : List (Nat × Value) → Prop
  | [] => True
  | q :: r => px_find q.1 lv = some q.2 ∧ lk lv r
def sb {α β : Type} (x : α) (f : α → β) : β := f x
section sx_2
theorem sb_e {α β : Type} {x : α} {f : α → β} {y : β} (h : sb x f = y) : f x = y := h
theorem cd_t {α : Type} {c : Bool} {a b : Option α} {x : α} (hc : c = true) (h : (bif c then a else b) = some x) : a = some x := by
  rw [hc] at h
  exact h
theorem cd_f {α : Type} {c : Bool} {a b : Option α} {x : α} (hc : c = false) (h : (bif c then a else b) = some x) : b = some x := by
  rw [hc] at h
  exact h
/-- what fails else -/
theorem cd_n {α : Type} {c : Bool} {a : Option α} {x : α} (h : (bif c then a else none) = some x) : c = true ∧ a = some x := by
  cases c with
  | true => exact ⟨rfl, h⟩
  | false => cases h
theorem bd_e {α β : Type} {o : Option α} {f : α → Option β} {x : β} (h : o.bind f = some x) : ∃ q, o = some q ∧ f q = some x := Option.bind_eq_some_iff.mp h
theorem lk_find {lv : List (Nat × Value)} {j : Nat} {v : Value} : ∀ {L : List (Nat × Value)}, lk lv L → px_find j L = some v → px_find j lv = some v
  | [], _, h => by cases h
  | q :: r, hk, h => by
    unfold px_find at h
    split at h
    · rename_i hb
      have e := Nat.eq_of_beq_eq_true hb
      subst e
      cases h
      exact hk.1
    · exact lk_find hk.2 h
theorem px_find_filter {P : Nat × Value → Bool} {k : Nat} {w : Value} (hP : P (k, w) = true) : ∀ {lv : List (Nat × Value)}, px_find k lv = some w → px_find k (lv.filter P) = some w
  | [], h => by cases h
  | q :: r, h => by
    unfold px_find at h
    split at h
    · rename_i hb
      have e := Nat.eq_of_beq_eq_true hb
      obtain ⟨q1, q2⟩ := q
      simp only at e
      subst e
      cases h
      rw [List.filter_cons_of_pos hP]
      unfold px_find
      simp only [Nat.beq_refl]
    · rename_i hb
      cases hq : P q with
      | true =>
        rw [List.filter_cons_of_pos hq]
        unfold px_find
        rw [hb]
        exact px_find_filter hP h
      | false =>
        rw [List.filter_cons_of_neg (by rw [hq]; decide)]
        exact px_find_filter hP h
theorem lk_all {lv : List (Nat × Value)} : ∀ {L : List (Nat × Value)}, (∀ q ∈ L, px_find q.1 lv = some q.2) → lk lv L
  | [], _ => trivial
  | q :: r, h => ⟨h q List.mem_cons_self, lk_all (fun q hq => h q (List.mem_cons_of_mem _ hq))⟩
theorem lk_mem {lv : List (Nat × Value)} {q : Nat × Value} : ∀ {L : List (Nat × Value)}, lk lv L → q ∈ L → px_find q.1 lv = some q.2
  | [], _, h => by cases h
  | p :: r, hk, h => by
    rcases List.mem_cons.mp h with e | h
    · rw [e]; exact hk.1
    · exact lk_mem hk.2 h
theorem lk_st1 {lv L : List (Nat × Value)} {j : Nat} {v : Value} (h : lk lv L) : lk (px_st1 lv j v) (px_st1 L j v) := by
  refine lk_all (fun q hq => ?_)
  unfold px_st1 at hq ⊢
  rcases List.mem_cons.mp hq with e | hq
  · subst e
    unfold px_find
    simp only [Nat.beq_refl]
  · obtain ⟨hq1, hq2⟩ := List.mem_filter.mp hq
    unfold px_find
    split
    · rename_i hb
      have e := Nat.eq_of_beq_eq_true hb
      simp only at e
      simp only [Bool.and_eq_true, Bool.not_eq_true', beq_eq_false_iff_ne] at hq2
      exact absurd e.symm hq2.1
    · exact px_find_filter hq2 (lk_mem h hq1)
theorem lk_st2 {lv L : List (Nat × Value)} {j : Nat} {v : Value} (h : lk lv L) : lk (px_st2 lv j v) (px_st2 L j v) := by
  refine lk_all (fun q hq => ?_)
  unfold px_st2 at hq ⊢
  rcases List.mem_cons.mp hq with e | hq
  · subst e
    unfold px_find
    simp only [Nat.beq_refl]
  · obtain ⟨hq1, hq2⟩ := List.mem_filter.mp hq
    unfold px_find
    split
    · rename_i hb
      have e := Nat.eq_of_beq_eq_true hb
      simp only at e
      simp only [Bool.and_eq_true, Bool.not_eq_true', beq_eq_false_iff_ne] at hq2
      exact absurd e.symm hq2.1
    · exact px_find_filter hq2 (lk_mem h hq1)
end sx_2
section sx_3
variable {M : px_M} {pc pc1 len : Nat} {lv lv1 L : List (Nat × Value)} {st st1 : List Value} {hp hp1 hp' : px_H} {r : Option Value}
variable {cs ds : List Nat} {ci k a t n idx : Nat} {fl : Int}
theorem py_its (k : Nat) (h : ∀ (call : Nat → List Value → px_H → Option px_A) (N0 nc ns : Nat), px_its nm_T none nm_P call M N0 k (pc, lv, st, hp, nc, ns) = some (pc1, lv1, st1, hp, nc, ns)) (hR : px_Y M pc1 lv1 st1 hp r hp') : px_Y M pc lv st hp r hp' := ⟨px_Z_its k h hR.1, hR.2⟩
theorem py_gI (hf : px_find pc (px_cd M) = some (len, .getfield idx)) (hj : px_find idx (px_cp M) = some (0, ci, k, fl)) (hb : bF cs ci k 0 = true) (hm : a ∈ cs) (hS : oS hp) (hR : px_Y M (pc + len) lv (.int (gI hp a k) :: st) hp r hp') : px_Y M pc lv (.ref a :: st) hp r hp' := by
  obtain ⟨fs, h1, h2⟩ := bI_ok hb hm hS
  exact ⟨px_q_get hf hj h1 h2 hR.1, hR.2⟩
theorem py_gL (hf : px_find pc (px_cd M) = some (len, .getfield idx)) (hj : px_find idx (px_cp M) = some (0, ci, k, fl)) (hb : bF cs ci k 1 = true) (hm : a ∈ cs) (hS : oS hp) (hR : px_Y M (pc + len) lv (.long (gL hp a k) :: st) hp r hp') : px_Y M pc lv (.ref a :: st) hp r hp' := by
  obtain ⟨fs, h1, h2⟩ := bL_ok hb hm hS
  exact ⟨px_q_get hf hj h1 h2 hR.1, hR.2⟩
theorem py_gR (ds : List Nat) (hf : px_find pc (px_cd M) = some (len, .getfield idx)) (hj : px_find idx (px_cp M) = some (0, ci, k, fl)) (hb : bR cs ci k ds = true) (hm : a ∈ cs) (hS : oS hp) (hR : gR hp a k ∈ ds → px_Y M (pc + len) lv (.ref (gR hp a k) :: st) hp r hp') : px_Y M pc lv (.ref a :: st) hp r hp' := by
  obtain ⟨fs, h1, h2, h3⟩ := bR_ok hb hm hS
  exact ⟨px_q_get hf hj h1 h2 (hR h3).1, (hR h3).2⟩
theorem py_g1 (d : Nat) (hf : px_find pc (px_cd M) = some (len, .getfield idx)) (hj : px_find idx (px_cp M) = some (0, ci, k, fl)) (hb : bR cs ci k [d] = true) (hm : a ∈ cs) (hS : oS hp) (hR : px_Y M (pc + len) lv (.ref d :: st) hp r hp') : px_Y M pc lv (.ref a :: st) hp r hp' := by
  obtain ⟨fs, h1, h2⟩ := bR1_ok hb hm hS
  exact ⟨px_q_get hf hj h1 h2 hR.1, hR.2⟩
theorem py_pI {v : Int32} {nm : Nat} {tys : List FieldType} {ty : FieldType} (hf : px_find pc (px_cd M) = some (len, .putfield idx)) (hj : px_find idx (px_cp M) = some (0, ci, k, fl)) (hb : bF cs ci k 0 = true) (hm : a ∈ cs) (hS : oS hp) (hT : nm_T.2[ci]? = some (nm, tys)) (hty : tys[k]? = some ty) (hfl : decide (fl ≤ 2) = true) (hfit : px_fits ty (.int v) = true) (hR : px_Y M (pc + len) lv st (wF hp a k (.int v)) r hp') : px_Y M pc lv (.int v :: .ref a :: st) hp r hp' := by
  obtain ⟨fs, h1, h2⟩ := bI_ok hb hm hS
  rw [wF_eq h1] at hR
  exact ⟨px_q_putf hf hj h1 (List.getElem?_eq_some_iff.mp h2).1 hT hty hfl hfit hR.1, hR.2⟩
theorem py_pL {v : Int64} {nm : Nat} {tys : List FieldType} {ty : FieldType} (hf : px_find pc (px_cd M) = some (len, .putfield idx)) (hj : px_find idx (px_cp M) = some (0, ci, k, fl)) (hb : bF cs ci k 1 = true) (hm : a ∈ cs) (hS : oS hp) (hT : nm_T.2[ci]? = some (nm, tys)) (hty : tys[k]? = some ty) (hfl : decide (fl ≤ 2) = true) (hfit : px_fits ty (.long v) = true) (hR : px_Y M (pc + len) lv st (wF hp a k (.long v)) r hp') : px_Y M pc lv (.long v :: .ref a :: st) hp r hp' := by
  obtain ⟨fs, h1, h2⟩ := bL_ok hb hm hS
  rw [wF_eq h1] at hR
  exact ⟨px_q_putf hf hj h1 (List.getElem?_eq_some_iff.mp h2).1 hT hty hfl hfit hR.1, hR.2⟩
theorem py_pR {d : Nat} {nm : Nat} {tys : List FieldType} {ty : FieldType} (hf : px_find pc (px_cd M) = some (len, .putfield idx)) (hj : px_find idx (px_cp M) = some (0, ci, k, fl)) (hb : bR cs ci k ds = true) (hm : a ∈ cs) (hS : oS hp) (hT : nm_T.2[ci]? = some (nm, tys)) (hty : tys[k]? = some ty) (hfl : decide (fl ≤ 2) = true) (hfit : px_fits ty (.ref d) = true) (hR : px_Y M (pc + len) lv st (wF hp a k (.ref d)) r hp') : px_Y M pc lv (.ref d :: .ref a :: st) hp r hp' := by
  obtain ⟨fs, h1, h2, -⟩ := bR_ok hb hm hS
  rw [wF_eq h1] at hR
  exact ⟨px_q_putf hf hj h1 (List.getElem?_eq_some_iff.mp h2).1 hT hty hfl hfit hR.1, hR.2⟩
theorem py_ai {j : Int32} (hf : px_find pc (px_cd M) = some (len, .iaload)) (hb : bA cs t n 0 = true) (ht : nm_T.1[t]? = some .int) (hj : px_inR j n = true) (hm : a ∈ cs) (hS : oS hp) (hR : px_Y M (pc + len) lv (.int (aI hp a j.toNatClampNeg) :: st) hp r hp') : px_Y M pc lv (.int j :: .ref a :: st) hp r hp' :=
  ⟨px_q_iald hf (bAI_ok hb hm hS) ht hj hR.1, hR.2⟩
theorem py_ab {j : Int32} (hf : px_find pc (px_cd M) = some (len, .baload)) (hb : bA cs t n 0 = true) (ht : nm_T.1[t]? = some .boolean) (hj : px_inR j n = true) (hm : a ∈ cs) (hS : oS hp) (hR : px_Y M (pc + len) lv (.int (aI hp a j.toNatClampNeg) :: st) hp r hp') : px_Y M pc lv (.int j :: .ref a :: st) hp r hp' :=
  ⟨px_q_bald hf (bAI_ok hb hm hS) ht hj hR.1, hR.2⟩
theorem py_al {j : Int32} (hf : px_find pc (px_cd M) = some (len, .laload)) (hb : bA cs t n 1 = true) (ht : nm_T.1[t]? = some .long) (hj : px_inR j n = true) (hm : a ∈ cs) (hS : oS hp) (hR : px_Y M (pc + len) lv (.long (aL hp a j.toNatClampNeg) :: st) hp r hp') : px_Y M pc lv (.int j :: .ref a :: st) hp r hp' :=
  ⟨px_q_lald hf (bAL_ok hb hm hS) ht hj hR.1, hR.2⟩
theorem py_ar {j : Int32} {cl : String} (ds : List Nat) (hf : px_find pc (px_cd M) = some (len, .aaload)) (hb : bAR cs t n ds = true) (ht : nm_T.1[t]? = some (.object cl)) (hj : px_inR j n = true) (hm : a ∈ cs) (hS : oS hp) (hR : aR hp a j.toNatClampNeg ∈ ds → px_Y M (pc + len) lv (.ref (aR hp a j.toNatClampNeg) :: st) hp r hp') : px_Y M pc lv (.int j :: .ref a :: st) hp r hp' := by
  obtain ⟨g, h1, h2, h3⟩ := bAR_ok hb hm hS hj
  exact ⟨px_Z_its 1 (fun call N0 nc ns => by simp only [px_its, px_step, hf, px_alu, px_ald, h1, ht, hj, h2, Option.map_some]) (hR h3).1, (hR h3).2⟩
theorem py_si {j x : Int32} (hf : px_find pc (px_cd M) = some (len, .iastore)) (hb : bA cs t n 0 = true) (ht : nm_T.1[t]? = some .int) (hj : px_inR j n = true) (hm : a ∈ cs) (hS : oS hp) (hR : px_Y M (pc + len) lv st (uI hp a j.toNatClampNeg x) r hp') : px_Y M pc lv (.int x :: .int j :: .ref a :: st) hp r hp' := by
  rw [uI_eq (bAI_ok hb hm hS)] at hR
  exact ⟨px_q_iast hf (bAI_ok hb hm hS) ht hj hR.1, hR.2⟩
theorem py_sb {j x : Int32} (hf : px_find pc (px_cd M) = some (len, .bastore)) (hb : bA cs t n 0 = true) (ht : nm_T.1[t]? = some .boolean) (hj : px_inR j n = true) (h01 : (decide (x = 0) || decide (x = 1)) = true) (hm : a ∈ cs) (hS : oS hp) (hR : px_Y M (pc + len) lv st (uI hp a j.toNatClampNeg x) r hp') : px_Y M pc lv (.int x :: .int j :: .ref a :: st) hp r hp' := by
  rw [uI_eq (bAI_ok hb hm hS)] at hR
  exact ⟨px_q_bast hf (bAI_ok hb hm hS) ht hj h01 hR.1, hR.2⟩
theorem py_sl {j : Int32} {x : Int64} (hf : px_find pc (px_cd M) = some (len, .lastore)) (hb : bA cs t n 1 = true) (ht : nm_T.1[t]? = some .long) (hj : px_inR j n = true) (hm : a ∈ cs) (hS : oS hp) (hR : px_Y M (pc + len) lv st (uL hp a j.toNatClampNeg x) r hp') : px_Y M pc lv (.long x :: .int j :: .ref a :: st) hp r hp' := by
  rw [uL_eq (bAL_ok hb hm hS)] at hR
  exact ⟨px_q_last hf (bAL_ok hb hm hS) ht hj hR.1, hR.2⟩
theorem py_ic {c : ClassFile.Cond} {off : Int} {x y : Int32} (bb : Bool) (hf : px_find pc (px_cd M) = some (len, .if_icmp c off)) (hc : px_cmp c x y = bb) (hR : px_Y M (bif bb then px_tgt pc off else pc + 3) lv st hp r hp') : px_Y M pc lv (.int y :: .int x :: st) hp r hp' := ⟨px_q_icmp hf hc hR.1, hR.2⟩
theorem py_if {c : ClassFile.Cond} {off : Int} {x : Int32} (bb : Bool) (hf : px_find pc (px_cd M) = some (len, .ifCond c off)) (hc : px_cmp c x 0 = bb) (hR : px_Y M (bif bb then px_tgt pc off else pc + 3) lv st hp r hp') : px_Y M pc lv (.int x :: st) hp r hp' := ⟨px_q_if hf hc hR.1, hR.2⟩
theorem py_lc {c : ClassFile.Cond} {off : Int} {x y : Int64} (bb : Bool) (hf : px_find pc (px_cd M) = some (len, .lcmp)) (hf2 : px_find (pc + len) (px_cd M) = some (3, .ifCond c off)) (hc : px_cmp c (lg_cmp x y) 0 = bb) (hR : px_Y M (bif bb then px_tgt (pc + len) off else pc + len + 3) lv st hp r hp') : px_Y M pc lv (.long y :: .long x :: st) hp r hp' := ⟨px_q_lif hf hf2 hc hR.1, hR.2⟩
theorem py_ir {v : Int32} {ty : FieldType} (hf : px_find pc (px_cd M) = some (len, .ireturn)) (hr : px_rt M = some ty) (hz : px_zr ty v = true) (hS : oS hp) : px_Y M pc lv [.int v] hp (some (.int v)) hp := ⟨px_q_iret hf hr hz, hS⟩
theorem py_lr {v : Int64} (hf : px_find pc (px_cd M) = some (len, .lreturn)) (hr : px_rt M = some .long) (hS : oS hp) : px_Y M pc lv [.long v] hp (some (.long v)) hp := ⟨px_q_lret hf hr, hS⟩
theorem py_rt (hf : px_find pc (px_cd M) = some (len, .return_)) (hr : px_rt M = none) (hS : oS hp) : px_Y M pc lv [] hp none hp := ⟨px_q_ret hf hr, hS⟩
theorem py_vi {mi n a : Nat} {z : Int} {N : px_M} {r1 : Option Value} (hf : px_find pc (px_cd M) = some (3, .invokevirtual idx)) (hj : px_find idx (px_cp M) = some (1, mi, n, z)) (hn : st[n]? = some (.ref a)) (hb : bO cs z.toNat = true) (hm : a ∈ cs) (hS : oS hp) (hN : nm_P[mi]? = some N)
    (hl : n + 1 ≤ st.length) (h8 : ((st.drop (n + 1)).map fun v => v.category).sum ≤ 8) (hce : (px_rm N).cells = 0) (hsl : (px_rm N).slots = 0) (hC : px_C nm_T nm_P mi (st.take (n + 1)).reverse hp r1 hp1)
    (hR : px_Y M (pc + 3) lv (r1.toList ++ st.drop (n + 1)) hp1 r hp') : px_Y M pc lv st hp r hp' := by
  obtain ⟨fs, hx⟩ := bO_ok hb hm hS
  exact ⟨px_q_virt hf hj hn hx hN hl h8 hce hsl hC hR.1, hR.2⟩
theorem py_st {mi n : Nat} {z : Int} {N : px_M} {r1 : Option Value} (hf : px_find pc (px_cd M) = some (3, .invokestatic idx)) (hj : px_find idx (px_cp M) = some (2, mi, n, z)) (hN : nm_P[mi]? = some N)
    (hl : n ≤ st.length) (h8 : ((st.drop n).map fun v => v.category).sum ≤ 8) (hce : (px_rm N).cells = 0) (hsl : (px_rm N).slots = 0) (hC : px_C nm_T nm_P mi (st.take n).reverse hp r1 hp1)
    (hR : px_Y M (pc + 3) lv (r1.toList ++ st.drop n) hp1 r hp') : px_Y M pc lv st hp r hp' := ⟨px_q_stat hf hj hN hl h8 hce hsl hC hR.1, hR.2⟩
theorem py_C {mi : Nat} {av : List Value} (hN : nm_P[mi]? = some M) (hl : (lg_sl av).length ≤ px_ml M) (h : px_Y M 0 (lv_args 0 av) [] hp r hp') : px_C nm_T nm_P mi av hp r hp' ∧ oS hp' := ⟨px_C_of hN hl h.1, h.2⟩
theorem py_div {x y : Int64} (hf : px_find pc (px_cd M) = some (len, .ldiv)) (hy : decide (y = 0) = false) (hR : px_Y M (pc + len) lv (.long (x / y) :: st) hp r hp') : px_Y M pc lv (.long y :: .long x :: st) hp r hp' := ⟨px_q_ldiv hf (of_decide_eq_false hy) hR.1, hR.2⟩
theorem py_rem {x y : Int32} (hf : px_find pc (px_cd M) = some (len, .irem)) (hy : decide (y = 0) = false) (hR : px_Y M (pc + len) lv (.int (x - x / y * y) :: st) hp r hp') : px_Y M pc lv (.int y :: .int x :: st) hp r hp' :=
  ⟨px_Z_its 1 (fun call N0 nc ns => by simp only [px_its, px_step, hf, px_alu, px_iiz, if_neg (of_decide_eq_false hy)]) hR.1, hR.2⟩
theorem py_iln {j : Fin 4} {x : Int32} (hf : px_find pc (px_cd M) = some (len, .iload_n j)) (hk : lk lv L) (hv : px_find j L = some (.int x)) (hR : px_Y M (pc + len) lv (.int x :: st) hp r hp') : px_Y M pc lv st hp r hp' := ⟨px_q_iln hf (lk_find hk hv) hR.1, hR.2⟩
theorem py_il {j : Nat} {x : Int32} (hf : px_find pc (px_cd M) = some (len, .iload j)) (hk : lk lv L) (hv : px_find j L = some (.int x)) (hR : px_Y M (pc + len) lv (.int x :: st) hp r hp') : px_Y M pc lv st hp r hp' := ⟨px_q_il hf (lk_find hk hv) hR.1, hR.2⟩
theorem py_aln {j : Fin 4} {x : Nat} (hf : px_find pc (px_cd M) = some (len, .aload_n j)) (hk : lk lv L) (hv : px_find j L = some (.ref x)) (hR : px_Y M (pc + len) lv (.ref x :: st) hp r hp') : px_Y M pc lv st hp r hp' := ⟨px_q_aln hf (lk_find hk hv) hR.1, hR.2⟩
theorem py_aal {j : Nat} {x : Nat} (hf : px_find pc (px_cd M) = some (len, .aload j)) (hk : lk lv L) (hv : px_find j L = some (.ref x)) (hR : px_Y M (pc + len) lv (.ref x :: st) hp r hp') : px_Y M pc lv st hp r hp' :=
  ⟨px_Z_its 1 (fun call N0 nc ns => by simp only [px_its, px_step, hf, px_alu, lk_find hk hv]) hR.1, hR.2⟩
theorem py_lln {j : Fin 4} {x : Int64} (hf : px_find pc (px_cd M) = some (len, .lload_n j)) (hk : lk lv L) (hv : px_find j L = some (.long x)) (hR : px_Y M (pc + len) lv (.long x :: st) hp r hp') : px_Y M pc lv st hp r hp' :=
  ⟨px_Z_its 1 (fun call N0 nc ns => by simp only [px_its, px_step, hf, px_alu, lk_find hk hv]) hR.1, hR.2⟩
theorem py_ll {j : Nat} {x : Int64} (hf : px_find pc (px_cd M) = some (len, .lload j)) (hk : lk lv L) (hv : px_find j L = some (.long x)) (hR : px_Y M (pc + len) lv (.long x :: st) hp r hp') : px_Y M pc lv st hp r hp' := ⟨px_q_ll hf (lk_find hk hv) hR.1, hR.2⟩
theorem py_inc {j : Nat} {n : Int} {x : Int32} (hf : px_find pc (px_cd M) = some (len, .iinc j n)) (hm : decide (j < px_ml M) = true) (hk : lk lv L) (hv : px_find j L = some (.int x)) (hR : ∀ lv' : List (Nat × Value), lk lv' (px_st1 L j (.int (x + Int32.ofInt n))) → px_Y M (pc + len) lv' st hp r hp') : px_Y M pc lv st hp r hp' :=
  ⟨px_q_iinc hf (lk_find hk hv) hm (hR _ (lk_st1 hk)).1, (hR _ (lk_st1 hk)).2⟩
theorem py_sin {j : Fin 4} {x : Int32} (hf : px_find pc (px_cd M) = some (len, .istore_n j)) (hm : decide ((j : Nat) < px_ml M) = true) (hk : lk lv L) (hR : ∀ lv' : List (Nat × Value), lk lv' (px_st1 L j (.int x)) → px_Y M (pc + len) lv' st hp r hp') : px_Y M pc lv (.int x :: st) hp r hp' :=
  ⟨px_Z_its 1 (fun call N0 nc ns => by simp only [px_its, px_step, hf, px_alu, hm]) (hR _ (lk_st1 hk)).1, (hR _ (lk_st1 hk)).2⟩
theorem py_sti {j : Nat} {x : Int32} (hf : px_find pc (px_cd M) = some (len, .istore j)) (hm : decide (j < px_ml M) = true) (hk : lk lv L) (hR : ∀ lv' : List (Nat × Value), lk lv' (px_st1 L j (.int x)) → px_Y M (pc + len) lv' st hp r hp') : px_Y M pc lv (.int x :: st) hp r hp' :=
  ⟨px_Z_its 1 (fun call N0 nc ns => by simp only [px_its, px_step, hf, px_alu, hm]) (hR _ (lk_st1 hk)).1, (hR _ (lk_st1 hk)).2⟩
theorem py_sln {j : Fin 4} {x : Int64} (hf : px_find pc (px_cd M) = some (len, .lstore_n j)) (hm : decide ((j : Nat) + 1 < px_ml M) = true) (hk : lk lv L) (hR : ∀ lv' : List (Nat × Value), lk lv' (px_st2 L j (.long x)) → px_Y M (pc + len) lv' st hp r hp') : px_Y M pc lv (.long x :: st) hp r hp' :=
  ⟨px_Z_its 1 (fun call N0 nc ns => by simp only [px_its, px_step, hf, px_alu, hm]) (hR _ (lk_st2 hk)).1, (hR _ (lk_st2 hk)).2⟩
theorem py_stl {j : Nat} {x : Int64} (hf : px_find pc (px_cd M) = some (len, .lstore j)) (hm : decide (j + 1 < px_ml M) = true) (hk : lk lv L) (hR : ∀ lv' : List (Nat × Value), lk lv' (px_st2 L j (.long x)) → px_Y M (pc + len) lv' st hp r hp') : px_Y M pc lv (.long x :: st) hp r hp' :=
  ⟨px_Z_its 1 (fun call N0 nc ns => by simp only [px_its, px_step, hf, px_alu, hm]) (hR _ (lk_st2 hk)).1, (hR _ (lk_st2 hk)).2⟩
theorem py_lsw {dflt : Int} {ps : Array (Int × Int)} {x : Int32} {off : Int} (hf : px_find pc (px_cd M) = some (len, .lookupswitch dflt ps)) (ho : Op.lookupswitch.offset ps.toList dflt x.toInt = off) (h0 : decide (0 ≤ (pc : Int) + off) = true) (hR : px_Y M (px_tgt pc off) lv st hp r hp') : px_Y M pc lv (.int x :: st) hp r hp' :=
  ⟨px_Z_its 1 (fun call N0 nc ns => by subst ho; simp only [px_its, px_step, hf, px_alu, h0]) hR.1, hR.2⟩
end sx_3
/-- long shifts -/
def sx_lsl (x : Int64) (y : Int32) : Int64 := x <<< (y.toInt64 &&& 63)
def sx_lsr (x : Int64) (y : Int32) : Int64 := x >>> (y.toInt64 &&& 63)
def sx_lus (x : Int64) (y : Int32) : Int64 := (x.toUInt64 >>> (y.toInt64.toUInt64 &&& Int64.toUInt64 63)).toInt64
def sx_has (x j : Int32) : Int32 := if nm_hb x j = 1 then 1 else 0
theorem sx_has_C (x j : Int32) (hp : px_H) : px_C nm_T nm_P mi_M_has [.int x, .int j] hp (some (.int (sx_has x j))) hp := nm_has_C x j hp
def sx_in (a b c : Int64) : Int32 := if b.toInt ≤ a.toInt ∧ a.toInt ≤ c.toInt then 1 else 0
theorem sx_in_C (a b c : Int64) (hp : px_H) : px_C nm_T nm_P mi_M_in [.long a, .long b, .long c] hp (some (.int (sx_in a b c))) hp := dr_in a b c hp
theorem cd_m {α : Type} {c : Bool} {a : Option α} {x : α} (h : (bif c then none else a) = some x) : c = false ∧ a = some x := by
  cases c with
  | false => exact ⟨rfl, h⟩
  | true => cases h
theorem sx_lsd {x : Int32} {dflt : Int} : ∀ {ps : List (Int × Int)}, (∀ q ∈ ps, px_cmp .eq x (Int32.ofInt q.1) = false) → Op.lookupswitch.offset ps dflt x.toInt = dflt
  | [], _ => rfl
  | (a, o) :: r, h => by
    have h1 := List.forall_mem_cons.mp h
    show (if a = x.toInt then o else Op.lookupswitch.offset r dflt x.toInt) = dflt
    rw [if_neg, sx_lsd h1.2]
    intro e
    have h2 : px_cmp .eq x (Int32.ofInt a) = false := h1.1
    simp only [px_cmp, decide_eq_false_iff_not] at h2
    apply h2
    rw [e, Int32.ofInt_toInt]
theorem sx_eq {x y : Int32} (h : px_cmp .eq x y = true) : x = y := of_decide_eq_true h
theorem sx_sub {x : Nat} {cs ds : List Nat} (h : cs.all (fun d => ds.any (fun e => Nat.beq d e)) = true) (hm : x ∈ cs) : x ∈ ds := sx_any h hm
theorem py_mth {M : px_M} {pc len idx w z1 : Nat} {z2 : Int} {lv : List (Nat × Value)} {st st' : List Value} {hp hp' : px_H} {r : Option Value} (hf : px_find pc (px_cd M) = some (len, .invokestatic idx)) (hj : px_find idx (px_cp M) = some (11, w, z1, z2)) (hm : px_math w st = some st') (h8 : ((st.drop 2).map fun v => v.category).sum ≤ 8) (hR : px_Y M (pc + 3) lv st' hp r hp') : px_Y M pc lv st hp r hp' := by
  obtain ⟨⟨n0, k, h2⟩, h9⟩ := hR
  refine ⟨⟨n0, 1 + k, fun m hm9 N0 nc ns q1 q2 => px_its_run 1 ?_ (h2 m hm9 N0 nc ns q1 q2)⟩, h9⟩
  simp only [px_its, px_step, hf, px_alu, hj, hm, decide_eq_true h8, decide_eq_true q1, decide_eq_true q2]
/-- a field that holds a reference takes one of these -/
theorem oS_wRm {hp : px_H} {cs : List Nat} {a ci k d : Nat} (h : cs.all (fun c => bW a ci k c) = true) (hm : d ∈ cs) (hS : oS hp) : oS (wF hp a k (.ref d)) := oS_wR (List.all_eq_true.mp h d hm) hS
/-- rounds enough; no one can count them down -/
theorem fu_ex : ∃ n : Nat, 9000 ≤ n := ⟨9000, Nat.le_refl _⟩
noncomputable def fu : Nat := Classical.choose fu_ex
theorem fu_ge : 9000 ≤ fu := Classical.choose_spec fu_ex
theorem fu_lt {m : Nat} (h : m ≤ 8999) : m < fu := Nat.lt_of_lt_of_le (Nat.lt_succ_of_le h) fu_ge
end mg_2

section mg_3
/-! tableswitch -/
def sx_tof (dflt lo hi : Int) (offs : Array Int) (x : Int32) : Option Int := bif (decide (x.toInt < lo) || decide (hi < x.toInt)) then some dflt else offs[(x.toInt - lo).toNat]?
theorem py_tsw {M : px_M} {pc len : Nat} {lv : List (Nat × Value)} {st : List Value} {hp hp' : px_H} {r : Option Value} {dflt lo hi : Int} {offs : Array Int} {x : Int32} {off : Int} (hf : px_find pc (px_cd M) = some (len, .tableswitch dflt lo hi offs)) (ho : sx_tof dflt lo hi offs x = some off) (hR : px_Y M (px_tgt pc off) lv st hp r hp') : px_Y M pc lv (.int x :: st) hp r hp' := by
  refine ⟨px_Z_its 1 (fun call N0 nc ns => ?_) hR.1, hR.2⟩
  unfold sx_tof at ho
  cases hc : (decide (x.toInt < lo) || decide (hi < x.toInt)) with
  | true =>
    rw [hc, cond_true] at ho
    cases ho
    simp only [px_its, px_step, hf, px_alu, hc]
  | false =>
    rw [hc, cond_false] at ho
    simp only [px_its, px_step, hf, px_alu, hc, ho]
theorem sx_tod {dflt lo hi : Int} {offs : Array Int} {x : Int32} (h : ∀ k, lo ≤ k → k ≤ hi → px_cmp .eq x (Int32.ofInt k) = false) : sx_tof dflt lo hi offs x = some dflt := by
  unfold sx_tof
  have e : (decide (x.toInt < lo) || decide (hi < x.toInt)) = true := by
    by_cases h1 : x.toInt < lo
    · rw [decide_eq_true h1]; rfl
    · by_cases h2 : hi < x.toInt
      · rw [decide_eq_true h2, Bool.or_true]
      · have := h x.toInt (by omega) (by omega)
        rw [Int32.ofInt_toInt] at this
        simp only [px_cmp, decide_eq_false_iff_not, not_true_eq_false] at this
  rw [e]
  rfl
/-! a reference is laid into a local -/
theorem py_san {M : px_M} {pc len : Nat} {lv L : List (Nat × Value)} {st : List Value} {hp hp' : px_H} {r : Option Value} {j : Fin 4} {x : Nat} (hf : px_find pc (px_cd M) = some (len, .astore_n j)) (hm : decide ((j : Nat) < px_ml M) = true) (hk : lk lv L) (hR : ∀ lv' : List (Nat × Value), lk lv' (px_st1 L j (.ref x)) → px_Y M (pc + len) lv' st hp r hp') : px_Y M pc lv (.ref x :: st) hp r hp' :=
  ⟨px_Z_its 1 (fun call N0 nc ns => by simp only [px_its, px_step, hf, px_alu, hm]) (hR _ (lk_st1 hk)).1, (hR _ (lk_st1 hk)).2⟩
theorem py_sta {M : px_M} {pc len : Nat} {lv L : List (Nat × Value)} {st : List Value} {hp hp' : px_H} {r : Option Value} {j : Nat} {x : Nat} (hf : px_find pc (px_cd M) = some (len, .astore j)) (hm : decide (j < px_ml M) = true) (hk : lk lv L) (hR : ∀ lv' : List (Nat × Value), lk lv' (px_st1 L j (.ref x)) → px_Y M (pc + len) lv' st hp r hp') : px_Y M pc lv (.ref x :: st) hp r hp' :=
  ⟨px_Z_its 1 (fun call N0 nc ns => by simp only [px_its, px_step, hf, px_alu, hm]) (hR _ (lk_st1 hk)).1, (hR _ (lk_st1 hk)).2⟩
end mg_3
