/-! p1: one call on the fresh object -/
theorem px_step_inr {T : px_T} {X : Option (Nat × (Nat → Int32))} {P : List px_M} {call : Nat → List Value → px_H → Option px_A} {M : px_M} {N0 pc nc ns : Nat} {lv : List (Nat × Value)} {st : List Value} {hp hp' : px_H} {v : Int32}
    (hs : px_step T X P call M N0 (pc, lv, st, hp, nc, ns) = some (.inr (some (.int v), hp'))) : st = [.int v] ∧ (∃ len, px_find pc (px_cd M) = some (len, .ireturn)) ∧ nc ≤ (px_rm M).cells ∧ ns ≤ (px_rm M).slots := by
  simp only [px_step] at hs
  split at hs
  · cases hs
  rename_i len i hf
  split at hs
  · cases hs
  rename_i ha
  cases i
  case ireturn =>
    simp only at hs
    split at hs
    · rename_i v9 ty h1 h2 h3
      split at hs
      · cases hs
        exact ⟨rfl, ⟨len, hf⟩, of_decide_eq_true h2, of_decide_eq_true h3⟩
      · cases hs
    · cases hs
  case lreturn =>
    simp only at hs
    split at hs <;> cases hs
  case return_ =>
    simp only at hs
    split at hs <;> cases hs
  all_goals
    exfalso
    revert hs
    try simp only []
    repeat' split
    all_goals first | (intro h; cases h; done) | (simp; done) | (intro h; simp only [Option.map_eq_some_iff] at h; obtain ⟨_, _, h⟩ := h; cases h; done)
theorem nm_its (X : Option (Nat × (Nat → Int32))) (n : Nat) : ∀ (k : Nat) (S : px_S), px_its nm_T X nm_P (nm_call n) nm_law 0 k S = nm_steps X n k S := by
  intro k
  induction k with
  | zero => intro S; rfl
  | succ k ih =>
    intro S
    unfold px_its nm_steps
    rcases px_step nm_T X nm_P (nm_call n) nm_law 0 S with _ | (S' | r)
    · rfl
    · exact ih S'
    · rfl
section nm_s2
variable {p : Program} {l : Launch} {e : Env} {s : State} {m : MethodId} {below : List Frame} {meth : Method} {c : Code} {b L : Nat} {xs : Nat → Int32} {D : va_G} {dA : Nat → ClassId}
theorem nm_G_run (C0 : lw_At p s m meth c b L xs) (hK : va_K D nm_cl (px_tys nm_T dA) s) (n : Nat) : ∀ (k : Nat) (S : px_S) (hp' : px_H), px_run nm_T (some (L, xs)) nm_P (nm_call n) nm_law 0 k S = some (some (.int 1), hp') → nm_G p l e s m below meth c b D dA S := by
  intro k
  induction k with
  | zero => intro S hp' h; cases h
  | succ k ih =>
    intro S hp' h
    unfold px_run at h
    split at h
    · cases h
    · rename_i S' hs
      exact nm_G_step C0 hK n hs (ih S' hp' h)
    · rename_i r hs
      cases h
      obtain ⟨pc, lv, st, hp, nc, ns⟩ := S
      obtain ⟨rfl, ⟨len, hf⟩, h1, h2⟩ := px_step_inr hs
      have hI := List.all_eq_true.mp nm_okC_law _ (px_find_mem hf)
      simp only [Bool.and_eq_true, decide_eq_true_eq] at hI
      obtain ⟨hd, hoi⟩ := hI
      have hlen : len = 1 := of_decide_eq_true hoi
      subst hlen
      exact nm_G_ret C0 hd h1 h2
/-- a run of the abstract interpreter, all of whose ends are 1 -/
theorem nm_G_ab (C0 : lw_At p s m meth c b L xs) (hK : va_K D nm_cl (px_tys nm_T dA) s) {fuel : Nat} {stop : List Nat} {pc : Nat} {A : ab_S} {o : List ab_O × List (Nat × ab_S)} {lv : List (Nat × Value)} {st : List Value} {hp : px_H} {nc ns : Nat}
    (hrun : ab_run nm_T nm_P fuel (some L) stop nm_law pc A = some o) (hA : ab_s xs A lv st hp) (hnc : nc ≤ 600002) (hns : ns ≤ 7302232)
    (hone : ∀ q ∈ o.1, q.1.map (fun a => a.1) = some (0, 1, 1, []))
    (hstop : ∀ (pc' : Nat) (A' : ab_S) (lv' : List (Nat × Value)) (st' : List Value) (hp' : px_H), (pc', A') ∈ o.2 → ab_s xs A' lv' st' hp' → nm_G p l e s m below meth c b D dA (pc', lv', st', hp', nc, ns)) : nm_G p l e s m below meth c b D dA (pc, lv, st, hp, nc, ns) := by
  rcases ab_run_ok fuel (some L) stop nm_law pc A o (some (L, xs)) lv st hp hrun hA (fun n hn => by cases hn; rfl) with ⟨r, hp', oc, m1, m2, n0, k, h⟩ | ⟨pc', lv', st', hp', A', m1, m2, n0, k, h⟩
  · have h1 := hone _ m1
    obtain ⟨oa, oh, ox⟩ := oc
    cases oa with
    | none => cases h1
    | some a =>
      cases r with
      | none => exact absurd m2.1 (by simp)
      | some v =>
        have h2 : a.1 = (0, 1, 1, []) := Option.some.inj h1
        have h3 := m2.1.1
        rw [h2] at h3
        obtain ⟨x, rfl, hx⟩ := ab_f0 h3
        have hx1 : x = 1 := by
          rw [← Int32.toInt_inj]
          have b0 := hx.1
          have b1 := hx.2
          have z1 : (1 : Int32).toInt = 1 := rfl
          simp only at b0 b1
          omega
        subst hx1
        exact nm_G_run C0 hK n0 k _ hp' (h n0 (Nat.le_refl _) 0 nc ns hnc hns)
  · refine nm_G_steps C0 hK n0 k _ _ ?_ (hstop pc' A' lv' st' hp' m1 m2)
    rw [← nm_its]
    exact h n0 (Nat.le_refl _) 0 nc ns hnc hns
end nm_s2
def nm_al : List (Nat × ab_V) := [(4, ((0, 0, 0, []), none)), (3, ((2, 0, 0, [105]), none)), (2, ((2, 0, 0, [69]), none)), (1, ((2, 0, 0, [0]), none)), (0, ((3, 0, 0, []), none))]
def nm_A0 : ab_S := (nm_al, [], nm_A1, List.replicate 6 ab_topi)
theorem nm_A0_ok (xs : Nat → Int32) : ab_s xs nm_A0 nm_lv [] nm_H1 := by
  refine ⟨fun j a hm => ?_, trivial, ab_D_h nm_D nm_D_ok, fun j q hq => ?_⟩
  · simp only [nm_A0, nm_al, List.mem_cons, Prod.mk.injEq, List.not_mem_nil, or_false] at hm
    rcases hm with ⟨rfl, rfl⟩ | ⟨rfl, rfl⟩ | ⟨rfl, rfl⟩ | ⟨rfl, rfl⟩ | ⟨rfl, rfl⟩
    · exact ⟨.int 0, rfl, ⟨rfl, Int.le_refl _, Int.le_refl _⟩, ab_o_none _ _ _ _⟩
    · exact ⟨.ref 105, rfl, ⟨rfl, List.mem_singleton.mpr rfl⟩, ab_o_none _ _ _ _⟩
    · exact ⟨.ref 69, rfl, ⟨rfl, List.mem_singleton.mpr rfl⟩, ab_o_none _ _ _ _⟩
    · exact ⟨.ref 0, rfl, ⟨rfl, List.mem_singleton.mpr rfl⟩, ab_o_none _ _ _ _⟩
    · exact ⟨.retAddr 0, rfl, rfl, ab_o_none _ _ _ _⟩
  · have := List.mem_of_getElem? hq
    rw [(List.mem_replicate.mp this).2]
    exact ab_i32 _
def ab_eqL : List (Nat × ab_V) → List (Nat × ab_V) → Bool
  | [], [] => true
  | p :: r, q :: s => (Nat.beq p.1 q.1 && (decide (p.2.1 = q.2.1) && decide (p.2.2 = q.2.2))) && ab_eqL r s
  | _, _ => false
theorem ab_eqL_ok : ∀ {a b : List (Nat × ab_V)}, ab_eqL a b = true → a = b := by
  intro a
  induction a with
  | nil => intro b h; cases b <;> first | rfl | cases h
  | cons p r ih =>
    intro b h
    cases b with
    | nil => cases h
    | cons q s =>
      simp only [ab_eqL, Bool.and_eq_true, decide_eq_true_eq] at h
      obtain ⟨⟨h1, h2, h3⟩, h4⟩ := h
      rw [ih h4, Prod.ext (Nat.eq_of_beq_eq_true h1) (Prod.ext h2 h3)]
def ab_eqC : List ab_C → List ab_C → Bool
  | [], [] => true
  | .inl x :: r, .inl y :: s => (Nat.beq x.1 y.1 && decide (x.2 = y.2)) && ab_eqC r s
  | .inr x :: r, .inr y :: s => (Nat.beq x.1 y.1 && (Nat.beq x.2.1 y.2.1 && decide (x.2.2 = y.2.2))) && ab_eqC r s
  | _, _ => false
theorem ab_eqC_ok : ∀ {a b : List ab_C}, ab_eqC a b = true → a = b := by
  intro a
  induction a with
  | nil => intro b h; cases b <;> first | rfl | (unfold ab_eqC at h; cases h)
  | cons p r ih =>
    intro b h
    cases b with
    | nil => cases p <;> (unfold ab_eqC at h; cases h)
    | cons q s =>
      cases p with
      | inl x => cases q with
        | inl y =>
          simp only [ab_eqC, Bool.and_eq_true, decide_eq_true_eq] at h
          rw [ih h.2, Prod.ext (Nat.eq_of_beq_eq_true h.1.1) h.1.2]
        | inr y => unfold ab_eqC at h; cases h
      | inr x => cases q with
        | inl y => unfold ab_eqC at h; cases h
        | inr y =>
          simp only [ab_eqC, Bool.and_eq_true, decide_eq_true_eq] at h
          rw [ih h.2, Prod.ext (Nat.eq_of_beq_eq_true h.1.1) (Prod.ext (Nat.eq_of_beq_eq_true h.1.2.1) h.1.2.2)]
/-- of a run: all ends are 1, all stops are at these places in the first state -/
def nm_chk (fuel : Nat) (L : Nat) (stop : List Nat) (pc : Nat) : Bool :=
  match ab_run nm_T nm_P fuel (some L) stop nm_law pc nm_A0 with
  | none => false
  | some o => o.1.all (fun q => decide (q.1.map (fun a => a.1) = some (0, 1, 1, []))) && o.2.all (fun q => stop.contains q.1 && (ab_eqL q.2.1 nm_A0.1 && (decide (q.2.2.1 = nm_A0.2.1) && (ab_eqC q.2.2.2.1 nm_A0.2.2.1 && decide (q.2.2.2.2 = nm_A0.2.2.2)))))
theorem nm_chk_ok {fuel L pc : Nat} {stop : List Nat} (h : nm_chk fuel L stop pc = true) : ∃ o, ab_run nm_T nm_P fuel (some L) stop nm_law pc nm_A0 = some o ∧ (∀ q ∈ o.1, q.1.map (fun a => a.1) = some (0, 1, 1, [])) ∧ ∀ q ∈ o.2, q.1 ∈ stop ∧ q.2 = nm_A0 := by
  unfold nm_chk at h
  split at h
  · cases h
  · rename_i o ho
    simp only [Bool.and_eq_true, List.all_eq_true, decide_eq_true_eq, List.contains_iff_mem] at h
    refine ⟨o, ho, h.1, fun q hq => ?_⟩
    obtain ⟨g1, g2, g3, g4, g5⟩ := h.2 q hq
    exact ⟨g1, Prod.ext (ab_eqL_ok g2) (Prod.ext g3 (Prod.ext (ab_eqC_ok g4) g5))⟩
section nm_s3
variable {p : Program} {l : Launch} {e : Env} {s : State} {m : MethodId} {below : List Frame} {meth : Method} {c : Code} {b L : Nat} {xs : Nat → Int32} {D : va_G} {dA : Nat → ClassId}
theorem nm_G_chk (C0 : lw_At p s m meth c b L xs) (hK : va_K D nm_cl (px_tys nm_T dA) s) {fuel pc : Nat} {stop : List Nat} (h : nm_chk fuel L stop pc = true) {lv : List (Nat × Value)} {st : List Value} {hp : px_H} (hA : ab_s xs nm_A0 lv st hp)
    (hstop : ∀ (pc' : Nat) (lv' : List (Nat × Value)) (st' : List Value) (hp' : px_H), pc' ∈ stop → ab_s xs nm_A0 lv' st' hp' → nm_G p l e s m below meth c b D dA (pc', lv', st', hp', 106, 103614)) : nm_G p l e s m below meth c b D dA (pc, lv, st, hp, 106, 103614) := by
  obtain ⟨o, h1, h2, h3⟩ := nm_chk_ok h
  refine nm_G_ab C0 hK h1 hA (by decide) (by decide) h2 (fun pc' A' lv' st' hp' hm hA' => ?_)
  obtain ⟨e1, e2⟩ := h3 _ hm
  simp only at e1 e2
  subst e2
  exact hstop pc' lv' st' hp' e1 hA'
end nm_s3
