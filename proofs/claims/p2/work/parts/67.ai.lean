/-! runs -/
abbrev ab_O : Type := Option ab_V × List ab_C × List (Int × Int)
def ab_isl (l : ab_L) : Bool := Nat.beq l.1 0
def ab_isf (l : ab_L) : Bool := Nat.beq l.1 1
def ab_all {α β γ : Type} (f : α → Option (List β × List γ)) : List α → Option (List β × List γ)
  | [] => some ([], [])
  | a :: r => match f a with
    | none => none
    | some x => match ab_all f r with
      | none => none
      | some y => some (x.1 ++ y.1, x.2 ++ y.2)
def ab_args : Nat → List ab_V → List (Nat × ab_V)
  | _, [] => []
  | i, a :: r => (i, a) :: ab_args (if Nat.beq a.1.1 1 then i + 2 else i + 1) r
def ab_cat (a : ab_V) : Nat := if Nat.beq a.1.1 1 then 2 else 1
def ab_ret (M : px_M) (i : Instr) (A : ab_S) : Option ab_O :=
  match i, A.2.1, px_rt M with
  | .ireturn, [((0, a1, a2, r), o)], some .int => some (some (ab_kill ab_isl ((0, a1, a2, r), o)), A.2.2)
  | .ireturn, [((0, a1, a2, r), o)], some .boolean => if 0 ≤ a1 ∧ a2 ≤ 1 then some (some (ab_kill ab_isl ((0, a1, a2, r), o)), A.2.2) else none
  | .lreturn, [((1, x), o)], some .long => some (some (ab_kill ab_isl ((1, x), o)), A.2.2)
  | .return_, [], none => some (none, A.2.2)
  | _, _, _ => none
def ab_math (w : Nat) (st : List ab_V) : Option (List ab_V) :=
  match w, st with
  | 0, ((0, b1, b2, _), _) :: ((0, a1, a2, _), _) :: r => some (((0, max a1 b1, max a2 b2, []), none) :: r)
  | 1, ((0, b1, b2, _), _) :: ((0, a1, a2, _), _) :: r => some (((0, min a1 b1, min a2 b2, []), none) :: r)
  | 2, ((1, b1, b2, _), _) :: ((1, a1, a2, _), _) :: r => some (((1, max a1 b1, max a2 b2, []), none) :: r)
  | 3, ((1, b1, b2, _), _) :: ((1, a1, a2, _), _) :: r => some (((1, min a1 b1, min a2 b2, []), none) :: r)
  | _, _ => none
/-- a call's own conditions -/
def ab_callok (N : px_M) (k : Nat) (st : List ab_V) : Bool :=
  decide (k ≤ st.length) && (decide (((st.drop k).map ab_cat).sum ≤ 8) && (decide ((px_rm N).cells = 0) && (decide ((px_rm N).slots = 0) && decide (((st.take k).map ab_cat).sum ≤ px_ml N))))
/-- behind a call: the caller's state with what came back -/
def ab_back (A : ab_S) (k : Nat) (o : ab_O) : ab_S :=
  (A.1.map (fun p => (p.1, ab_kill ab_isf p.2)), o.1.toList ++ (A.2.1.drop k).map (ab_kill ab_isf), o.2.1, o.2.2)
def ab_run (T : px_T) (P : List px_M) : Nat → Option Nat → List Nat → px_M → Nat → ab_S → Option (List ab_O × List (Nat × ab_S))
  | 0, _, _, _, _, _ => none
  | n + 1, L, stop, M, pc, A =>
    match stop.contains pc with
    | true => some ([], [(pc, A)])
    | false => match px_find pc (px_cd M) with
      | none => none
      | some (len, i) =>
        match ab_ret M i A with
        | some o => some ([o], [])
        | none =>
          let call (k mi : Nat) : Option (List ab_O × List (Nat × ab_S)) := match P[mi]? with
            | none => none
            | some N => match ab_callok N k A.2.1 with
              | false => none
              | true => match ab_run T P n none [] N 0 (ab_args 0 ((A.2.1.take k).reverse.map (ab_kill ab_isl)), [], A.2.2) with
                | some (outs, []) => ab_all (fun o => ab_run T P n L stop M (pc + 3) (ab_back A k o)) outs
                | _ => none
          match i with
          | .invokevirtual idx => match px_find idx (px_cp M) with
            | some (1, mi, na, ci) => match A.2.1[na]? with
              | some ((2, _, _, [c]), _) => match A.2.2.1[c]? with
                | some (.inl (ci', _)) => match Nat.beq ci' ci.toNat with
                  | true => call (na + 1) mi
                  | false => none
                | _ => none
              | _ => none
            | _ => none
          | .invokestatic idx => match px_find idx (px_cp M) with
            | some (2, mi, na, _) => call na mi
            | some (11, w, _, _) => match ab_math w A.2.1, decide (((A.2.1.drop 2).map ab_cat).sum ≤ 8) with
              | some st', true => ab_run T P n L stop M (pc + 3) (A.1, st', A.2.2)
              | _, _ => none
            | _ => none
          | _ => match ab_step T L M pc A with
            | none => none
            | some outs => ab_all (fun q => ab_run T P n L stop M q.1 q.2) outs
def ab_o' (xs : Nat → Int32) (o : ab_O) (r : Option Value) (hp : px_H) : Prop :=
  (match o.1, r with
    | none, none => True
    | some a, some v => ab_v xs [] hp a v
    | _, _ => False) ∧ ab_h o.2.1 hp ∧ ab_x o.2.2 xs
theorem ab_all_ok {α β γ : Type} {f : α → Option (List β × List γ)} : ∀ {l : List α} {o : List β × List γ}, ab_all f l = some o → ∀ a ∈ l, ∃ x, f a = some x ∧ (∀ b ∈ x.1, b ∈ o.1) ∧ ∀ c ∈ x.2, c ∈ o.2 := by
  intro l
  induction l with
  | nil => intro o h a ha; cases ha
  | cons q r ih =>
    intro o h a ha
    unfold ab_all at h
    split at h
    · cases h
    · rename_i x hx
      split at h
      · cases h
      · rename_i y hy
        cases h
        rcases List.mem_cons.mp ha with rfl | ha
        · exact ⟨x, hx, fun b hb => List.mem_append_left _ hb, fun c hc => List.mem_append_left _ hc⟩
        · obtain ⟨z, h1, h2, h3⟩ := ih hy a ha
          exact ⟨z, h1, fun b hb => List.mem_append_right _ (h2 b hb), fun c hc => List.mem_append_right _ (h3 c hc)⟩
section ab_s8
variable {T : px_T} {X : Option (Nat × (Nat → Int32))} {P : List px_M} {M : px_M} {call : Nat → List Value → px_H → Option px_A} {N0 : Nat}
theorem px_its_run : ∀ (k : Nat) {S S1 : px_S} {k2 : Nat} {r : px_A}, px_its T X P call M N0 k S = some S1 → px_run T X P call M N0 k2 S1 = some r → px_run T X P call M N0 (k + k2) S = some r := by
  intro k
  induction k with
  | zero => intro S S1 k2 r h1 h2; cases h1; rw [Nat.zero_add]; exact h2
  | succ k ih =>
    intro S S1 k2 r h1 h2
    unfold px_its at h1
    split at h1
    · rename_i S2 hs
      rw [Nat.add_right_comm]
      unfold px_run
      rw [hs]
      exact ih h1 h2
    · cases h1
theorem px_its_add : ∀ (k : Nat) {S S1 : px_S} {k2 : Nat} {S2 : px_S}, px_its T X P call M N0 k S = some S1 → px_its T X P call M N0 k2 S1 = some S2 → px_its T X P call M N0 (k + k2) S = some S2 := by
  intro k
  induction k with
  | zero => intro S S1 k2 r h1 h2; cases h1; rw [Nat.zero_add]; exact h2
  | succ k ih =>
    intro S S1 k2 r h1 h2
    unfold px_its at h1
    split at h1
    · rename_i S2 hs
      rw [Nat.add_right_comm]
      unfold px_its
      rw [hs]
      exact ih h1 h2
    · cases h1
theorem px_run_mono : ∀ (k : Nat) {S : px_S} {r : px_A} (m : Nat), px_run T X P call M N0 k S = some r → px_run T X P call M N0 (k + m) S = some r := by
  intro k
  induction k with
  | zero => intro S r m h; cases h
  | succ k ih =>
    intro S r m h
    rw [Nat.add_right_comm]
    unfold px_run at h ⊢
    split at h
    · cases h
    · rename_i s' hs
      exact ih m h
    · cases h
      rfl
end ab_s8
