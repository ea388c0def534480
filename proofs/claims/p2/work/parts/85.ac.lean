/-! one step of the second interpreter -/
def ac_has (ws : List (Nat × Nat)) (c k : Nat) : Bool := ws.any (fun q => Nat.beq q.1 c && Nat.beq q.2 k)
def ac_in (c : Nat) (l : List Nat) : Bool := l.any (fun d => Nat.beq d c)
theorem ac_has_ok {ws : List (Nat × Nat)} {c k : Nat} (h : ac_has ws c k = true) : (c, k) ∈ ws := by
  simp only [ac_has, List.any_eq_true, Bool.and_eq_true] at h
  obtain ⟨⟨a, b⟩, hm, h1, h2⟩ := h
  have e1 := Nat.eq_of_beq_eq_true h1
  have e2 := Nat.eq_of_beq_eq_true h2
  simp only at e1 e2
  subst e1 e2
  exact hm
theorem ac_in_ok {c : Nat} {l : List Nat} (h : ac_in c l = true) : c ∈ l := by
  simp only [ac_in, List.any_eq_true] at h
  obtain ⟨d, hm, h1⟩ := h
  rw [← Nat.eq_of_beq_eq_true h1]
  exact hm
theorem ac_in_no {c : Nat} {l : List Nat} (h : ac_in c l = false) : c ∉ l := by
  intro hm
  have : ac_in c l = true := by
    simp only [ac_in, List.any_eq_true]
    exact ⟨c, hm, Nat.beq_refl c⟩
  rw [this] at h
  cases h
def ac_kf (cs : List Nat) (k : Nat) (l : ab_L) : Bool := Nat.beq l.1 1 && (ac_in l.2.1 cs && Nat.beq l.2.2 k)
def ac_flt (FA : Nat → List Nat) (cs : List Nat) (fl : List Nat) : List Nat := fl.filter (fun i => cs.all (fun c => !(ac_in c (FA i))))
def ac_a1 (T : px_T) (G : List ab_C) (i : Instr) (i1 i2 : Int) (c : Nat) : Option ab_F := match G[c]? with
  | some (.inr (t, n, f)) => match T.1[t]? with
    | some ty => match ab_aty i ty f.1, decide (0 ≤ i1), decide (i2 < n) with
      | true, true, true => some f
      | _, _, _ => none
    | none => none
  | _ => none
def ac_am (T : px_T) (G : List ab_C) (i : Instr) (i1 i2 : Int) : List Nat → Option ab_F
  | [] => none
  | c :: r => match r with
    | [] => ac_a1 T G i i1 i2 c
    | _ => match ac_a1 T G i i1 i2 c, ac_am T G i i1 i2 r with
      | some f, some g => match Nat.beq f.1 g.1 with
        | true => some (ab_join f g)
        | false => none
      | _, _ => none
/-- may be stored there -/
def ac_w1 (T : px_T) (G : List ab_C) (wa : List Nat) (i : Instr) (i1 i2 : Int) (v : ab_F) (c : Nat) : Bool := match G[c]? with
  | some (.inr (t, n, f)) => match T.1[t]? with
    | some ty => ab_sty i ty f.1 v && (decide (0 ≤ i1) && (decide (i2 < n) && (ab_le v f && ac_in c wa)))
    | none => false
  | _ => false
def ac_p1 (G : List ab_C) (ws : List (Nat × Nat)) (ci k : Nat) (v : ab_F) (c : Nat) : Bool := match ac_f1 G ci k c with
  | some f => ab_le v f && ac_has ws c k
  | none => false
def ac_sto1 (A : ac_S) (j : Nat) (a : ab_V) (r : List ab_V) (rl : List (Nat × Int)) : ac_S :=
  ((j, ab_kill (ab_kl j) a) :: (A.1.filter (fun p => !(Nat.beq p.1 j) && !(Nat.beq (p.1 + 1) j && Nat.beq p.2.1.1 1))).map (fun p => (p.1, ab_kill (ab_kl j) p.2)), r.map (ab_kill (ab_kl j)), A.2.2.1, A.2.2.2.1, A.2.2.2.2.1, rl)
def ac_sto2 (A : ac_S) (j : Nat) (a : ab_V) (r : List ab_V) (rl : List (Nat × Int)) : ac_S :=
  ((j, ab_kill (ab_kl j) a) :: (A.1.filter (fun p => !(Nat.beq p.1 j) && (!(Nat.beq p.1 (j + 1)) && !(Nat.beq (p.1 + 1) j && Nat.beq p.2.1.1 1)))).map (fun p => (p.1, ab_kill (ab_kl j) p.2)), r.map (ab_kill (ab_kl j)), A.2.2.1, A.2.2.2.1, A.2.2.2.2.1, rl)
def ac_no (j : Nat) (rl : List (Nat × Int)) : List (Nat × Int) := rl.filter (fun q => !(Nat.beq q.1 j))
def ac_inc (j : Nat) (n : Int) (rl : List (Nat × Int)) : List (Nat × Int) := rl.map (fun q => match Nat.beq q.1 j with
  | true => (q.1, q.2 + n)
  | false => q)
def ac_aload (T : px_T) (G : List ab_C) (i : Instr) (pc : Nat) (A : ac_S) : Option (List (Nat × ac_S)) :=
  match A.2.1 with
  | ((0, i1, i2, _), _) :: ((2, _, _, cs), _) :: r => match ac_am T G i i1 i2 cs with
    | some f => some [(pc, (A.1, (f, none) :: r, A.2.2))]
    | none => none
  | _ => none
def ac_astore (T : px_T) (G : List ab_C) (FA : Nat → List Nat) (wa : List Nat) (i : Instr) (pc : Nat) (A : ac_S) : Option (List (Nat × ac_S)) :=
  match A.2.1 with
  | v :: ((0, i1, i2, _), _) :: ((2, _, _, cs), _) :: r => match cs.all (ac_w1 T G wa i i1 i2 v.1) with
    | true => some [(pc, (A.1, r, A.2.2.1, A.2.2.2.1, ac_flt FA cs A.2.2.2.2.1, A.2.2.2.2.2))]
    | false => none
  | _ => none
def ac_step (T : px_T) (G : List ab_C) (FA : Nat → List Nat) (ws : List (Nat × Nat)) (wa : List Nat) (M : px_M) (pc : Nat) (A : ac_S) : Option (List (Nat × ac_S)) :=
  match px_find pc (px_cd M) with
  | none => none
  | some (len, i) =>
    match ac_alu i A.2.1 with
    | some st' => some [(pc + len, (A.1, st', A.2.2))]
    | none =>
      let ldn (j k : Nat) : Option (List (Nat × ac_S)) := match px_find j A.1 with
        | some a => match Nat.beq a.1.1 k with
          | true => some [(pc + len, (A.1, ac_ld G A j a :: A.2.1, A.2.2))]
          | false => none
        | none => none
      let lda (j : Nat) : Option (List (Nat × ac_S)) := match px_find j A.1 with
        | some a => match Nat.beq a.1.1 2 with
          | true => some [(pc + len, (A.1, (a.1, none) :: A.2.1, A.2.2))]
          | false => none
        | none => none
      let st1 (j k : Nat) : Option (List (Nat × ac_S)) := match A.2.1 with
        | a :: r => match Nat.beq a.1.1 k && decide (j < px_ml M) with
          | true => some [(pc + len, ac_sto1 A j a r (ac_no j A.2.2.2.2.2))]
          | false => none
        | [] => none
      let st2 (j : Nat) : Option (List (Nat × ac_S)) := match A.2.1 with
        | a :: r => match Nat.beq a.1.1 1 && decide (j + 1 < px_ml M) with
          | true => some [(pc + len, ac_sto2 A j a r (ac_no (j + 1) (ac_no j A.2.2.2.2.2)))]
          | false => none
        | [] => none
      match i with
      | .iload j => ldn j 0
      | .iload_n j => ldn j 0
      | .lload j => ldn j 1
      | .lload_n j => ldn j 1
      | .aload j => lda j
      | .aload_n j => lda j
      | .istore j => st1 j 0
      | .istore_n j => st1 j 0
      | .astore j => st1 j 2
      | .astore_n j => st1 j 2
      | .lstore j => st2 j
      | .lstore_n j => st2 j
      | .iinc j n => match px_find j A.1, decide (j < px_ml M) with
        | some ((0, a1, a2, _), _), true =>
          let q := ab_bi (fun x y => x + y) (ab_radd ab_topi) (a1, a2) ((Int32.ofInt n).toInt, (Int32.ofInt n).toInt)
          some [(pc + len, ac_sto1 A j ((0, q.1, q.2, []), none) A.2.1 (match decide (-2147483648 ≤ a1 + (Int32.ofInt n).toInt) && decide (a2 + (Int32.ofInt n).toInt ≤ 2147483647) with
            | true => ac_inc j (Int32.ofInt n).toInt A.2.2.2.2.2
            | false => ac_no j A.2.2.2.2.2))]
        | _, _ => none
      | .ifCond c off => match A.2.1 with
        | ((0, x), o) :: r => some (ac_to G (px_tgt pc off) c ((0, x), o) (ab_const 0) (A.1, r, A.2.2) ++ ac_to G (pc + 3) (ab_neg c) ((0, x), o) (ab_const 0) (A.1, r, A.2.2))
        | _ => none
      | .if_icmp c off => match A.2.1 with
        | ((0, y), o') :: ((0, x), o) :: r => some (ac_to G (px_tgt pc off) c ((0, x), o) ((0, y), o') (A.1, r, A.2.2) ++ ac_to G (pc + 3) (ab_neg c) ((0, x), o) ((0, y), o') (A.1, r, A.2.2))
        | _ => none
      | .goto off => some [(px_tgt pc off, A)]
      | .ldc idx => match px_find idx (px_cp M) with
        | some (3, _, _, v) => some [(pc + len, (A.1, ab_const (Int32.ofInt v).toInt :: A.2.1, A.2.2))]
        | _ => none
      | .ldc_w idx => match px_find idx (px_cp M) with
        | some (3, _, _, v) => some [(pc + len, (A.1, ab_const (Int32.ofInt v).toInt :: A.2.1, A.2.2))]
        | _ => none
      | .ldc2_w idx => match px_find idx (px_cp M) with
        | some (4, _, _, v) => some [(pc + len, (A.1, ((1, (Int64.ofInt v).toInt, (Int64.ofInt v).toInt, []), none) :: A.2.1, A.2.2))]
        | _ => none
      | .tableswitch dflt lo hi offs => match A.2.1 with
        | ((0, x), o) :: r => match decide (offs.size = (hi - lo + 1).toNat) with
          | true => some ((List.range offs.size).flatMap (fun (t : Nat) => match offs[t]? with
              | some off => ac_to G (px_tgt pc off) .eq ((0, x), o) (ab_const (lo + (t : Int))) (A.1, r, A.2.2)
              | none => []) ++ (ac_to G (px_tgt pc dflt) .lt ((0, x), o) (ab_const lo) (A.1, r, A.2.2) ++ ac_to G (px_tgt pc dflt) .gt ((0, x), o) (ab_const hi) (A.1, r, A.2.2)))
          | false => none
        | _ => none
      | .lookupswitch dflt ps => match A.2.1 with
        | ((0, _), _) :: r => match decide (0 ≤ (pc : Int) + dflt) && ps.toList.all (fun q => decide (0 ≤ (pc : Int) + q.2)) with
          | true => some ((px_tgt pc dflt, (A.1, r, A.2.2)) :: ps.toList.map (fun q => (px_tgt pc q.2, (A.1, r, A.2.2))))
          | false => none
        | _ => none
      | .getfield idx => match px_find idx (px_cp M), A.2.1 with
        | some (0, ci, k, _), ((2, _, _, [c]), _) :: r => match ac_f1 G ci k c, ac_fF G A.2.2.1 c k with
          | some _, some f => some [(pc + len, (A.1, (f, match ab_isn f with
            | true => some (1, c, k)
            | false => none) :: r, A.2.2))]
          | _, _ => none
        | some (0, ci, k, _), ((2, _, _, cs), _) :: r => match ac_fm G ci k cs with
          | some f => some [(pc + len, (A.1, (f, none) :: r, A.2.2))]
          | none => none
        | _, _ => none
      | .putfield idx => match px_find idx (px_cp M), A.2.1 with
        | some (0, ci, k, fl), a :: ((2, _, _, cs), _) :: r => match T.2[ci]? with
          | some (_, tys) => match tys[k]?, decide (fl ≤ 2) with
            | some ty, true => match ab_fits ty a.1.1 && cs.all (ac_p1 G ws ci k a.1) with
              | true => some [(pc + len, (A.1.map (fun p => (p.1, ab_kill (ac_kf cs k) p.2)), r.map (ab_kill (ac_kf cs k)),
                  (match cs with
                    | [c] => (c, k, a.1) :: A.2.2.1.filter (fun q => !(Nat.beq q.2.1 k && ac_in q.1 cs))
                    | _ => A.2.2.1.filter (fun q => !(Nat.beq q.2.1 k && ac_in q.1 cs))), A.2.2.2.1, ac_flt FA cs A.2.2.2.2.1, A.2.2.2.2.2))]
              | false => none
            | _, _ => none
          | none => none
        | _, _ => none
      | .iaload => ac_aload T G i (pc + len) A
      | .baload => ac_aload T G i (pc + len) A
      | .laload => ac_aload T G i (pc + len) A
      | .aaload => ac_aload T G i (pc + len) A
      | .iastore => ac_astore T G FA wa i (pc + len) A
      | .bastore => ac_astore T G FA wa i (pc + len) A
      | .lastore => ac_astore T G FA wa i (pc + len) A
      | .lcmp => match A.2.1, px_find (pc + len) (px_cd M) with
        | ((1, y), o') :: ((1, x), o) :: r, some (3, .ifCond c off) => some (ac_to G (px_tgt (pc + len) off) c ((1, x), o) ((1, y), o') (A.1, r, A.2.2) ++ ac_to G (pc + len + 3) (ab_neg c) ((1, x), o) ((1, y), o') (A.1, r, A.2.2))
        | _, _ => none
      | _ => none
section ac_s3
variable {T : px_T} {X : Option (Nat × (Nat → Int32))} {P : List px_M} {G : List ab_C} {FA : Nat → List Nat} {Φ : Nat → px_H → Prop} {ws : List (Nat × Nat)} {wa : List Nat} {xs : Nat → Int32} {γ : Nat → Int} {A : ac_S} {lv : List (Nat × Value)} {st : List Value} {hp : px_H} {M : px_M} {pc : Nat} {outs : List (Nat × ac_S)}
/-- the flags speak of their arrays alone -/
def ac_Fl (FA : Nat → List Nat) (Φ : Nat → px_H → Prop) : Prop := ∀ (i : Nat) (hp hp' : px_H), (∀ c ∈ FA i, hp'[c]? = hp[c]?) → Φ i hp → Φ i hp'
def ac_R (T : px_T) (X : Option (Nat × (Nat → Int32))) (P : List px_M) (M : px_M) (G : List ab_C) (Φ : Nat → px_H → Prop) (ws : List (Nat × Nat)) (wa : List Nat) (xs : Nat → Int32) (γ : Nat → Int) (pc : Nat) (lv : List (Nat × Value)) (st : List Value) (hp : px_H) (outs : List (Nat × ac_S)) : Prop :=
  ∃ (pc' : Nat) (lv' : List (Nat × Value)) (st' : List Value) (hp' : px_H) (A' : ac_S), (pc', A') ∈ outs ∧ ac_s G Φ xs γ A' lv' st' hp' ∧ px_fr ws wa hp hp' ∧ ∃ k : Nat, ∀ (call : Nat → List Value → px_H → Option px_A) (N0 nc ns : Nat), px_its T X P call M N0 k (pc, lv, st, hp, nc, ns) = some (pc', lv', st', hp', nc, ns)
theorem ac_one {pc' : Nat} {lv' : List (Nat × Value)} {st' : List Value} {hp' : px_H} {A' : ac_S} (hm : (pc', A') ∈ outs) (hA : ac_s G Φ xs γ A' lv' st' hp') (hfr : px_fr ws wa hp hp') (h : ∀ (call : Nat → List Value → px_H → Option px_A) (N0 nc ns : Nat), px_step T X P call M N0 (pc, lv, st, hp, nc, ns) = some (.inl (pc', lv', st', hp', nc, ns))) : ac_R T X P M G Φ ws wa xs γ pc lv st hp outs :=
  ⟨pc', lv', st', hp', A', hm, hA, hfr, 1, fun call N0 nc ns => by simp only [px_its, h]⟩
theorem ac_rest (hA : ac_s G Φ xs γ A lv st hp) {r : List ab_V} {s : List Value} (hr : ab_st xs lv hp r s) : ac_s G Φ xs γ (A.1, r, A.2.2) lv s hp := ⟨hA.1, hr, hA.2.2⟩
theorem ac_no_ok {j : Nat} {rl : List (Nat × Int)} {lv' : List (Nat × Value)} (h : ac_rl γ rl lv) (hl : ∀ (m : Nat) (x : Int32), m ≠ j → px_find m lv = some (.int x) → px_find m lv' = some (.int x)) : ac_rl γ (ac_no j rl) lv' := by
  intro q hq
  obtain ⟨hm, hk⟩ := List.mem_filter.mp hq
  obtain ⟨x, h1, h2⟩ := h q hm
  simp only [Bool.not_eq_true'] at hk
  exact ⟨x, hl _ _ (Nat.ne_of_beq_eq_false hk) h1, h2⟩
theorem ac_sto1_ok (hA : ac_s G Φ xs γ A lv st hp) {a : ab_V} {r : List ab_V} {v : Value} {s : List Value} (hv : ab_v xs lv hp a v) (hr : ab_st xs lv hp r s) (j : Nat) {rl : List (Nat × Int)} (hrl : ac_rl γ rl (px_st1 lv j v)) : ac_s G Φ xs γ (ac_sto1 A j a r rl) (px_st1 lv j v) s hp := by
  obtain ⟨h1, h2, h3, h4, h5, h6, h7⟩ := hA
  have h9 := ab_sto1_ok (A := (A.1, A.2.1, G, A.2.2.2.1)) ⟨h1, h2, h3, h5⟩ hv hr j
  exact ⟨h9.1, h9.2.1, h3, h4, h5, h6, hrl⟩
theorem ac_sto2_ok (hA : ac_s G Φ xs γ A lv st hp) {a : ab_V} {r : List ab_V} {v : Value} {s : List Value} (hv : ab_v xs lv hp a v) (hr : ab_st xs lv hp r s) (j : Nat) {rl : List (Nat × Int)} (hrl : ac_rl γ rl (px_st2 lv j v)) : ac_s G Φ xs γ (ac_sto2 A j a r rl) (px_st2 lv j v) s hp := by
  obtain ⟨h1, h2, h3, h4, h5, h6, h7⟩ := hA
  have h9 := ab_sto2_ok (A := (A.1, A.2.1, G, A.2.2.2.1)) ⟨h1, h2, h3, h5⟩ hv hr j
  exact ⟨h9.1, h9.2.1, h3, h4, h5, h6, hrl⟩
theorem ac_no1 {rl : List (Nat × Int)} (h : ac_rl γ rl lv) (j : Nat) (v : Value) : ac_rl γ (ac_no j rl) (px_st1 lv j v) :=
  ac_no_ok h (fun m x hm hf => ab_sto1_find hf hm (fun _ hc => by cases hc))
theorem ac_no2 {rl : List (Nat × Int)} (h : ac_rl γ rl lv) (j : Nat) (v : Value) : ac_rl γ (ac_no (j + 1) (ac_no j rl)) (px_st2 lv j v) := by
  intro q hq
  obtain ⟨hm, hk⟩ := List.mem_filter.mp hq
  obtain ⟨hm, hk2⟩ := List.mem_filter.mp hm
  obtain ⟨x, h1, h2⟩ := h q hm
  simp only [Bool.not_eq_true'] at hk hk2
  exact ⟨x, ab_sto2_find h1 (Nat.ne_of_beq_eq_false hk2) (Nat.ne_of_beq_eq_false hk) (fun _ hc => by cases hc), h2⟩
theorem ac_a1_ok {i : Instr} {i1 i2 : Int} {c : Nat} {f : ab_F} {j : Int32} (hG : ab_h G hp) (hj : ab_in (i1, i2) j.toInt) (h : ac_a1 T G i i1 i2 c = some f) : ∃ v, px_ald T X i hp (.ref c) j = some v ∧ ab_f f v := by
  unfold ac_a1 at h
  split at h
  · rename_i t n f0 hc
    split at h
    · rename_i ty hty
      split at h
      · rename_i e1 e2 e3
        cases h
        obtain ⟨hin, hlt⟩ := ab_inR hj e2 e3
        obtain ⟨x, hx, hxc⟩ := ac_cell hG hc
        cases x with
        | inr q9 => exact absurd hxc (by simp [ab_c])
        | inl q9 =>
          obtain ⟨t', n', cont⟩ := q9
          obtain ⟨rfl, rfl, hall⟩ := hxc
          have hel := hall _ hlt
          unfold ab_aty at e1
          split at e1
          · cases cont with
            | inl g => exact ⟨_, by simp only [px_ald, hx, hin, hty], hel⟩
            | inr g =>
              exfalso
              rcases g with g | g | g | g
              · simp only at hel; exact absurd hel.1 (by rw [Nat.eq_of_beq_eq_true e1]; decide)
              · exact hel
              · exact hel
              · simp only at hel; obtain ⟨q8, -, hq⟩ := hel; exact absurd hq.1 (by rw [Nat.eq_of_beq_eq_true e1]; decide)
          · cases cont with
            | inl g => exact ⟨_, by simp only [px_ald, hx, hin, hty], hel⟩
            | inr g =>
              exfalso
              rcases g with g | g | g | g
              · simp only at hel; exact absurd hel.1 (by rw [Nat.eq_of_beq_eq_true e1]; decide)
              · exact hel
              · exact hel
              · simp only at hel; obtain ⟨q8, -, hq⟩ := hel; exact absurd hq.1 (by rw [Nat.eq_of_beq_eq_true e1]; decide)
          · cases cont with
            | inl g => simp only at hel; exact absurd hel.1 (by rw [Nat.eq_of_beq_eq_true e1]; decide)
            | inr g =>
              rcases g with g | g | g | g
              · exact ⟨_, by simp only [px_ald, hx, hin, hty], hel⟩
              · exact absurd hel (by simp)
              · exact absurd hel (by simp)
              · simp only at hel; obtain ⟨q8, -, hq⟩ := hel; exact absurd hq.1 (by rw [Nat.eq_of_beq_eq_true e1]; decide)
          · cases cont with
            | inl g => simp only at hel; exact absurd hel.1 (by rw [Nat.eq_of_beq_eq_true e1]; decide)
            | inr g =>
              rcases g with g | g | g | g
              · simp only at hel; exact absurd hel.1 (by rw [Nat.eq_of_beq_eq_true e1]; decide)
              · exact absurd hel (by simp)
              · exact absurd hel (by simp)
              · simp only at hel
                obtain ⟨q8, hg, hq⟩ := hel
                exact ⟨_, by simp only [px_ald, hx, hin, hty, hg], hq⟩
          · cases e1
      · cases h
    · cases h
  · cases h
theorem ac_am_ok {i : Instr} {i1 i2 : Int} {j : Int32} (hG : ab_h G hp) (hj : ab_in (i1, i2) j.toInt) : ∀ {cs : List Nat} {f : ab_F} {c : Nat}, ac_am T G i i1 i2 cs = some f → c ∈ cs → ∃ v, px_ald T X i hp (.ref c) j = some v ∧ ab_f f v := by
  intro cs
  induction cs with
  | nil => intro f c h; cases h
  | cons d r ih =>
    intro f c h hc
    unfold ac_am at h
    split at h
    · cases List.mem_singleton.mp hc
      exact ac_a1_ok hG hj h
    · split at h
      · rename_i f1 g1 hf hg
        split at h
        · rename_i hk
          cases h
          rcases List.mem_cons.mp hc with rfl | hc
          · obtain ⟨v, e1, e2⟩ := ac_a1_ok (X := X) hG hj hf
            exact ⟨v, e1, ab_join_l e2⟩
          · obtain ⟨v, e1, e2⟩ := ih hg hc
            exact ⟨v, e1, ab_join_r (Nat.eq_of_beq_eq_true hk) e2⟩
        · cases h
      · cases h
theorem ac_aload_ok (hA : ac_s G Φ xs γ A lv st hp) {i : Instr} {q : Nat} (h : ac_aload T G i q A = some outs) : ∃ (j : Int32) (a : Value) (s : List Value) (v : Value) (A' : ac_S), st = .int j :: a :: s ∧ px_ald T X i hp a j = some v ∧ (q, A') ∈ outs ∧ ac_s G Φ xs γ A' lv (v :: s) hp := by
  obtain ⟨h1, h2, h3, h4, h5, h6, h7⟩ := id hA
  unfold ac_aload at h
  split at h
  · rename_i i1 i2 r0 o0 c1 c2 cs o3 r hst
    rw [hst] at h2
    obtain ⟨v1, s1, rfl, g1, k1⟩ := ab_st_cons h2
    obtain ⟨v2, s2, rfl, g2, k2⟩ := ab_st_cons k1
    obtain ⟨j, rfl, hj⟩ := ab_f0 g1.1
    obtain ⟨c, rfl, hc⟩ := ab_f2 g2.1
    split at h
    · rename_i f hf
      cases h
      obtain ⟨v, e1, e2⟩ := ac_am_ok (X := X) h3 hj hf hc
      exact ⟨j, _, s2, v, _, rfl, e1, List.mem_singleton.mpr rfl, h1, ⟨⟨e2, ab_o_none _ _ _ _⟩, k2⟩, h3, h4, h5, h6, h7⟩
    · cases h
  · cases h
theorem ac_fv_arr {c : Nat} {x y : Nat × vp_A} (hx : hp[c]? = some (.inl x)) (d k : Nat) : ac_fv (hp.set c (.inl y)) d k = ac_fv hp d k := by
  unfold ac_fv
  by_cases h : d = c
  · subst h
    rw [List.getElem?_set_self (List.getElem?_eq_some_iff.mp hx).1, hx]
  · rw [List.getElem?_set_ne (Ne.symm h)]
theorem ac_flt_ok (hFl : ac_Fl FA Φ) {cs fl : List Nat} {c : Nat} {x : px_E} (hc : c ∈ cs) (h : ∀ i ∈ fl, Φ i hp) : ∀ i ∈ ac_flt FA cs fl, Φ i (hp.set c x) := by
  intro i hi
  obtain ⟨hm, hk⟩ := List.mem_filter.mp hi
  have := List.all_eq_true.mp hk c hc
  simp only [Bool.not_eq_true'] at this
  refine hFl i hp _ (fun d hd => ?_) (h i hm)
  by_cases he : d = c
  · subst he
    exact absurd hd (ac_in_no this)
  · rw [List.getElem?_set_ne (Ne.symm he)]
/-- an array set anew, within its bounds -/
theorem ac_set_arr (hFl : ac_Fl FA Φ) (hA : ac_s G Φ xs γ A lv st hp) {c t n : Nat} {f : ab_F} {y x : Nat × vp_A} {cs : List Nat} (hcs : c ∈ cs) (hx : hp[c]? = some (.inl x)) (hc : G[c]? = some (.inr (t, n, f))) (hy : ab_c (.inr (t, n, f)) (.inl y)) {r : List ab_V} {s : List Value} (hr : ab_st xs lv hp r s) :
    ac_s G Φ xs γ (A.1, r, A.2.2.1, A.2.2.2.1, ac_flt FA cs A.2.2.2.2.1, A.2.2.2.2.2) lv s (hp.set c (.inl y)) := by
  obtain ⟨h1, h2, h3, h4, h5, h6, h7⟩ := hA
  have hP : ∀ l w, ab_at xs lv hp l = some w → ab_at xs lv (hp.set c (.inl y)) l = some w := fun l w hl => ab_at_arr hx hl
  refine ⟨fun j a hm => ?_, ab_st_mono hP hr, ⟨by simp only [List.length_set]; exact h3.1, fun k a z ha hz => ?_⟩, fun q hq v hv => ?_, h5, ac_flt_ok hFl hcs h6, h7⟩
  · obtain ⟨v, hv, hav⟩ := h1 j a hm
    exact ⟨v, hv, ab_v_mono hP hav⟩
  · by_cases hk : k = c
    · subst hk
      rw [List.getElem?_set_self (List.getElem?_eq_some_iff.mp hx).1] at hz
      rw [hc] at ha
      cases ha
      cases hz
      exact hy
    · rw [List.getElem?_set_ne (Ne.symm hk)] at hz
      exact h3.2 _ _ _ ha hz
  · rw [ac_fv_arr hx] at hv
    exact h4 q hq v hv
theorem px_fr_arr {c : Nat} {x y : Nat × vp_A} (hx : hp[c]? = some (.inl x)) (hc : c ∈ wa) : px_fr ws wa hp (hp.set c (.inl y)) := by
  refine ⟨fun d q hd hq => ?_, fun d ci vs hv => ⟨vs, ?_, rfl, fun _ _ => rfl⟩⟩
  · rw [List.getElem?_set_ne (fun e => hd (by rw [← e]; exact hc))]
    exact hq
  · rw [List.getElem?_set_ne (fun e => by subst e; rw [hx] at hv; cases hv)]
    exact hv
theorem ac_astore_ok (hFl : ac_Fl FA Φ) (hA : ac_s G Φ xs γ A lv st hp) {i : Instr} {q : Nat} (h : ac_astore T G FA wa i q A = some outs) : ∃ (v : Value) (j : Int32) (a : Nat) (s : List Value) (hp' : px_H) (A' : ac_S), st = v :: .int j :: .ref a :: s ∧ px_ast T i hp a j v = some hp' ∧ (q, A') ∈ outs ∧ ac_s G Φ xs γ A' lv s hp' ∧ px_fr ws wa hp hp' := by
  obtain ⟨h1, h2, h3, h4, h5, h6, h7⟩ := id hA
  unfold ac_astore at h
  split at h
  · rename_i va i1 i2 r0 o0 c1 c2 cs o3 r hst
    rw [hst] at h2
    obtain ⟨v0, s0, rfl, g0, k0⟩ := ab_st_cons h2
    obtain ⟨v1, s1, rfl, g1, k1⟩ := ab_st_cons k0
    obtain ⟨v2, s2, rfl, g2, k2⟩ := ab_st_cons k1
    obtain ⟨j, rfl, hj⟩ := ab_f0 g1.1
    obtain ⟨c, rfl, hcm⟩ := ab_f2 g2.1
    split at h
    · rename_i hall0
      cases h
      have hw := List.all_eq_true.mp hall0 c hcm
      unfold ac_w1 at hw
      split at hw
      · rename_i t n f hc
        split at hw
        · rename_i ty hty
          simp only [Bool.and_eq_true] at hw
          obtain ⟨e1, e2, e3, e8, e9⟩ := hw
          have hwa := ac_in_ok e9
          obtain ⟨hin, hlt⟩ := ab_inR hj e2 e3
          obtain ⟨x, hx, hxc⟩ := ac_cell h3 hc
          obtain ⟨⟨kv, w1, w2, wr⟩, ov⟩ := va
          obtain ⟨kf, f1, f2, fr⟩ := f
          have hle : ab_f (kf, f1, f2, fr) v0 := ab_le_ok e8 g0.1
          cases x with
          | inr q9 => exact absurd hxc (by simp [ab_c])
          | inl q9 =>
            obtain ⟨t', n', cont⟩ := q9
            obtain ⟨rfl, rfl, hall⟩ := hxc
            have hel := hall _ hlt
            unfold ab_sty at e1
            split at e1
            · simp only [Bool.and_eq_true] at e1
              obtain ⟨e4, e5⟩ := e1
              obtain ⟨y, rfl, hy⟩ := ab_k0 e5 g0.1
              cases cont with
              | inl g =>
                refine ⟨_, j, c, s2, hp.set c (.inl (t, n, .inl (upd g j.toNatClampNeg y))), _, rfl, by simp only [px_ast, hx, hin, hty], List.mem_singleton.mpr rfl, ac_set_arr hFl hA hcm hx hc ⟨rfl, rfl, fun m hm => ?_⟩ k2, px_fr_arr hx hwa⟩
                simp only [upd]
                split
                · exact hle
                · exact hall m hm
              | inr g =>
                exfalso
                rcases g with g | g | g | g
                · simp only at hel; exact absurd hel.1 (by simp only; rw [Nat.eq_of_beq_eq_true e4]; decide)
                · exact hel
                · exact hel
                · simp only at hel; obtain ⟨q8, -, hq⟩ := hel; exact absurd hq.1 (by simp only; rw [Nat.eq_of_beq_eq_true e4]; decide)
            · simp only [Bool.and_eq_true, decide_eq_true_eq] at e1
              obtain ⟨e4, e5, e6, e7⟩ := e1
              obtain ⟨y, rfl, hy⟩ := ab_k0 e5 g0.1
              have hy01 : (decide (y = 0) || decide (y = 1)) = true := by
                have b0 := hy.1
                have b1 := hy.2
                simp only at b0 b1
                simp only [Bool.or_eq_true, decide_eq_true_eq, ← Int32.toInt_inj]
                have z0 : (0 : Int32).toInt = 0 := rfl
                have z1 : (1 : Int32).toInt = 1 := rfl
                omega
              cases cont with
              | inl g =>
                refine ⟨_, j, c, s2, hp.set c (.inl (t, n, .inl (upd g j.toNatClampNeg y))), _, rfl, by simp only [px_ast, hx, hin, hty, hy01], List.mem_singleton.mpr rfl, ac_set_arr hFl hA hcm hx hc ⟨rfl, rfl, fun m hm => ?_⟩ k2, px_fr_arr hx hwa⟩
                simp only [upd]
                split
                · exact hle
                · exact hall m hm
              | inr g =>
                exfalso
                rcases g with g | g | g | g
                · simp only at hel; exact absurd hel.1 (by simp only; rw [Nat.eq_of_beq_eq_true e4]; decide)
                · exact hel
                · exact hel
                · simp only at hel; obtain ⟨q8, -, hq⟩ := hel; exact absurd hq.1 (by simp only; rw [Nat.eq_of_beq_eq_true e4]; decide)
            · simp only [Bool.and_eq_true] at e1
              obtain ⟨e4, e5⟩ := e1
              obtain ⟨y, rfl, hy⟩ := ab_k1' e5 g0.1
              cases cont with
              | inl g => simp only at hel; exact absurd hel.1 (by simp only; rw [Nat.eq_of_beq_eq_true e4]; decide)
              | inr g =>
                rcases g with g | g | g | g
                · refine ⟨_, j, c, s2, hp.set c (.inl (t, n, .inr (.inl (vp_updL g j.toNatClampNeg y)))), _, rfl, by simp only [px_ast, hx, hin, hty], List.mem_singleton.mpr rfl, ac_set_arr hFl hA hcm hx hc ⟨rfl, rfl, fun m hm => ?_⟩ k2, px_fr_arr hx hwa⟩
                  simp only [vp_updL]
                  split
                  · exact hle
                  · exact hall m hm
                · exact absurd hel (by simp)
                · exact absurd hel (by simp)
                · simp only at hel; obtain ⟨q8, -, hq⟩ := hel; exact absurd hq.1 (by simp only; rw [Nat.eq_of_beq_eq_true e4]; decide)
            · cases e1
        · cases hw
      · cases hw
    · cases h
  · cases h
end ac_s3
