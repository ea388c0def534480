/-! runs of the second interpreter: loops, contracts -/
abbrev ac_Out : Type := Option ab_V × List ac_O × List (Int × Int) × List Nat
/-- a contract: method, arguments, flags before; its ends (answer, what is known of the arguments, flags behind); fields and arrays that it may write -/
abbrev ac_K : Type := Nat × List ab_F × List Nat × List (Option ab_F × List (Nat × ab_B) × List Nat) × List (Nat × Nat) × List Nat
/-- a widening: locals (none: forgotten), fields forgotten, overrides, flags forgotten -/
abbrev ac_W : Type := List (Nat × Option ab_F) × List (Nat × Nat) × List ac_O × List Nat
/-- a loop: method, head, counter (a local; whether it grows), widenings -/
abbrev ac_L : Type := Nat × Nat × Option (Nat × Bool) × List ac_W
def ac_loop (me pc : Nat) : List ac_L → Option (Option (Nat × Bool) × List ac_W)
  | [] => none
  | q :: r => match Nat.beq q.1 me && Nat.beq q.2.1 pc with
    | true => some q.2.2
    | false => ac_loop me pc r
def ac_kg (l : ab_L) : Bool := !(Nat.beq l.1 2)
def ac_wl (ls : List (Nat × Option ab_F)) : List (Nat × ab_V) → List (Nat × ab_V)
  | [] => []
  | p :: r => match px_find p.1 ls with
    | some (some f) => (p.1, (f, none)) :: ac_wl ls r
    | some none => ac_wl ls r
    | none => (p.1, ab_kill ac_kg p.2) :: ac_wl ls r
def ac_widen (ctr : Option (Nat × Bool)) (A : ac_S) (w : ac_W) : ac_S :=
  (ac_wl w.1 A.1, A.2.1.map (ab_kill ac_kg), w.2.2.1 ++ A.2.2.1.filter (fun q => !(ac_has w.2.1 q.1 q.2.1)), A.2.2.2.1, A.2.2.2.2.1.filter (fun i => !(ac_in i w.2.2.2)), match ctr with
    | some (j, _) => (j, 0) :: ac_no j A.2.2.2.2.2
    | none => A.2.2.2.2.2)
def ac_eqL (l m : ab_L) : Bool := Nat.beq l.1 m.1 && (Nat.beq l.2.1 m.2.1 && Nat.beq l.2.2 m.2.2)
def ac_leV (a b : ab_V) : Bool := ab_le a.1 b.1 && (match b.2, a.2 with
  | none, _ => true
  | some l, some m => ac_eqL l m
  | some _, none => false)
def ac_leS : List ab_V → List ab_V → Bool
  | [], [] => true
  | a :: r, b :: s => ac_leV a b && ac_leS r s
  | _, _ => false
def ac_leX : List (Int × Int) → List (Int × Int) → Bool
  | _, [] => true
  | a :: r, b :: s => (decide (b.1 ≤ a.1) && decide (a.2 ≤ b.2)) && ac_leX r s
  | [], _ :: _ => false
def ac_leR (ctr : Option (Nat × Bool)) (rl : List (Nat × Int)) (q : Nat × Int) : Bool :=
  match ctr with
  | some (j, _) => match Nat.beq q.1 j with
    | true => decide (q.2 = 0)
    | false => rl.any (fun p => Nat.beq p.1 q.1 && decide (p.2 = q.2))
  | none => rl.any (fun p => Nat.beq p.1 q.1 && decide (p.2 = q.2))
def ac_isI (ctr : Option (Nat × Bool)) (B : ac_S) : Bool :=
  match ctr with
  | some (j, _) => match px_find j B.1 with
    | some a => Nat.beq a.1.1 0
    | none => false
  | none => true
/-- what holds of the first holds of the second -/
def ac_le (G : List ab_C) (ctr : Option (Nat × Bool)) (C B : ac_S) : Bool :=
  B.1.all (fun p => match px_find p.1 C.1 with
    | some a => ac_leV a p.2
    | none => false) && (ac_leS C.2.1 B.2.1 && (B.2.2.1.all (fun q => match ac_fF G C.2.2.1 q.1 q.2.1 with
    | some f => ab_le f q.2.2
    | none => false) && (ac_leX C.2.2.2.1 B.2.2.2.1 && (B.2.2.2.2.1.all (fun i => ac_in i C.2.2.2.2.1) && (B.2.2.2.2.2.all (ac_leR ctr C.2.2.2.2.2) && ac_isI ctr B)))))
def ac_prog (ctr : Option (Nat × Bool)) (C : ac_S) : Bool :=
  match ctr with
  | some (j, up) => match px_find j C.2.2.2.2.2 with
    | some d => match up with
      | true => decide (0 < d)
      | false => decide (d < 0)
    | none => false
  | none => false
def ac_clean (ctr : Option (Nat × Bool)) (A : ac_S) : ac_S :=
  match ctr with
  | some (j, _) => (A.1, A.2.1, A.2.2.1, A.2.2.2.1, A.2.2.2.2.1, ac_no j A.2.2.2.2.2)
  | none => A
def ac_enter (G : List ab_C) (ctr : Option (Nat × Bool)) (A : ac_S) : List ac_S → Option (List ac_S)
  | [] => none
  | B :: r => match ac_le G ctr A B with
    | true => some (B :: r)
    | false => ac_enter G ctr A r
def ac_go (G : List ab_C) (ctr : Option (Nat × Bool)) (f : ac_S → Option (List ac_Out × List (Nat × ac_S))) (pc : Nat) : List ac_S → Option (List ac_Out × List (Nat × ac_S))
  | [] => some ([], [])
  | B :: r => match f B with
    | none => none
    | some o => match (o.2.filter (fun q => Nat.beq q.1 pc)).all (fun q => (ac_prog ctr q.2 && ac_le G ctr q.2 B) || r.any (fun B' => ac_le G ctr q.2 B')) with
      | false => none
      | true => match ac_go G ctr f pc r with
        | none => none
        | some y => some (o.1 ++ y.1, (o.2.filter (fun q => !(Nat.beq q.1 pc))).map (fun q => (q.1, ac_clean ctr q.2)) ++ y.2)
def ac_argm : List ab_V → List ab_F → Bool
  | [], [] => true
  | a :: r, f :: s => ab_le a.1 f && ac_argm r s
  | _, _ => false
def ac_pick (mi : Nat) (args : List ab_V) : List ac_K → Option ac_K
  | [] => none
  | κ :: r => match Nat.beq κ.1 mi && ac_argm args κ.2.1 with
    | true => some κ
    | false => ac_pick mi args r
def ac_rfn (G : List ab_C) (args : List ab_V) : List (Nat × ab_B) → ac_S → ac_S
  | [], A => A
  | q :: r, A => ac_rfn G args r (match args[q.1]? with
    | some a => match a.2 with
      | some l => match Nat.beq l.1 1 with
        | true => A
        | false => ac_refine G A (some l) q.2
      | none => A
    | none => A)
def ac_after (G : List ab_C) (FA : Nat → List Nat) (κ : ac_K) (A : ac_S) (k : Nat) (args : List ab_V) (o : Option ab_F × List (Nat × ab_B) × List Nat) : ac_S :=
  ac_rfn G args o.2.1 (A.1.map (fun p => (p.1, ab_kill ab_isf p.2)), (o.1.map (fun f => ((f, none) : ab_V))).toList ++ (A.2.1.drop k).map (ab_kill ab_isf), A.2.2.1.filter (fun q => !(ac_has κ.2.2.2.2.1 q.1 q.2.1)), A.2.2.2.1, o.2.2 ++ ac_flt FA κ.2.2.2.2.2 A.2.2.2.2.1, A.2.2.2.2.2)
def ac_kok (ws : List (Nat × Nat)) (wa : List Nat) (κ : ac_K) (A : ac_S) : Bool :=
  κ.2.2.1.all (fun i => ac_in i A.2.2.2.2.1) && (κ.2.2.2.2.1.all (fun q => ac_has ws q.1 q.2) && κ.2.2.2.2.2.all (fun c => ac_in c wa))
def ac_ret (M : px_M) (i : Instr) (A : ac_S) : Option ac_Out :=
  match i, A.2.1, px_rt M with
  | .ireturn, [((0, a1, a2, r), o)], some .int => some (some (ab_kill ab_isl ((0, a1, a2, r), o)), A.2.2.1, A.2.2.2.1, A.2.2.2.2.1)
  | .ireturn, [((0, a1, a2, r), o)], some .boolean => if 0 ≤ a1 ∧ a2 ≤ 1 then some (some (ab_kill ab_isl ((0, a1, a2, r), o)), A.2.2.1, A.2.2.2.1, A.2.2.2.2.1) else none
  | .lreturn, [((1, x), o)], some .long => some (some (ab_kill ab_isl ((1, x), o)), A.2.2.1, A.2.2.2.1, A.2.2.2.2.1)
  | .return_, [], none => some (none, A.2.2.1, A.2.2.2.1, A.2.2.2.2.1)
  | _, _, _ => none
def ac_back (A : ac_S) (k : Nat) (o : ac_Out) : ac_S :=
  (A.1.map (fun p => (p.1, ab_kill ab_isf p.2)), o.1.toList ++ (A.2.1.drop k).map (ab_kill ab_isf), o.2.1, o.2.2.1, o.2.2.2, A.2.2.2.2.2)
def ac_cl (G : List ab_C) (ci c : Nat) : Bool := match G[c]? with
  | some (.inl (ci', _)) => Nat.beq ci' ci
  | _ => false
def ac_leO (G : List ab_C) (o p : ac_Out) : Bool :=
  (match o.1, p.1 with
    | none, none => true
    | some a, some b => ac_leV a b
    | _, _ => false) && (p.2.1.all (fun q => match ac_fF G o.2.1 q.1 q.2.1 with
    | some f => ab_le f q.2.2
    | none => false) && (ac_leX o.2.2.1 p.2.2.1 && p.2.2.2.all (fun i => ac_in i o.2.2.2)))
/-- ends that others hold too are left out -/
def ac_prune (G : List ab_C) : List ac_Out → List ac_Out
  | [] => []
  | o :: r => match (ac_prune G r).any (ac_leO G o) with
    | true => ac_prune G r
    | false => o :: (ac_prune G r).filter (fun p => !(ac_leO G p o))
def ac_run (T : px_T) (P : List px_M) (G : List ab_C) (FA : Nat → List Nat) (K : List ac_K) (lps : List ac_L) (ws : List (Nat × Nat)) (wa : List Nat) : Nat → Bool → List Nat → Nat → px_M → Nat → ac_S → Option (List ac_Out × List (Nat × ac_S))
  | 0, _, _, _, _, _, _ => none
  | n + 1, fresh, stop, me, M, pc, A =>
    match !fresh && ac_in pc stop with
    | true => some ([], [(pc, A)])
    | false => match (match fresh with
        | true => none
        | false => ac_loop me pc lps) with
      | some (ctr, wd) => match ac_enter G ctr A (wd.map (ac_widen ctr A)) with
        | none => none
        | some Bs => ac_go G ctr (fun B => ac_run T P G FA K lps ws wa n true (pc :: stop) me M pc B) pc Bs
      | none => match px_find pc (px_cd M) with
        | none => none
        | some (_, i) => match ac_ret M i A with
          | some o => some ([o], [])
          | none =>
            let call (k mi : Nat) : Option (List ac_Out × List (Nat × ac_S)) := match P[mi]? with
              | none => none
              | some N => match ab_callok N k A.2.1 with
                | false => none
                | true => match ac_pick mi (A.2.1.take k).reverse K with
                  | some κ => match ac_kok ws wa κ A with
                    | false => none
                    | true => ab_all (fun o => ac_run T P G FA K lps ws wa n false stop me M (pc + 3) (ac_after G FA κ A k (A.2.1.take k).reverse o)) κ.2.2.2.1
                  | none => match ac_run T P G FA K lps ws wa n false [] mi N 0 (ab_args 0 ((A.2.1.take k).reverse.map (ab_kill ab_isl)), [], A.2.2.1, A.2.2.2.1, A.2.2.2.2.1, []) with
                    | some (outs, []) => ab_all (fun o => ac_run T P G FA K lps ws wa n false stop me M (pc + 3) (ac_back A k o)) (ac_prune G outs)
                    | _ => none
            match i with
            | .invokevirtual idx => match px_find idx (px_cp M) with
              | some (1, mi, na, ci) => match A.2.1[na]? with
                | some ((2, _, _, cs), _) => match cs.all (ac_cl G ci.toNat) with
                  | true => call (na + 1) mi
                  | false => none
                | _ => none
              | _ => none
            | .invokestatic idx => match px_find idx (px_cp M) with
              | some (2, mi, na, _) => call na mi
              | some (11, w, _, _) => match ab_math w A.2.1, decide (((A.2.1.drop 2).map ab_cat).sum ≤ 8) with
                | some st', true => ac_run T P G FA K lps ws wa n false stop me M (pc + 3) (A.1, st', A.2.2)
                | _, _ => none
              | _ => none
            | _ => match ac_step T G FA ws wa M pc A with
              | none => none
              | some outs => ab_all (fun q => ac_run T P G FA K lps ws wa n false stop me M q.1 q.2) outs
/-! what a contract says -/
def ac_argv : List ab_F → List Value → Prop
  | [], [] => True
  | f :: r, v :: s => ab_f f v ∧ ac_argv r s
  | _, _ => False
def ac_rv (f : Option ab_F) (r : Option Value) : Prop := match f, r with
  | none, none => True
  | some f, some v => ab_f f v
  | _, _ => False
def ac_ok (T : px_T) (P : List px_M) (G : List ab_C) (Φ : Nat → px_H → Prop) (κ : ac_K) : Prop :=
  ∀ (av : List Value) (hp : px_H), ab_h G hp → ac_argv κ.2.1 av → (∀ i ∈ κ.2.2.1, Φ i hp) → ∃ (r : Option Value) (hp' : px_H) (o : Option ab_F × List (Nat × ab_B) × List Nat), o ∈ κ.2.2.2.1 ∧ px_C T P κ.1 av hp r hp' ∧ ab_h G hp' ∧ ac_rv o.1 r ∧
    (∀ q ∈ o.2.1, ∃ v z, av[q.1]? = some v ∧ ab_num v = some z ∧ ab_in q.2 z) ∧ (∀ i ∈ o.2.2, Φ i hp') ∧ px_fr κ.2.2.2.2.1 κ.2.2.2.2.2 hp hp'
def ac_o' (G : List ab_C) (Φ : Nat → px_H → Prop) (xs : Nat → Int32) (o : ac_Out) (r : Option Value) (hp : px_H) : Prop :=
  (match o.1, r with
    | none, none => True
    | some a, some v => ab_v xs [] hp a v
    | _, _ => False) ∧ ab_h G hp ∧ ac_ov o.2.1 hp ∧ ab_x o.2.2.1 xs ∧ ∀ i ∈ o.2.2.2, Φ i hp
def ac_Fin (T : px_T) (X : Option (Nat × (Nat → Int32))) (P : List px_M) (M : px_M) (G : List ab_C) (Φ : Nat → px_H → Prop) (ws : List (Nat × Nat)) (wa : List Nat) (xs : Nat → Int32) (γ : Nat → Int) (pc : Nat) (lv : List (Nat × Value)) (st : List Value) (hp : px_H) (outs : List ac_Out) (stops : List (Nat × ac_S)) : Prop :=
  (∃ (r : Option Value) (hp' : px_H) (o : ac_Out), o ∈ outs ∧ ac_o' G Φ xs o r hp' ∧ px_fr ws wa hp hp' ∧ ∃ n0 k : Nat, ∀ n, n0 ≤ n → ∀ N0 nc ns : Nat, nc ≤ (px_rm M).cells → ns ≤ (px_rm M).slots → px_run T X P (px_call T P ab_nn n) M N0 k (pc, lv, st, hp, nc, ns) = some (r, hp')) ∨
  (∃ (pc' : Nat) (lv' : List (Nat × Value)) (st' : List Value) (hp' : px_H) (A' : ac_S), (pc', A') ∈ stops ∧ ac_s G Φ xs γ A' lv' st' hp' ∧ px_fr ws wa hp hp' ∧ ∃ n0 k : Nat, ∀ n, n0 ≤ n → ∀ N0 nc ns : Nat, nc ≤ (px_rm M).cells → ns ≤ (px_rm M).slots → px_its T X P (px_call T P ab_nn n) M N0 k (pc, lv, st, hp, nc, ns) = some (pc', lv', st', hp', nc, ns))
section ac_s5
variable {T : px_T} {X : Option (Nat × (Nat → Int32))} {P : List px_M} {G : List ab_C} {FA : Nat → List Nat} {Φ : Nat → px_H → Prop} {ws : List (Nat × Nat)} {wa : List Nat} {xs : Nat → Int32} {γ : Nat → Int} {M : px_M}
theorem ac_Fin_its {pc pc1 : Nat} {lv lv1 : List (Nat × Value)} {st st1 : List Value} {hp hp1 : px_H} {outs outs1 : List ac_Out} {stops stops1 : List (Nat × ac_S)}
    (h : ∃ n0 k : Nat, ∀ n, n0 ≤ n → ∀ N0 nc ns : Nat, nc ≤ (px_rm M).cells → ns ≤ (px_rm M).slots → px_its T X P (px_call T P ab_nn n) M N0 k (pc, lv, st, hp, nc, ns) = some (pc1, lv1, st1, hp1, nc, ns))
    (hfr : px_fr ws wa hp hp1) (hF : ac_Fin T X P M G Φ ws wa xs γ pc1 lv1 st1 hp1 outs1 stops1) (ho : ∀ o ∈ outs1, o ∈ outs) (hs : ∀ q ∈ stops1, q ∈ stops) : ac_Fin T X P M G Φ ws wa xs γ pc lv st hp outs stops := by
  obtain ⟨n1, k1, h1⟩ := h
  rcases hF with ⟨r, hp', o, m1, m2, m3, n0, k, h2⟩ | ⟨pc', lv', st', hp', A', m1, m2, m3, n0, k, h2⟩
  · refine Or.inl ⟨r, hp', o, ho _ m1, m2, px_fr_tr hfr m3, max n0 n1, k1 + k, fun n hn N0 nc ns q1 q2 => ?_⟩
    exact px_its_run k1 (h1 n (by omega) N0 nc ns q1 q2) (h2 n (by omega) N0 nc ns q1 q2)
  · refine Or.inr ⟨pc', lv', st', hp', A', hs _ m1, m2, px_fr_tr hfr m3, max n0 n1, k1 + k, fun n hn N0 nc ns q1 q2 => ?_⟩
    exact px_its_add k1 (h1 n (by omega) N0 nc ns q1 q2) (h2 n (by omega) N0 nc ns q1 q2)
theorem ac_ret_ok {pc len : Nat} {i : Instr} {A : ac_S} {o : ac_Out} {lv : List (Nat × Value)} {st : List Value} {hp : px_H} (hf : px_find pc (px_cd M) = some (len, i)) (h : ac_ret M i A = some o) (hA : ac_s G Φ xs γ A lv st hp) :
    ∃ r : Option Value, ac_o' G Φ xs o r hp ∧ ∀ (call : Nat → List Value → px_H → Option px_A) (N0 nc ns : Nat), nc ≤ (px_rm M).cells → ns ≤ (px_rm M).slots → px_step T X P call M N0 (pc, lv, st, hp, nc, ns) = some (.inr (r, hp)) := by
  obtain ⟨h1, h2, h3, h4, h5, h6, h7⟩ := hA
  unfold ac_ret at h
  split at h
  · rename_i a1 a2 r9 o9 hst hrt
    cases h
    rw [hst] at h2
    obtain ⟨v, s, rfl, g1, k1⟩ := ab_st_cons h2
    obtain ⟨x, rfl, hx⟩ := ab_f0 g1.1
    cases s with
    | cons => exact absurd k1 (by simp [ab_st])
    | nil => exact ⟨some (.int x), ⟨ab_kill_ok (fun l w q1 q2 => ab_isl_at l w q1 q2) g1, h3, h4, h5, h6⟩, fun call N0 nc ns q1 q2 => by simp only [px_step, hf, px_alu, hrt, decide_eq_true q1, decide_eq_true q2, px_zr]⟩
  · rename_i a1 a2 r9 o9 hst hrt
    split at h
    · rename_i hb
      cases h
      rw [hst] at h2
      obtain ⟨v, s, rfl, g1, k1⟩ := ab_st_cons h2
      obtain ⟨x, rfl, hx⟩ := ab_f0 g1.1
      have hz : (decide (x = 0) || decide (x = 1)) = true := by
        have b0 := hx.1
        have b1 := hx.2
        simp only at b0 b1
        simp only [Bool.or_eq_true, decide_eq_true_eq, ← Int32.toInt_inj]
        have z0 : (0 : Int32).toInt = 0 := rfl
        have z1 : (1 : Int32).toInt = 1 := rfl
        omega
      cases s with
      | cons => exact absurd k1 (by simp [ab_st])
      | nil => exact ⟨some (.int x), ⟨ab_kill_ok (fun l w q1 q2 => ab_isl_at l w q1 q2) g1, h3, h4, h5, h6⟩, fun call N0 nc ns q1 q2 => by simp only [px_step, hf, px_alu, hrt, decide_eq_true q1, decide_eq_true q2, px_zr, hz]⟩
    · cases h
  · rename_i x9 o9 hst hrt
    cases h
    rw [hst] at h2
    obtain ⟨v, s, rfl, g1, k1⟩ := ab_st_cons h2
    obtain ⟨z1, z2, z3⟩ := x9
    obtain ⟨x, rfl, hx⟩ := ab_f1 g1.1
    cases s with
    | cons => exact absurd k1 (by simp [ab_st])
    | nil => exact ⟨some (.long x), ⟨ab_kill_ok (fun l w q1 q2 => ab_isl_at l w q1 q2) g1, h3, h4, h5, h6⟩, fun call N0 nc ns q1 q2 => by simp only [px_step, hf, px_alu, hrt, decide_eq_true q1, decide_eq_true q2]⟩
  · rename_i hst hrt
    cases h
    rw [hst] at h2
    cases st with
    | cons => exact absurd h2 (by simp [ab_st])
    | nil => exact ⟨none, ⟨trivial, h3, h4, h5, h6⟩, fun call N0 nc ns q1 q2 => by simp only [px_step, hf, px_alu, hrt, decide_eq_true q1, decide_eq_true q2]⟩
  · cases h
theorem ac_eqL_ok {l m : ab_L} (h : ac_eqL l m = true) : l = m := by
  obtain ⟨a, b, c⟩ := l
  obtain ⟨a', b', c'⟩ := m
  simp only [ac_eqL, Bool.and_eq_true] at h
  rw [Nat.eq_of_beq_eq_true h.1, Nat.eq_of_beq_eq_true h.2.1, Nat.eq_of_beq_eq_true h.2.2]
theorem ac_leV_ok {lv : List (Nat × Value)} {hp : px_H} {a b : ab_V} {v : Value} (h : ac_leV a b = true) (hv : ab_v xs lv hp a v) : ab_v xs lv hp b v := by
  simp only [ac_leV, Bool.and_eq_true] at h
  refine ⟨ab_le_ok h.1 hv.1, fun l hl => ?_⟩
  have h2 := h.2
  rw [hl] at h2
  rcases ha : a.2 with _ | m
  · rw [ha] at h2; cases h2
  · rw [ha] at h2
    exact hv.2 l (by rw [ha, ac_eqL_ok h2])
theorem ac_leS_ok {lv : List (Nat × Value)} {hp : px_H} : ∀ {as bs : List ab_V} {st : List Value}, ac_leS as bs = true → ab_st xs lv hp as st → ab_st xs lv hp bs st := by
  intro as
  induction as with
  | nil =>
    intro bs st h hs
    cases bs with
    | nil => exact hs
    | cons => cases h
  | cons a r ih =>
    intro bs st h hs
    cases bs with
    | nil => cases h
    | cons b s =>
      obtain ⟨v, s', rfl, h1, h2⟩ := ab_st_cons hs
      simp only [ac_leS, Bool.and_eq_true] at h
      exact ⟨ac_leV_ok h.1 h1, ih h.2 h2⟩
theorem ac_leX_ok : ∀ {as bs : List (Int × Int)}, ac_leX as bs = true → ∀ (j : Nat) (b : Int × Int), bs[j]? = some b → ∃ a, as[j]? = some a ∧ b.1 ≤ a.1 ∧ a.2 ≤ b.2 := by
  intro as
  induction as with
  | nil =>
    intro bs h j b hb
    cases bs with
    | nil => simp at hb
    | cons => cases h
  | cons a r ih =>
    intro bs h j b hb
    cases bs with
    | nil => simp at hb
    | cons b0 s =>
      simp only [ac_leX, Bool.and_eq_true, decide_eq_true_eq] at h
      cases j with
      | zero => simp only [List.getElem?_cons_zero, Option.some.injEq] at hb; subst hb; exact ⟨a, rfl, h.1.1, h.1.2⟩
      | succ j => exact ih h.2 j b hb
theorem ac_leO_ok {hp : px_H} {o p : ac_Out} {r : Option Value} (h : ac_leO G o p = true) (ho : ac_o' G Φ xs o r hp) : ac_o' G Φ xs p r hp := by
  obtain ⟨h1, h2, h3, h4, h5⟩ := ho
  simp only [ac_leO, Bool.and_eq_true, List.all_eq_true] at h
  obtain ⟨l1, l2, l3, l4⟩ := h
  refine ⟨?_, h2, fun q hq v hv => ?_, fun j b hb => ?_, fun i hi => h5 i (ac_in_ok (l4 i hi))⟩
  · cases e1 : o.1 with
    | none =>
      rw [e1] at l1 h1
      cases e2 : p.1 with
      | none => exact h1
      | some b => rw [e2] at l1; cases l1
    | some a =>
      rw [e1] at l1 h1
      cases e2 : p.1 with
      | none => rw [e2] at l1; cases l1
      | some b =>
        rw [e2] at l1
        cases r with
        | none => exact absurd h1 (by simp)
        | some v => exact ac_leV_ok l1 h1
  · have := l2 q hq
    split at this
    · rename_i f hf
      exact ab_le_ok this (ac_fF_ok h2 h3 hf hv)
    · cases this
  · obtain ⟨a, ha, e1, e2⟩ := ac_leX_ok l3 j b hb
    have := h4 j a ha
    exact ⟨Int.le_trans e1 this.1, Int.le_trans this.2 e2⟩
theorem ac_prune_ok {hp : px_H} {r : Option Value} : ∀ {outs : List ac_Out} {o : ac_Out}, o ∈ outs → ac_o' G Φ xs o r hp → ∃ p ∈ ac_prune G outs, ac_o' G Φ xs p r hp := by
  intro outs
  induction outs with
  | nil => intro o h; cases h
  | cons q t ih =>
    intro o hm ho
    unfold ac_prune
    rcases List.mem_cons.mp hm with rfl | hm
    · split
      · rename_i ha
        obtain ⟨p, hp1, hp2⟩ := List.any_eq_true.mp ha
        exact ⟨p, hp1, ac_leO_ok hp2 ho⟩
      · exact ⟨o, List.mem_cons_self, ho⟩
    · obtain ⟨p, hp1, hp2⟩ := ih hm ho
      split
      · exact ⟨p, hp1, hp2⟩
      · cases hl : ac_leO G p q with
        | true => exact ⟨q, List.mem_cons_self, ac_leO_ok hl hp2⟩
        | false => exact ⟨p, List.mem_cons_of_mem _ (List.mem_filter.mpr ⟨hp1, by simp only [hl]; rfl⟩), hp2⟩
theorem ac_le_ok {ctr : Option (Nat × Bool)} {C B : ac_S} {lv : List (Nat × Value)} {st : List Value} {hp : px_H} (h : ac_le G ctr C B = true) (hC : ac_s G Φ xs γ C lv st hp) :
    ∃ γ' : Nat → Int, (∀ i, (∀ j u, ctr = some (j, u) → i ≠ j) → γ' i = γ i) ∧ ac_s G Φ xs γ' B lv st hp ∧ ∀ j u, ctr = some (j, u) → ∃ x : Int32, px_find j lv = some (.int x) ∧ γ' j = x.toInt := by
  obtain ⟨h1, h2, h3, h4, h5, h6, h7⟩ := hC
  simp only [ac_le, Bool.and_eq_true, List.all_eq_true] at h
  obtain ⟨l1, l2, l3, l4, l5, l6, l7⟩ := h
  have hlv : ab_lv xs hp B.1 lv := by
    intro j a hm
    have := l1 _ hm
    simp only at this
    split at this
    · rename_i b hb
      obtain ⟨v, hv, hav⟩ := h1 _ _ (px_find_mem hb)
      exact ⟨v, hv, ac_leV_ok this hav⟩
    · cases this
  have hov : ac_ov B.2.2.1 hp := by
    intro q hq v hv
    have := l3 q hq
    split at this
    · rename_i f hf
      exact ab_le_ok this (ac_fF_ok h3 h4 hf hv)
    · cases this
  have hx : ab_x B.2.2.2.1 xs := by
    intro j b hb
    obtain ⟨a, ha, e1, e2⟩ := ac_leX_ok l4 j b hb
    have := h5 j a ha
    exact ⟨Int.le_trans e1 this.1, Int.le_trans this.2 e2⟩
  have hfl : ∀ i ∈ B.2.2.2.2.1, Φ i hp := fun i hi => h6 i (ac_in_ok (l5 i hi))
  have hany : ∀ q : Nat × Int, (C.2.2.2.2.2.any fun p => Nat.beq p.1 q.1 && decide (p.2 = q.2)) = true → q ∈ C.2.2.2.2.2 := by
    intro q hq
    simp only [List.any_eq_true, Bool.and_eq_true, decide_eq_true_eq] at hq
    obtain ⟨⟨p1, p2⟩, hm, e1, e2⟩ := hq
    obtain ⟨q1, q2⟩ := q
    have e1 := Nat.eq_of_beq_eq_true e1
    simp only at e1 e2
    subst e1 e2
    exact hm
  cases ctr with
  | none => exact ⟨γ, fun _ _ => rfl, ⟨hlv, l2 |> fun h => ac_leS_ok h h2, h3, hov, hx, hfl, fun q hq => h7 q (hany q (l6 q hq))⟩, fun j u he => by cases he⟩
  | some ju =>
    obtain ⟨j, u⟩ := ju
    simp only [ac_isI] at l7
    split at l7
    · rename_i a ha
      obtain ⟨v, hv, hav⟩ := hlv _ _ (px_find_mem ha)
      obtain ⟨⟨k, a1, a2, r⟩, o⟩ := a
      obtain ⟨x, rfl, -⟩ := ab_k0 l7 hav.1
      refine ⟨fun i => if i = j then x.toInt else γ i, fun i hi => if_neg (hi j u rfl), ⟨hlv, ac_leS_ok l2 h2, h3, hov, hx, hfl, fun q hq => ?_⟩, fun j' u' he => ?_⟩
      · have := l6 q hq
        simp only [ac_leR] at this
        split at this
        · rename_i hb
          have hb := Nat.eq_of_beq_eq_true hb
          have h0 := of_decide_eq_true this
          refine ⟨x, by rw [hb]; exact hv, ?_⟩
          show x.toInt = (if q.1 = j then x.toInt else γ q.1) + q.2
          rw [if_pos hb, h0]
          omega
        · rename_i hb
          obtain ⟨z, hz1, hz2⟩ := h7 q (hany q this)
          exact ⟨z, hz1, by show z.toInt = (if q.1 = j then x.toInt else γ q.1) + q.2; rw [if_neg (Nat.ne_of_beq_eq_false hb)]; exact hz2⟩
      · cases he
        exact ⟨x, hv, if_pos rfl⟩
    · cases l7
theorem ac_clean_ok {ctr : Option (Nat × Bool)} {A : ac_S} {γ' : Nat → Int} {lv : List (Nat × Value)} {st : List Value} {hp : px_H} (hA : ac_s G Φ xs γ' A lv st hp) (hγ : ∀ i, (∀ j u, ctr = some (j, u) → i ≠ j) → γ' i = γ i) : ac_s G Φ xs γ (ac_clean ctr A) lv st hp := by
  obtain ⟨h1, h2, h3, h4, h5, h6, h7⟩ := hA
  unfold ac_clean
  split
  · rename_i j u
    refine ⟨h1, h2, h3, h4, h5, h6, fun q hq => ?_⟩
    obtain ⟨hm, hk⟩ := List.mem_filter.mp hq
    simp only [Bool.not_eq_true'] at hk
    obtain ⟨x, e1, e2⟩ := h7 q hm
    refine ⟨x, e1, ?_⟩
    rw [e2, hγ q.1 (fun j' u' he => by cases he; exact Nat.ne_of_beq_eq_false hk)]
  · refine ⟨h1, h2, h3, h4, h5, h6, fun q hq => ?_⟩
    obtain ⟨x, e1, e2⟩ := h7 q hq
    exact ⟨x, e1, by rw [e2, hγ q.1 (fun j' u' he => by cases he)]⟩
/-- how far a counter may still go -/
def ac_ms (up : Bool) (x : Int32) : Nat := match up with
  | true => (2147483647 - x.toInt).toNat
  | false => (x.toInt + 2147483648).toNat
theorem ac_go_ok {ctr : Option (Nat × Bool)} {f : ac_S → Option (List ac_Out × List (Nat × ac_S))} {pc : Nat}
    (hf : ∀ (B : ac_S) (o : List ac_Out × List (Nat × ac_S)), f B = some o → ∀ (γ' : Nat → Int) (lv : List (Nat × Value)) (st : List Value) (hp : px_H), ac_s G Φ xs γ' B lv st hp → ac_Fin T X P M G Φ ws wa xs γ' pc lv st hp o.1 o.2) :
    ∀ (Bs : List ac_S) (y : List ac_Out × List (Nat × ac_S)), ac_go G ctr f pc Bs = some y → ∀ B ∈ Bs, ∀ (γ' : Nat → Int) (lv : List (Nat × Value)) (st : List Value) (hp : px_H), (∀ i, (∀ j u, ctr = some (j, u) → i ≠ j) → γ' i = γ i) → ac_s G Φ xs γ' B lv st hp →
      (∀ j u, ctr = some (j, u) → ∃ x : Int32, px_find j lv = some (.int x) ∧ γ' j = x.toInt) → ac_Fin T X P M G Φ ws wa xs γ pc lv st hp y.1 y.2 := by
  intro Bs
  induction Bs with
  | nil => intro y _ B hB; cases hB
  | cons B0 r ih =>
    intro y hy
    unfold ac_go at hy
    split at hy
    · cases hy
    rename_i o hfo
    split at hy
    · cases hy
    rename_i hall
    split at hy
    · cases hy
    rename_i y' hy'
    cases hy
    have hrest : ∀ B ∈ r, ∀ (γ' : Nat → Int) (lv : List (Nat × Value)) (st : List Value) (hp : px_H), (∀ i, (∀ j u, ctr = some (j, u) → i ≠ j) → γ' i = γ i) → ac_s G Φ xs γ' B lv st hp →
        (∀ j u, ctr = some (j, u) → ∃ x : Int32, px_find j lv = some (.int x) ∧ γ' j = x.toInt) → ac_Fin T X P M G Φ ws wa xs γ pc lv st hp (o.1 ++ y'.1) ((o.2.filter (fun q => !(Nat.beq q.1 pc))).map (fun q => (q.1, ac_clean ctr q.2)) ++ y'.2) := by
      intro B hB γ' lv st hp h1 h2 h3
      exact ac_Fin_its ⟨0, 0, fun _ _ _ _ _ _ _ => rfl⟩ (px_fr_rf _ _ _) (ih y' hy' B hB γ' lv st hp h1 h2 h3) (fun _ h => List.mem_append_right _ h) (fun _ h => List.mem_append_right _ h)
    have key : ∀ (m : Nat) (γ' : Nat → Int) (lv : List (Nat × Value)) (st : List Value) (hp : px_H), (∀ i, (∀ j u, ctr = some (j, u) → i ≠ j) → γ' i = γ i) → ac_s G Φ xs γ' B0 lv st hp →
        (∀ j u, ctr = some (j, u) → ∃ x : Int32, px_find j lv = some (.int x) ∧ γ' j = x.toInt ∧ ac_ms u x < m) → ac_Fin T X P M G Φ ws wa xs γ pc lv st hp (o.1 ++ y'.1) ((o.2.filter (fun q => !(Nat.beq q.1 pc))).map (fun q => (q.1, ac_clean ctr q.2)) ++ y'.2) := by
      intro m
      induction m with
      | zero =>
        intro γ' lv st hp h1 h2 h3
        cases hctr : ctr with
        | some ju =>
          obtain ⟨j, u⟩ := ju
          obtain ⟨x, -, -, h9⟩ := h3 j u hctr
          omega
        | none =>
          subst hctr
          rcases hf B0 o hfo γ' lv st hp h2 with ⟨r9, hp', oc, m1, m2, m3, m4⟩ | ⟨pc', lv', st', hp', A', m1, m2, m3, m4⟩
          · exact Or.inl ⟨r9, hp', oc, List.mem_append_left _ m1, m2, m3, m4⟩
          · cases hb : Nat.beq pc' pc with
            | false => exact Or.inr ⟨pc', lv', st', hp', ac_clean none A', List.mem_append_left _ (List.mem_map.mpr ⟨(pc', A'), List.mem_filter.mpr ⟨m1, by simp only [hb]; rfl⟩, rfl⟩), ac_clean_ok m2 h1, m3, m4⟩
            | true =>
              have hq := List.all_eq_true.mp hall (pc', A') (List.mem_filter.mpr ⟨m1, hb⟩)
              have hb := Nat.eq_of_beq_eq_true hb
              subst hb
              simp only [ac_prog, Bool.false_and, Bool.false_or, List.any_eq_true] at hq
              obtain ⟨B', hB', hle⟩ := hq
              obtain ⟨γ2, g1, g2, g3⟩ := ac_le_ok hle m2
              exact ac_Fin_its m4 m3 (hrest B' hB' γ2 lv' st' hp' (fun i hi => (g1 i hi).trans (h1 i hi)) g2 g3) (fun _ h => h) (fun _ h => h)
      | succ m ihm =>
        intro γ' lv st hp h1 h2 h3
        rcases hf B0 o hfo γ' lv st hp h2 with ⟨r9, hp', oc, m1, m2, m3, m4⟩ | ⟨pc', lv', st', hp', A', m1, m2, m3, m4⟩
        · exact Or.inl ⟨r9, hp', oc, List.mem_append_left _ m1, m2, m3, m4⟩
        · cases hb : Nat.beq pc' pc with
          | false => exact Or.inr ⟨pc', lv', st', hp', ac_clean ctr A', List.mem_append_left _ (List.mem_map.mpr ⟨(pc', A'), List.mem_filter.mpr ⟨m1, by simp only [hb]; rfl⟩, rfl⟩), ac_clean_ok m2 h1, m3, m4⟩
          | true =>
            have hq := List.all_eq_true.mp hall (pc', A') (List.mem_filter.mpr ⟨m1, hb⟩)
            have hb := Nat.eq_of_beq_eq_true hb
            subst hb
            simp only [Bool.or_eq_true, Bool.and_eq_true, List.any_eq_true] at hq
            rcases hq with ⟨hprog, hle⟩ | ⟨B', hB', hle⟩
            · obtain ⟨γ2, g1, g2, g3⟩ := ac_le_ok hle m2
              refine ac_Fin_its m4 m3 (ihm γ2 lv' st' hp' (fun i hi => (g1 i hi).trans (h1 i hi)) g2 (fun j u he => ?_)) (fun _ h => h) (fun _ h => h)
              obtain ⟨x', e1, e2⟩ := g3 j u he
              obtain ⟨x, f1, f2, f3⟩ := h3 j u he
              refine ⟨x', e1, e2, ?_⟩
              subst he
              simp only [ac_prog] at hprog
              split at hprog
              · rename_i d hd
                obtain ⟨z, z1, z2⟩ := m2.2.2.2.2.2.2 _ (px_find_mem hd)
                simp only at z1 z2
                rw [e1] at z1
                cases z1
                have b1 := ab_i32 x'
                have b2 := ab_i32 x
                simp only [ab_in, ab_topi] at b1 b2
                rw [f2] at z2
                split at hprog
                · have := of_decide_eq_true hprog
                  simp only [ac_ms] at f3 ⊢
                  omega
                · have := of_decide_eq_true hprog
                  simp only [ac_ms] at f3 ⊢
                  omega
              · cases hprog
            · obtain ⟨γ2, g1, g2, g3⟩ := ac_le_ok hle m2
              exact ac_Fin_its m4 m3 (hrest B' hB' γ2 lv' st' hp' (fun i hi => (g1 i hi).trans (h1 i hi)) g2 g3) (fun _ h => h) (fun _ h => h)
    intro B hB γ' lv st hp h1 h2 h3
    rcases List.mem_cons.mp hB with rfl | hB
    · refine key 4294967296 γ' lv st hp h1 h2 (fun j u he => ?_)
      obtain ⟨x, e1, e2⟩ := h3 j u he
      refine ⟨x, e1, e2, ?_⟩
      have b2 := ab_i32 x
      simp only [ab_in, ab_topi] at b2
      cases u <;> simp only [ac_ms] <;> omega
    · exact hrest B hB γ' lv st hp h1 h2 h3
end ac_s5
