/-! a contract in pieces: the way to a loop's head, and each of its widenings, run by themselves -/
def ac_pc1 (G : List ab_C) (ctr : Option (Nat × Bool)) (f : ac_S → Option (List ac_Out × List (Nat × ac_S))) (pc : Nat) (ok : ac_Out → Bool) (B : ac_S) (r : List ac_S) : Bool :=
  match f B with
  | none => false
  | some o => o.1.all ok && o.2.all (fun q => Nat.beq q.1 pc && ((ac_prog ctr q.2 && ac_le G ctr q.2 B) || r.any (fun B' => ac_le G ctr q.2 B')))
def ac_pcs (G : List ab_C) (ctr : Option (Nat × Bool)) (f : ac_S → Option (List ac_Out × List (Nat × ac_S))) (pc : Nat) (ok : ac_Out → Bool) : List ac_S → Prop
  | [] => True
  | B :: r => ac_pc1 G ctr f pc ok B r = true ∧ ac_pcs G ctr f pc ok r
theorem ac_pcs_ok {G : List ab_C} {ctr : Option (Nat × Bool)} {f : ac_S → Option (List ac_Out × List (Nat × ac_S))} {pc : Nat} {ok : ac_Out → Bool} : ∀ {Bs : List ac_S}, ac_pcs G ctr f pc ok Bs → ∃ y, ac_go G ctr f pc Bs = some y ∧ (∀ o ∈ y.1, ok o = true) ∧ y.2 = [] := by
  intro Bs
  induction Bs with
  | nil => intro _; exact ⟨([], []), rfl, fun o h => (by cases h), rfl⟩
  | cons B r ih =>
    intro h
    obtain ⟨h1, h2⟩ := h
    obtain ⟨y, e1, e2, e3⟩ := ih h2
    unfold ac_pc1 at h1
    split at h1
    · cases h1
    rename_i o ho
    simp only [Bool.and_eq_true, List.all_eq_true] at h1
    have hfil : o.2.filter (fun q => !(Nat.beq q.1 pc)) = [] := by
      rw [List.filter_eq_nil_iff]
      intro q hq
      rw [(h1.2 q hq).1]
      decide
    have hall : (o.2.filter (fun q => Nat.beq q.1 pc)).all (fun q => (ac_prog ctr q.2 && ac_le G ctr q.2 B) || r.any (fun B' => ac_le G ctr q.2 B')) = true := by
      rw [List.all_eq_true]
      intro q hq
      exact (h1.2 q (List.mem_filter.mp hq).1).2
    refine ⟨(o.1 ++ y.1, (o.2.filter (fun q => !(Nat.beq q.1 pc))).map (fun q => (q.1, ac_clean ctr q.2)) ++ y.2), ?_, fun p hp => ?_, ?_⟩
    · unfold ac_go
      rw [ho]
      simp only [hall, e1]
    · rcases List.mem_append.mp hp with h | h
      · exact h1.1 p h
      · exact e2 p h
    · simp only [hfil, e3, List.map_nil, List.append_nil]
/-- the way from the entry to the head -/
def ac_ent (T : px_T) (P : List px_M) (G : List ab_C) (FA : Nat → List Nat) (K : List ac_K) (lps : List ac_L) (n : Nat) (κ : ac_K) (N : px_M) (ctr : Option (Nat × Bool)) (pc : Nat) (Bs : List ac_S) : Bool :=
  match ac_run T P G FA K lps κ.2.2.2.2.1 κ.2.2.2.2.2 n false [pc] κ.1 N 0 (ab_args 0 (ac_ini 0 κ.2.1), [], [], ac_gh κ.2.1, κ.2.2.1, []) with
  | none => false
  | some o => o.1.all (fun p => κ.2.2.2.1.any (ac_rok κ.2.1 p)) && o.2.all (fun q => Nat.beq q.1 pc && Bs.any (fun B => ac_le G ctr q.2 B))
theorem ac_ent_ok {T : px_T} {P : List px_M} {G : List ab_C} {FA : Nat → List Nat} {Φ : Nat → px_H → Prop} {K : List ac_K} {lps : List ac_L} {n m : Nat} {κ : ac_K} {N : px_M} {ctr : Option (Nat × Bool)} {pc : Nat} {Bs : List ac_S} {stop : List Nat} (hFl : ac_Fl FA Φ) (hFG : ∀ i, ∀ c ∈ FA i, ∃ q, G[c]? = some (.inr q)) (hK : ∀ κ ∈ K, ac_ok T P G Φ κ)
    (hN : P[κ.1]? = some N) (hml : ((ac_ini 0 κ.2.1).map ab_cat).sum ≤ px_ml N) (he : ac_ent T P G FA K lps n κ N ctr pc Bs = true)
    (hp9 : ac_pcs G ctr (fun B => ac_run T P G FA K lps κ.2.2.2.2.1 κ.2.2.2.2.2 m true (pc :: stop) κ.1 N pc B) pc (fun p => κ.2.2.2.1.any (ac_rok κ.2.1 p)) Bs) : ac_ok T P G Φ κ := by
  intro av hp hG hgs hfl
  have hst : ab_st (ac_xs av) (lv_args 0 av) hp (ac_ini 0 κ.2.1) av := ac_ini_ok hgs (fun j => by rw [Nat.zero_add])
  have hx : ab_x (ac_gh κ.2.1) (ac_xs av) := by
    intro j q hq
    unfold ac_gh at hq
    rw [List.getElem?_map] at hq
    rcases hg : κ.2.1[j]? with _ | f
    · rw [hg] at hq; cases hq
    · rw [hg] at hq
      cases hq
      obtain ⟨v, e1, e2⟩ := ac_argv_get hgs hg
      cases hk : Nat.beq f.1 0 with
      | true =>
        simp only [hk]
        obtain ⟨k, a1, a2, rs⟩ := f
        obtain ⟨x, rfl, hx⟩ := ab_k0 hk e2
        unfold ac_xs
        rw [e1]
        exact hx
      | false =>
        simp only [hk]
        exact ab_i32 _
  have hl : (lg_sl av).length ≤ px_ml N := by
    rw [ab_lg', ← ab_st_cat hst]
    exact hml
  have fin : ∀ (r : Option Value) (hp' : px_H) (oc : ac_Out), κ.2.2.2.1.any (ac_rok κ.2.1 oc) = true → ac_o' G Φ (ac_xs av) oc r hp' → px_fr κ.2.2.2.2.1 κ.2.2.2.2.2 hp hp' → (∃ n0 k : Nat, ∀ n, n0 ≤ n → ∀ N0 nc ns : Nat, nc ≤ (px_rm N).cells → ns ≤ (px_rm N).slots → px_run T none P (px_call T P ab_nn n) N N0 k (0, lv_args 0 av, [], hp, nc, ns) = some (r, hp')) →
      ∃ (r : Option Value) (hp' : px_H) (o : Option ab_F × List (Nat × ab_B) × List Nat), o ∈ κ.2.2.2.1 ∧ px_C T P κ.1 av hp r hp' ∧ ab_h G hp' ∧ ac_rv o.1 r ∧ (∀ q ∈ o.2.1, ∃ v z, av[q.1]? = some v ∧ ab_num v = some z ∧ ab_in q.2 z) ∧ (∀ i ∈ o.2.2, Φ i hp') ∧ px_fr κ.2.2.2.2.1 κ.2.2.2.2.2 hp hp' := by
    intro r hp' oc hany m2 m3 hr
    obtain ⟨q, hq, hrok⟩ := List.any_eq_true.mp hany
    simp only [ac_rok, Bool.and_eq_true, List.all_eq_true] at hrok
    obtain ⟨w1, w2, w3⟩ := hrok
    refine ⟨r, hp', q, hq, ab_call_ok hN hl hr, m2.2.1, ?_, fun p hp9 => ?_, fun i hi => m2.2.2.2.2 i (ac_in_ok (w3 i hi)), m3⟩
    · have g1 := m2.1
      unfold ac_rv
      cases h8 : oc.1 with
      | none =>
        rw [h8] at w1 g1
        cases h9 : q.1 with
        | none => cases r <;> first | trivial | exact absurd g1 (by simp)
        | some f => rw [h9] at w1; cases w1
      | some a =>
        rw [h8] at w1 g1
        cases h9 : q.1 with
        | none => rw [h9] at w1; cases w1
        | some f =>
          rw [h9] at w1
          cases r with
          | none => exact absurd g1 (by simp)
          | some v => exact ab_le_ok w1 g1.1
    · have := w2 p hp9
      split at this
      · rename_i f b hf hb
        simp only [Bool.and_eq_true, decide_eq_true_eq] at this
        obtain ⟨v, e1, e2⟩ := ac_argv_get hgs hf
        obtain ⟨k, a1, a2, rs⟩ := f
        obtain ⟨x, rfl, -⟩ := ab_k0 this.1 e2
        have hxb := m2.2.2.2.1 _ _ hb
        have hxe : ac_xs av p.1 = x := by unfold ac_xs; rw [e1]
        rw [hxe] at hxb
        exact ⟨.int x, x.toInt, e1, rfl, Int.le_trans this.2.1 hxb.1, Int.le_trans hxb.2 this.2.2⟩
      · cases this
  unfold ac_ent at he
  split at he
  · cases he
  rename_i o hrun
  simp only [Bool.and_eq_true, List.all_eq_true] at he
  have hF := ac_run_ok (xs := ac_xs av) (Φ := Φ) hFl hFG hK n false [pc] κ.1 N 0 _ _ none (fun _ => 0) (lv_args 0 av) [] hp hrun ⟨fun j a hm => ab_args_ok 0 hst j a hm, trivial, hG, fun q hq => (by cases hq), hx, hfl, fun q hq => (by cases hq)⟩
  rcases hF with ⟨r, hp', oc, m1, m2, m3, hr⟩ | ⟨pc', lv', st', hp', A', m1, m2, m3, hit⟩
  · exact fin r hp' oc (he.1 oc m1) m2 m3 hr
  · obtain ⟨q1, q2⟩ := he.2 _ m1
    have q1 := Nat.eq_of_beq_eq_true q1
    simp only at q1
    subst q1
    obtain ⟨B, hB, hle⟩ := List.any_eq_true.mp q2
    obtain ⟨γ', g1, g2, g3⟩ := ac_le_ok hle m2
    obtain ⟨y, e1, e2, e3⟩ := ac_pcs_ok hp9
    have hG2 := ac_go_ok (T := T) (X := none) (P := P) (M := N) (Φ := Φ) (ws := κ.2.2.2.2.1) (wa := κ.2.2.2.2.2) (xs := ac_xs av) (γ := fun _ => 0) (fun B o hB γ' lv st hp hs => ac_run_ok (xs := ac_xs av) (Φ := Φ) hFl hFG hK m true (pc' :: stop) κ.1 N pc' B o none γ' lv st hp hB hs) Bs y e1 B hB γ' lv' st' hp' g1 g2 g3
    have hF2 := ac_Fin_its hit m3 hG2 (fun _ h => h) (fun _ h => h)
    rcases hF2 with ⟨r, hp2, oc, m1, m2, m3, hr⟩ | ⟨pc2, lv2, st2, hp2, A2, m1, -⟩
    · exact fin r hp2 oc (e2 oc m1) m2 m3 hr
    · rw [e3] at m1
      cases m1
