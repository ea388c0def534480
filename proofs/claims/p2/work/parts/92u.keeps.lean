/-! keepsListed: what is kept is never more than what was looked at -/
def kk_B (rl : List (Nat × Int)) : ac_S := ([(3, ((0, 0, 3000, []), none)), (2, ((0, 0, 3000, []), none)), (0, ((2, 0, 0, [69]), none)), (1, ((0, 0, 5, []), some (2, 1, 0)))], [], [], [(-2147483648, 2147483647), (0, 5)], [], rl)
abbrev kk_run (fresh : Bool) (pc : Nat) (A : ac_S) : Option (List ac_Out × List (Nat × ac_S)) := ac_run nm_T nm_P nm_GH nm_FA [kc_M_satAt_0] [] kc_M_keepsListed_0.2.2.2.2.1 kc_M_keepsListed_0.2.2.2.2.2 20000 fresh [4] mi_M_keepsListed mm_M_keepsListed pc A
def kk_ok (p : ac_Out) : Bool := kc_M_keepsListed_0.2.2.2.1.any (ac_rok kc_M_keepsListed_0.2.1 p)
def kk_st (q : Nat × ac_S) : Bool :=
  Nat.beq q.1 4 && ((match px_find 3 q.2.2.2.2.2.2, px_find 2 q.2.2.2.2.2.2 with
    | some d3, some d2 => decide (d3 = 1) && (decide (0 ≤ d2) && decide (d2 ≤ 1))
    | _, _ => false) && ((match px_find 3 q.2.1 with
    | some ((0, _, hi, _), _) => decide (hi ≤ 3000)
    | _ => false) && ac_le nm_GH none (ac_refine nm_GH q.2 (some (0, 2, 0)) (0, 3000)) (kk_B [])))
def kk_lp : Bool := match kk_run true 4 (kk_B [(2, 0), (3, 0)]) with
  | some o => o.1.all kk_ok && o.2.all kk_st
  | none => false
def kk_en : Bool := match kk_run false 0 (ab_args 0 (ac_ini 0 kc_M_keepsListed_0.2.1), [], [], ac_gh kc_M_keepsListed_0.2.1, kc_M_keepsListed_0.2.2.1, []) with
  | some o => o.1.all kk_ok && o.2.all (fun q => Nat.beq q.1 4 && ((match px_find 3 q.2.1, px_find 2 q.2.1 with
    | some ((0, a1, _, _), _), some ((0, _, b2, _), _) => decide (b2 ≤ 0) && decide (0 ≤ a1)
    | _, _ => false) && ac_le nm_GH none q.2 (kk_B [])))
  | none => false
set_option maxRecDepth 1000000 in
theorem kk_lp_t : kk_lp = true := by decide +kernel
set_option maxRecDepth 1000000 in
theorem kk_en_t : kk_en = true := by decide +kernel
theorem kk_K : ∀ κ ∈ [kc_M_satAt_0], nm_ok κ := List.forall_mem_cons.mpr ⟨kp_M_satAt_0, fun _ h => absurd h List.not_mem_nil⟩
theorem kk_le {γ : Nat → Int} {xs : Nat → Int32} {A : ac_S} {lv : List (Nat × Value)} {st : List Value} {hp : px_H} (h : ac_le nm_GH none A (kk_B []) = true) (hA : ac_s nm_GH nm_Φ xs γ A lv st hp) (γ' : Nat → Int) : ac_s nm_GH nm_Φ xs γ' (kk_B []) lv st hp := by
  obtain ⟨γ2, -, h2, -⟩ := ac_le_ok h hA
  exact ⟨h2.1, h2.2.1, h2.2.2.1, h2.2.2.2.1, h2.2.2.2.2.1, h2.2.2.2.2.2.1, fun q hq => by cases hq⟩
theorem kk_loop {xs : Nat → Int32} : ∀ (m : Nat) (lv : List (Nat × Value)) (st : List Value) (hp : px_H) (n k : Int32), ac_s nm_GH nm_Φ xs (fun _ => 0) (kk_B []) lv st hp → px_find 2 lv = some (.int n) → px_find 3 lv = some (.int k) → n.toInt ≤ k.toInt → 3000 - k.toInt < m →
    ∃ outs, (∀ o ∈ outs, kk_ok o = true) ∧ ac_Fin nm_T none nm_P mm_M_keepsListed nm_GH nm_Φ kc_M_keepsListed_0.2.2.2.2.1 kc_M_keepsListed_0.2.2.2.2.2 xs (fun _ => 0) 4 lv st hp outs [] := by
  have hlp := kk_lp_t
  unfold kk_lp at hlp
  split at hlp
  rotate_left
  · cases hlp
  rename_i o ho
  simp only [Bool.and_eq_true, List.all_eq_true] at hlp
  intro m
  induction m with
  | zero =>
    intro lv st hp n k hB h2 h3 hnk hm
    obtain ⟨v, hv, hav⟩ := hB.1 3 ((0, 0, 3000, []), none) List.mem_cons_self
    rw [h3] at hv
    cases hv
    have := hav.1.2.2
    simp only at this
    omega
  | succ m ih =>
    intro lv st hp n k hB h2 h3 hnk hm
    have hB2 : ac_s nm_GH nm_Φ xs (fun j => if j = 2 then n.toInt else k.toInt) (kk_B [(2, 0), (3, 0)]) lv st hp := by
      refine ⟨hB.1, hB.2.1, hB.2.2.1, hB.2.2.2.1, hB.2.2.2.2.1, hB.2.2.2.2.2.1, fun q hq => ?_⟩
      simp only [kk_B, List.mem_cons, List.not_mem_nil, or_false] at hq
      rcases hq with rfl | rfl
      · exact ⟨n, h2, by simp⟩
      · exact ⟨k, h3, by simp⟩
    rcases ac_run_ok (xs := xs) nm_Fl nm_FG kk_K 20000 true [4] mi_M_keepsListed mm_M_keepsListed 4 _ o none _ lv st hp ho hB2 with ⟨r, hp', oc, m1, m2, m3, m4⟩ | ⟨pc', lv', st', hp', A', m1, m2, m3, m4⟩
    · exact ⟨o.1, hlp.1, Or.inl ⟨r, hp', oc, m1, m2, m3, m4⟩⟩
    · have hs := hlp.2 _ m1
      simp only [kk_st, Bool.and_eq_true] at hs
      obtain ⟨s1, s2, s3, s4⟩ := hs
      have s1 := Nat.eq_of_beq_eq_true s1
      try simp only at s1
      subst s1
      split at s2
      rotate_left
      · cases s2
      rename_i d3 d2 e3 e2
      simp only [Bool.and_eq_true, decide_eq_true_eq] at s2
      obtain ⟨n', f1, f2⟩ := m2.2.2.2.2.2.2 _ (px_find_mem e2)
      obtain ⟨k', g1, g2⟩ := m2.2.2.2.2.2.2 _ (px_find_mem e3)
      simp only at f1 f2 g1 g2
      simp only [if_true] at f2
      rw [if_neg (by decide)] at g2
      split at s3
      rotate_left
      · cases s3
      rename_i a1 hi rr oo hl3
      have s3 := of_decide_eq_true s3
      obtain ⟨v, hv, hav⟩ := m2.1 _ _ (px_find_mem hl3)
      rw [g1] at hv
      cases hv
      have hk' := hav.1.2.2
      simp only at hk'
      have hn' : 0 ≤ n.toInt := by
        obtain ⟨v, hv, hav⟩ := hB.1 2 ((0, 0, 3000, []), none) (List.mem_cons_of_mem _ List.mem_cons_self)
        rw [h2] at hv
        cases hv
        exact hav.1.2.1
      have hA2 := ac_refine_ok m2 (o := some (0, 2, 0)) (q := (0, 3000)) (fun l hl => by
        cases hl
        exact ⟨.int n', n'.toInt, f1, rfl, by simp only; omega, by simp only; omega⟩)
      obtain ⟨outs, h8, h9⟩ := ih lv' st' hp' n' k' (kk_le s4 hA2 _) f1 g1 (by omega) (by omega)
      exact ⟨outs, h8, ac_Fin_its m4 m3 h9 (fun _ h => h) (fun _ h => h)⟩
theorem kp_M_keepsListed_0 : nm_ok kc_M_keepsListed_0 := by
  intro av hp hG hgs hfl
  have hst : ab_st (ac_xs av) (lv_args 0 av) hp (ac_ini 0 kc_M_keepsListed_0.2.1) av := ac_ini_ok hgs (fun j => by rw [Nat.zero_add])
  obtain ⟨v, w, rfl, hv, hw⟩ := nm_arg2 hgs
  obtain ⟨c, rfl, hc⟩ := ab_f2 hv
  cases List.mem_singleton.mp hc
  obtain ⟨x, rfl, hx⟩ := ab_f0 hw
  have hxx : ab_x (ac_gh kc_M_keepsListed_0.2.1) (ac_xs [.ref 69, .int x]) := by
    intro j q hq
    match j, hq with
    | 0, hq => cases hq; exact ab_i32 _
    | 1, hq => cases hq; exact hx
    | j + 2, hq => simp [ac_gh, kc_M_keepsListed_0] at hq
  have fin : ∀ (r : Option Value) (hp' : px_H) (oc : ac_Out), kk_ok oc = true → ac_o' nm_GH nm_Φ (ac_xs [.ref 69, .int x]) oc r hp' → px_fr kc_M_keepsListed_0.2.2.2.2.1 kc_M_keepsListed_0.2.2.2.2.2 hp hp' → (∃ n0 k : Nat, ∀ n, n0 ≤ n → ∀ N0 nc ns : Nat, nc ≤ (px_rm mm_M_keepsListed).cells → ns ≤ (px_rm mm_M_keepsListed).slots → px_run nm_T none nm_P (px_call nm_T nm_P ab_nn n) mm_M_keepsListed N0 k (0, lv_args 0 [.ref 69, .int x], [], hp, nc, ns) = some (r, hp')) →
      ∃ (r : Option Value) (hp' : px_H) (o : Option ab_F × List (Nat × ab_B) × List Nat), o ∈ kc_M_keepsListed_0.2.2.2.1 ∧ px_C nm_T nm_P kc_M_keepsListed_0.1 [.ref 69, .int x] hp r hp' ∧ ab_h nm_GH hp' ∧ ac_rv o.1 r ∧ (∀ q ∈ o.2.1, ∃ v z, [Value.ref 69, .int x][q.1]? = some v ∧ ab_num v = some z ∧ ab_in q.2 z) ∧ (∀ i ∈ o.2.2, nm_Φ i hp') ∧ px_fr kc_M_keepsListed_0.2.2.2.2.1 kc_M_keepsListed_0.2.2.2.2.2 hp hp' := by
    intro r hp' oc hok m2 m3 hr
    obtain ⟨q, hq, hrok⟩ := List.any_eq_true.mp hok
    cases List.mem_singleton.mp hq
    refine ⟨r, hp', _, List.mem_cons_self, ab_call_ok (N := mm_M_keepsListed) rfl (Nat.le_of_ble_eq_true rfl) hr, m2.2.1, ?_, fun q hq => (by cases hq), fun i hi => (by cases hi), m3⟩
    have g1 := m2.1
    simp only [ac_rok, Bool.and_eq_true] at hrok
    cases h8 : oc.1 with
    | none =>
      rw [h8] at g1
      cases r with
      | none => trivial
      | some v => exact absurd g1 (by simp)
    | some a => rw [h8] at hrok; exact absurd hrok.1 (by simp)
  have hen := kk_en_t
  unfold kk_en at hen
  split at hen
  rotate_left
  · cases hen
  rename_i o ho
  simp only [Bool.and_eq_true, List.all_eq_true] at hen
  rcases ac_run_ok (xs := ac_xs [.ref 69, .int x]) nm_Fl nm_FG kk_K 20000 false [4] mi_M_keepsListed mm_M_keepsListed 0 _ o none (fun _ => 0) (lv_args 0 [.ref 69, .int x]) [] hp ho ⟨fun j a hm => ab_args_ok 0 hst j a hm, trivial, hG, fun q hq => (by cases hq), hxx, hfl, fun q hq => (by cases hq)⟩ with ⟨r, hp', oc, m1, m2, m3, m4⟩ | ⟨pc', lv', st', hp', A', m1, m2, m3, m4⟩
  · exact fin r hp' oc (hen.1 oc m1) m2 m3 m4
  · obtain ⟨q1, q2, q3⟩ := hen.2 _ m1
    have q1 := Nat.eq_of_beq_eq_true q1
    simp only at q1
    subst q1
    split at q2
    rotate_left
    · cases q2
    rename_i a1 a2 ar ao b1 b2 br bo e3 e2
    simp only [Bool.and_eq_true, decide_eq_true_eq] at q2
    obtain ⟨v3, hv3, hav3⟩ := m2.1 _ _ (px_find_mem e3)
    obtain ⟨v2, hv2, hav2⟩ := m2.1 _ _ (px_find_mem e2)
    obtain ⟨k, rfl, hk⟩ := ab_f0 hav3.1
    obtain ⟨n, rfl, hn⟩ := ab_f0 hav2.1
    have b0 := hk.1
    have b9 := hn.2
    simp only at b0 b9
    obtain ⟨outs, h8, h9⟩ := kk_loop 5000 lv' st' hp' n k (kk_le q3 m2 _) hv2 hv3 (by omega) (by omega)
    rcases ac_Fin_its m4 m3 h9 (fun _ h => h) (fun _ h => h) with ⟨r, hp2, oc, m1, m2, m3, hr⟩ | ⟨pc2, lv2, st2, hp2, A2, m1, -⟩
    · exact fin r hp2 oc (h8 oc m1) m2 m3 hr
    · cases m1
