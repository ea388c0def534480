section mg_0
/-! the contract of adds -/
theorem nm_cnt_slot {f : Nat → Int32} {lo : Nat} : ∀ {n : Nat}, nm_cnt f lo n < n → ∃ z, z < n ∧ (f (lo + z)).toInt < 0 := by
  intro n
  induction n with
  | zero => intro h; cases h
  | succ n ih =>
    intro h
    by_cases h0 : 0 ≤ (f (lo + n)).toInt
    · unfold nm_cnt at h
      rw [if_pos h0] at h
      obtain ⟨z, h1, h2⟩ := ih (by omega)
      exact ⟨z, by omega, h2⟩
    · exact ⟨n, by omega, by omega⟩
theorem nm_cnt_upd (f : Nat → Int32) (lo k : Nat) (v : Int32) : ∀ n : Nat, nm_cnt (upd f (lo + k) v) lo n ≤ nm_cnt f lo n + 1 ∧ (n ≤ k → nm_cnt (upd f (lo + k) v) lo n = nm_cnt f lo n) := by
  intro n
  induction n with
  | zero => exact ⟨by unfold nm_cnt; omega, fun _ => rfl⟩
  | succ n ih =>
    unfold nm_cnt
    by_cases hnk : n = k
    · subst hnk
      have e := ih.2 (Nat.le_refl _)
      refine ⟨?_, fun h => by omega⟩
      rw [e]
      split <;> split <;> omega
    · have hu : upd f (lo + k) v (lo + n) = f (lo + n) := by
        unfold upd
        rw [if_neg (by omega)]
      rw [hu]
      refine ⟨by have := ih.1; split <;> omega, fun h => by rw [ih.2 (by omega)]⟩
theorem nm_bI (lo hi : Int) (x : Int32) (h1 : lo ≤ x.toInt) (h2 : x.toInt ≤ hi) (r : List Nat) : ab_f (0, lo, hi, r) (.int x) := ⟨rfl, h1, h2⟩
theorem nm_bL (x : Int64) : ab_f (1, -9223372036854775808, 9223372036854775807, []) (.long x) := ⟨rfl, (ab_i64 x).1, (ab_i64 x).2⟩
section nm_a1
variable {hp : px_H}
/-- an array of longs set anew -/
theorem nm_hL (hG : ab_h nm_GH hp) {c t n j : Nat} {o : Nat → Int64} {v : Int64} (hx : hp[c]? = some (.inl (t, n, .inr (.inl o)))) (hc : nm_GH[c]? = some (.inr (t, n, (1, -9223372036854775808, 9223372036854775807, [])))) : ab_h nm_GH (hp.set c (.inl (t, n, .inr (.inl (vp_updL o j v))))) :=
  ac_h_arr hG hx hc ⟨rfl, rfl, fun i hi => nm_bL _⟩
theorem nm_hI (hG : ab_h nm_GH hp) {c t n j : Nat} {o : Nat → Int32} {v : Int32} {lo hi : Int} {r : List Nat} (hx : hp[c]? = some (.inl (t, n, .inl o))) (hc : nm_GH[c]? = some (.inr (t, n, (0, lo, hi, r)))) (ho : ∀ i, i < n → lo ≤ (o i).toInt ∧ (o i).toInt ≤ hi) (h1 : lo ≤ v.toInt) (h2 : v.toInt ≤ hi) : ab_h nm_GH (hp.set c (.inl (t, n, .inl (upd o j v)))) := by
  refine ac_h_arr hG hx hc ⟨rfl, rfl, fun i hi => ?_⟩
  simp only [upd]
  split
  · exact nm_bI _ _ _ h1 h2 _
  · exact nm_bI _ _ _ (ho i hi).1 (ho i hi).2 _
end nm_a1
/-- what adds comes to keeps the bounds, and the hash's count -/
theorem nm_AR_ok {hp hp' : px_H} {f g : Nat → Int32} {o1 o2 pt : Nat → Int64} {tn : Nat} {a b ch : Int64} {r : Option Value} (hG : ab_h nm_GH hp) (hh : hp[na_hash]? = some (.inl (nr_hash, 24576, .inl f))) (hs : hp[na_size]? = some (.inl (nr_size, 3, .inl g))) (h1 : hp[na_one]? = some (.inl (nr_one, 9003, .inr (.inl o1)))) (h2 : hp[na_other]? = some (.inl (nr_other, 9003, .inr (.inl o2)))) (hq : hp[na_part]? = some (.inl (nr_part, 9003, .inr (.inl pt))))
    (hfb : ∀ j, j < 24576 → -1 ≤ (f j).toInt ∧ (f j).toInt ≤ 2999) (hgb : ∀ j, j < 3 → 0 ≤ (g j).toInt ∧ (g j).toInt ≤ 3000) (hc : (nm_cnt f (tn * 8192) 8192 : Int) ≤ (g tn).toInt) (h : nm_AR hp f g o1 o2 pt tn a b ch r hp') :
    ab_h nm_GH hp' ∧ nm_HI tn hp' ∧ px_fr [] [na_one, na_other, na_part, na_size, na_hash] hp hp' ∧ (r = some (.int (Int32.ofInt 1)) ∨ r = some (.int (Int32.ofInt 0))) := by
  rcases h with ⟨e, he, e1, e2, rfl, rfl⟩ | ⟨hg3, rfl, rfl⟩ | ⟨k, e, hk, hneg, hge, he, rfl, rfl⟩
  · refine ⟨nm_hL hG hq rfl, ⟨nr_hash, nr_size, f, g, ?_, ?_, hc⟩, px_fr_arr hq (by decide), Or.inl rfl⟩
    · exact (List.getElem?_set_ne (by decide)).trans hh
    · exact (List.getElem?_set_ne (by decide)).trans hs
  · exact ⟨hG, ⟨nr_hash, nr_size, f, g, hh, hs, hc⟩, px_fr_rf _ _ _, Or.inr rfl⟩
  · have k1 := nm_hI hG (j := tn * 8192 + k) (v := Int32.ofNat e) hh rfl hfb (by rw [nm_ofNat_toInt e (by omega)]; omega) (by rw [nm_ofNat_toInt e (by omega)]; omega)
    have l1 : (hp.set na_hash (.inl (nr_hash, 24576, .inl (upd f (tn * 8192 + k) (Int32.ofNat e)))))[na_one]? = some (.inl (nr_one, 9003, .inr (.inl o1))) := (List.getElem?_set_ne (by decide)).trans h1
    have k2 := nm_hL k1 (j := tn * 3001 + e) (v := a) l1 rfl
    have l2 := (List.getElem?_set_ne (l := hp.set na_hash (.inl (nr_hash, 24576, .inl (upd f (tn * 8192 + k) (Int32.ofNat e))))) (i := na_one) (j := na_other) (a := .inl (nr_one, 9003, .inr (.inl (vp_updL o1 (tn * 3001 + e) a)))) (by decide)).trans ((List.getElem?_set_ne (by decide)).trans h2)
    have k3 := nm_hL k2 (j := tn * 3001 + e) (v := b) l2 rfl
    have l3 := (List.getElem?_set_ne (l := (hp.set na_hash (.inl (nr_hash, 24576, .inl (upd f (tn * 8192 + k) (Int32.ofNat e))))).set na_one (.inl (nr_one, 9003, .inr (.inl (vp_updL o1 (tn * 3001 + e) a))))) (i := na_other) (j := na_part) (a := .inl (nr_other, 9003, .inr (.inl (vp_updL o2 (tn * 3001 + e) b)))) (by decide)).trans ((List.getElem?_set_ne (by decide)).trans ((List.getElem?_set_ne (by decide)).trans hq))
    have k4 := nm_hL k3 (j := tn * 3001 + e) (v := ch) l3 rfl
    have l4 := (List.getElem?_set_ne (l := ((hp.set na_hash (.inl (nr_hash, 24576, .inl (upd f (tn * 8192 + k) (Int32.ofNat e))))).set na_one (.inl (nr_one, 9003, .inr (.inl (vp_updL o1 (tn * 3001 + e) a))))).set na_other (.inl (nr_other, 9003, .inr (.inl (vp_updL o2 (tn * 3001 + e) b))))) (i := na_part) (j := na_size) (a := .inl (nr_part, 9003, .inr (.inl (vp_updL pt (tn * 3001 + e) ch)))) (by decide)).trans ((List.getElem?_set_ne (by decide)).trans ((List.getElem?_set_ne (by decide)).trans ((List.getElem?_set_ne (by decide)).trans hs)))
    have he1 : Int32.ofNat e + Int32.ofInt 1 = Int32.ofNat (e + 1) := by rw [Int32.ofNat_add]; rfl
    have k5 := nm_hI k4 (j := tn) (v := Int32.ofNat e + Int32.ofInt 1) l4 rfl hgb (by rw [he1, nm_ofNat_toInt (e + 1) (by omega)]; omega) (by rw [he1, nm_ofNat_toInt (e + 1) (by omega)]; omega)
    refine ⟨k5, ⟨nr_hash, nr_size, upd f (tn * 8192 + k) (Int32.ofNat e), upd g tn (Int32.ofNat e + Int32.ofInt 1), ?_, ?_, ?_⟩, ?_, Or.inl rfl⟩
    · exact (List.getElem?_set_ne (by decide)).trans ((List.getElem?_set_ne (by decide)).trans ((List.getElem?_set_ne (by decide)).trans ((List.getElem?_set_ne (by decide)).trans (List.getElem?_set_self (List.getElem?_eq_some_iff.mp hh).1))))
    · exact List.getElem?_set_self (by simp only [List.length_set]; exact (List.getElem?_eq_some_iff.mp hs).1)
    · have h9 := (nm_cnt_upd f (tn * 8192) k (Int32.ofNat e) 8192).1
      have h8 : upd g tn (Int32.ofNat e + Int32.ofInt 1) tn = Int32.ofNat (e + 1) := by unfold upd; rw [if_pos rfl, he1]
      rw [h8, nm_ofNat_toInt (e + 1) (by omega)]
      rw [hge, nm_ofNat_toInt e (by omega)] at hc
      omega
    · exact px_fr_tr (px_fr_arr hh (by decide)) (px_fr_tr (px_fr_arr l1 (by decide)) (px_fr_tr (px_fr_arr l2 (by decide)) (px_fr_tr (px_fr_arr l3 (by decide)) (px_fr_arr l4 (by decide)))))
theorem nm_pure {κ : ac_K} (hκ : nm_ok κ) (hw : κ.2.2.2.2.1 = []) (ha : κ.2.2.2.2.2 = []) (hpre : κ.2.2.1 = []) {av : List Value} {hp : px_H} (hG : ab_h nm_GH hp) (hav : ac_argv κ.2.1 av) : ∃ r o, o ∈ κ.2.2.2.1 ∧ px_C nm_T nm_P κ.1 av hp r hp ∧ ac_rv o.1 r := by
  obtain ⟨r, hp', o, m1, m2, m3, m4, -, -, m7⟩ := hκ av hp hG hav (fun i hi => by rw [hpre] at hi; cases hi)
  rw [hw, ha] at m7
  have := px_fr_nil hG m3 m7
  subst this
  exact ⟨r, o, m1, m2, m4⟩
theorem nm_rv1 {r : Option Value} {lo hi : Int} {c : List Nat} (h : ac_rv (some (1, lo, hi, c)) r) : ∃ x : Int64, r = some (.long x) := by
  cases r with
  | none => exact absurd h (by simp [ac_rv])
  | some v => obtain ⟨x, rfl, -⟩ := ab_f1 h; exact ⟨x, rfl⟩
theorem nm_rv0 {r : Option Value} {lo hi : Int} {c : List Nat} (h : ac_rv (some (0, lo, hi, c)) r) : ∃ x : Int32, r = some (.int x) ∧ lo ≤ x.toInt ∧ x.toInt ≤ hi := by
  cases r with
  | none => exact absurd h (by simp [ac_rv])
  | some v => obtain ⟨x, rfl, hx⟩ := ab_f0 h; exact ⟨x, rfl, hx⟩
set_option maxRecDepth 100000 in
/-- adds from its entry, any table -/
theorem nm_adds_C {hp : px_H} (hG : ab_h nm_GH hp) {tn : Nat} (htn : tn ≤ 2) (hi : nm_HI tn hp) (ch : Int64) :
    ∃ r hp', px_C nm_T nm_P mi_M_adds [.ref 69, .int (Int32.ofNat tn), .long ch] hp r hp' ∧ ab_h nm_GH hp' ∧ nm_HI tn hp' ∧ px_fr [] [na_one, na_other, na_part, na_size, na_hash] hp hp' ∧ (r = some (.int (Int32.ofInt 1)) ∨ r = some (.int (Int32.ofInt 0))) := by
  obtain ⟨vs, h69, hrf⟩ := nm_mod hG
  obtain ⟨f, hf, hfb⟩ := ac_arrI hG (c := na_hash) (by decide) rfl
  obtain ⟨g, hg, hgb⟩ := ac_arrI hG (c := na_size) (by decide) rfl
  obtain ⟨o1, h1, -⟩ := ac_arrL hG (c := na_one) (by decide) rfl
  obtain ⟨o2, h2, -⟩ := ac_arrL hG (c := na_other) (by decide) rfl
  obtain ⟨pt, hq, -⟩ := ac_arrL hG (c := na_part) (by decide) rfl
  obtain ⟨th, ts, f', g', e1, e2, hcnt⟩ := hi
  rw [hf] at e1
  rw [hg] at e2
  cases e1
  cases e2
  have hgt := hgb tn (by omega)
  obtain ⟨z, hz, hze⟩ := nm_cnt_slot (f := f) (lo := tn * 8192) (n := 8192) (by omega)
  obtain ⟨r1, q1, m1, c1, v1⟩ := nm_pure kp_M_first_0 rfl rfl rfl hG (av := [.ref 69]) ⟨⟨rfl, List.mem_singleton.mpr rfl⟩, trivial⟩
  obtain ⟨r2, q2, m2, c2, v2⟩ := nm_pure kp_M_second_0 rfl rfl rfl hG (av := [.ref 69]) ⟨⟨rfl, List.mem_singleton.mpr rfl⟩, trivial⟩
  cases List.mem_singleton.mp m1
  cases List.mem_singleton.mp m2
  obtain ⟨a, rfl⟩ := nm_rv1 v1
  obtain ⟨b, rfl⟩ := nm_rv1 v2
  obtain ⟨r3, q3, m3, c3, v3⟩ := nm_pure kp_M_placeOf_0 rfl rfl rfl hG (av := [.long a, .long b]) ⟨nm_bL a, nm_bL b, trivial⟩
  cases List.mem_singleton.mp m3
  obtain ⟨x, rfl, hx1, hx2⟩ := nm_rv0 v3
  have hxe := nm_ofC x hx1
  have hk : x.toNatClampNeg < 8192 := by unfold Int32.toNatClampNeg; omega
  obtain ⟨r, hp', hZ, hres⟩ := nm_adds_l0 (a := a) (b := b) (ch := ch) h69 hrf hf hg h1 h2 hq htn hfb hgb hz hze x.toNatClampNeg hk
  rw [hxe] at hZ
  obtain ⟨k1, k2, k3, k4⟩ := nm_AR_ok hG hf hg h1 h2 hq hfb hgb hcnt hres
  refine ⟨r, hp', px_C_of (N := mm_M_adds) rfl (Nat.le_of_ble_eq_true rfl) ?_, k1, k2, k3, k4⟩
  refine px_Z_its (pc1 := 1) (lv1 := [(0, .ref 69), (1, .int (Int32.ofNat tn)), (2, .long ch)]) (st1 := [.ref 69]) (hp1 := hp) 1 (fun _ _ _ _ => rfl) ?_
  refine px_q_virt (st := [.ref 69]) (len := 3) (idx := 185) (mi := mi_M_first) (n := 0) (a := 69) (ci := 9) (fs := vs) (N := mm_M_first) rfl rfl rfl h69 rfl (Nat.le_of_ble_eq_true rfl) (Nat.le_of_ble_eq_true rfl) rfl rfl c1 ?_
  refine px_Z_its (pc1 := 7) (lv1 := [(4, .long a), (0, .ref 69), (1, .int (Int32.ofNat tn)), (2, .long ch)]) (st1 := [.ref 69]) (hp1 := hp) 2 (fun _ _ _ _ => rfl) ?_
  refine px_q_virt (st := [.ref 69]) (len := 3) (idx := 193) (mi := mi_M_second) (n := 0) (a := 69) (ci := 9) (fs := vs) (N := mm_M_second) rfl rfl rfl h69 rfl (Nat.le_of_ble_eq_true rfl) (Nat.le_of_ble_eq_true rfl) rfl rfl c2 ?_
  refine px_Z_its (pc1 := 16) (lv1 := [(6, .long b), (4, .long a), (0, .ref 69), (1, .int (Int32.ofNat tn)), (2, .long ch)]) (st1 := [.long b, .long a]) (hp1 := hp) 3 (fun _ _ _ _ => rfl) ?_
  refine px_q_stat (st := [.long b, .long a]) (len := 3) (idx := 269) (mi := mi_M_placeOf) (n := 2) (z := 0) (N := mm_M_placeOf) rfl rfl rfl (Nat.le_of_ble_eq_true rfl) (Nat.le_of_ble_eq_true rfl) rfl rfl c3 ?_
  exact px_Z_its (pc1 := 21) (lv1 := [(8, .int x), (6, .long b), (4, .long a), (0, .ref 69), (1, .int (Int32.ofNat tn)), (2, .long ch)]) (st1 := []) (hp1 := hp) 1 (fun _ _ _ _ => rfl) hZ
theorem kp_M_adds_0 : nm_ok kc_M_adds_0 := by
  intro av hp hG hav hfl
  obtain ⟨v, w, u, rfl, hv, hw, hu⟩ := nm_arg3 hav
  obtain ⟨c, rfl, hc⟩ := ab_f2 hv
  cases List.mem_singleton.mp hc
  obtain ⟨x, rfl, hx⟩ := ab_f0 hw
  obtain ⟨ch, rfl, -⟩ := ab_f1 hu
  have hx2 : x = Int32.ofNat 2 := by
    have b0 := hx.1
    have b1 := hx.2
    simp only at b0 b1
    rw [← Int32.toInt_inj, nm_ofNat_toInt 2 (by omega)]
    omega
  subst hx2
  obtain ⟨r, hp', h1, h2, h3, h4, h5⟩ := nm_adds_C hG (tn := 2) (by decide) (hfl 2 (List.mem_singleton.mpr rfl)) ch
  refine ⟨r, hp', _, List.mem_cons_self, h1, h2, ?_, fun q hq => (by cases hq), fun i hi => (by cases List.mem_singleton.mp hi; exact h3), h4⟩
  rcases h5 with rfl | rfl
  · exact ⟨rfl, by decide, by decide⟩
  · exact ⟨rfl, by decide, by decide⟩
end mg_0

section mg_1
/-! keepsListed: what is kept is never more than what was looked at -/
def kk_B (rl : List (Nat × Int)) : ac_S := ([(3, ((0, 0, 3000, []), none)), (2, ((0, 0, 3000, []), none)), (0, ((2, 0, 0, [69]), none)), (1, ((0, 0, 5, []), some (2, 1, 0)))], [], [], [(-2147483648, 2147483647), (0, 5)], [], rl)
abbrev kk_run (fresh : Bool) (pc : Nat) (A : ac_S) : Option (List ac_Out × List (Nat × ac_S)) := ac_run nm_T nm_P nm_GH nm_FA [kc_M_satAt_0] [] kc_M_keepsListed_0.2.2.2.2.1 kc_M_keepsListed_0.2.2.2.2.2 20000 fresh [4] mi_M_keepsListed mm_M_keepsListed pc A
def kk_ok (p : ac_Out) : Bool := kc_M_keepsListed_0.2.2.2.1.any (ac_rok kc_M_keepsListed_0.2.1 p)
def kk_st (q : Nat × ac_S) : Bool :=
  Nat.beq q.1 4 && ((match px_find 3 q.2.2.2.2.2.2, px_find 2 q.2.2.2.2.2.2 with
    | some d3, some d2 => decide (d3 = 1) && (decide (0 ≤ d2) && decide (d2 ≤ 1))
    | _, _ => false) && ((match px_find 3 q.2.1 with
    | some ((0, _, hi, _), _) => decide (hi ≤ 3000)
    | _ => false) && ac_le nm_GH none (ac_refine nm_GH q.2 (some (0, 2, 0)) (0, 3000)) (kk_B [])))
def kk_lp : Bool := match kk_run true 4 (kk_B [(2, 0), (3, 0)]) with
  | some o => o.1.all kk_ok && o.2.all kk_st
  | none => false
def kk_en : Bool := match kk_run false 0 (ab_args 0 (ac_ini 0 kc_M_keepsListed_0.2.1), [], [], ac_gh kc_M_keepsListed_0.2.1, kc_M_keepsListed_0.2.2.1, []) with
  | some o => o.1.all kk_ok && o.2.all (fun q => Nat.beq q.1 4 && ((match px_find 3 q.2.1, px_find 2 q.2.1 with
    | some ((0, a1, _, _), _), some ((0, _, b2, _), _) => decide (b2 ≤ 0) && decide (0 ≤ a1)
    | _, _ => false) && ac_le nm_GH none q.2 (kk_B [])))
  | none => false
set_option maxRecDepth 1000000 in
theorem kk_lp_t : kk_lp = true := by decide +kernel
set_option maxRecDepth 1000000 in
theorem kk_en_t : kk_en = true := by decide +kernel
theorem kk_K : ∀ κ ∈ [kc_M_satAt_0], nm_ok κ := List.forall_mem_cons.mpr ⟨kp_M_satAt_0, fun _ h => absurd h List.not_mem_nil⟩
theorem kk_le {γ : Nat → Int} {xs : Nat → Int32} {A : ac_S} {lv : List (Nat × Value)} {st : List Value} {hp : px_H} (h : ac_le nm_GH none A (kk_B []) = true) (hA : ac_s nm_GH nm_Φ xs γ A lv st hp) (γ' : Nat → Int) : ac_s nm_GH nm_Φ xs γ' (kk_B []) lv st hp := by
  obtain ⟨γ2, -, h2, -⟩ := ac_le_ok h hA
  exact ⟨h2.1, h2.2.1, h2.2.2.1, h2.2.2.2.1, h2.2.2.2.2.1, h2.2.2.2.2.2.1, fun q hq => by cases hq⟩
theorem kk_loop {xs : Nat → Int32} : ∀ (m : Nat) (lv : List (Nat × Value)) (st : List Value) (hp : px_H) (n k : Int32), ac_s nm_GH nm_Φ xs (fun _ => 0) (kk_B []) lv st hp → px_find 2 lv = some (.int n) → px_find 3 lv = some (.int k) → n.toInt ≤ k.toInt → 3000 - k.toInt < m →
    ∃ outs, (∀ o ∈ outs, kk_ok o = true) ∧ ac_Fin nm_T none nm_P mm_M_keepsListed nm_GH nm_Φ kc_M_keepsListed_0.2.2.2.2.1 kc_M_keepsListed_0.2.2.2.2.2 xs (fun _ => 0) 4 lv st hp outs [] := by
  have hlp := kk_lp_t
  unfold kk_lp at hlp
  split at hlp
  rotate_left
  · cases hlp
  rename_i o ho
  simp only [Bool.and_eq_true, List.all_eq_true] at hlp
  intro m
  induction m with
  | zero =>
    intro lv st hp n k hB h2 h3 hnk hm
    obtain ⟨v, hv, hav⟩ := hB.1 3 ((0, 0, 3000, []), none) List.mem_cons_self
    rw [h3] at hv
    cases hv
    have := hav.1.2.2
    simp only at this
    omega
  | succ m ih =>
    intro lv st hp n k hB h2 h3 hnk hm
    have hB2 : ac_s nm_GH nm_Φ xs (fun j => if j = 2 then n.toInt else k.toInt) (kk_B [(2, 0), (3, 0)]) lv st hp := by
      refine ⟨hB.1, hB.2.1, hB.2.2.1, hB.2.2.2.1, hB.2.2.2.2.1, hB.2.2.2.2.2.1, fun q hq => ?_⟩
      simp only [kk_B, List.mem_cons, List.not_mem_nil, or_false] at hq
      rcases hq with rfl | rfl
      · exact ⟨n, h2, by simp⟩
      · exact ⟨k, h3, by simp⟩
    rcases ac_run_ok (xs := xs) nm_Fl nm_FG kk_K 20000 true [4] mi_M_keepsListed mm_M_keepsListed 4 _ o none _ lv st hp ho hB2 with ⟨r, hp', oc, m1, m2, m3, m4⟩ | ⟨pc', lv', st', hp', A', m1, m2, m3, m4⟩
    · exact ⟨o.1, hlp.1, Or.inl ⟨r, hp', oc, m1, m2, m3, m4⟩⟩
    · have hs := hlp.2 _ m1
      simp only [kk_st, Bool.and_eq_true] at hs
      obtain ⟨s1, s2, s3, s4⟩ := hs
      have s1 := Nat.eq_of_beq_eq_true s1
      try simp only at s1
      subst s1
      split at s2
      rotate_left
      · cases s2
      rename_i d3 d2 e3 e2
      simp only [Bool.and_eq_true, decide_eq_true_eq] at s2
      obtain ⟨n', f1, f2⟩ := m2.2.2.2.2.2.2 _ (px_find_mem e2)
      obtain ⟨k', g1, g2⟩ := m2.2.2.2.2.2.2 _ (px_find_mem e3)
      simp only at f1 f2 g1 g2
      simp only [if_true] at f2
      rw [if_neg (by decide)] at g2
      split at s3
      rotate_left
      · cases s3
      rename_i a1 hi rr oo hl3
      have s3 := of_decide_eq_true s3
      obtain ⟨v, hv, hav⟩ := m2.1 _ _ (px_find_mem hl3)
      rw [g1] at hv
      cases hv
      have hk' := hav.1.2.2
      simp only at hk'
      have hn' : 0 ≤ n.toInt := by
        obtain ⟨v, hv, hav⟩ := hB.1 2 ((0, 0, 3000, []), none) (List.mem_cons_of_mem _ List.mem_cons_self)
        rw [h2] at hv
        cases hv
        exact hav.1.2.1
      have hA2 := ac_refine_ok m2 (o := some (0, 2, 0)) (q := (0, 3000)) (fun l hl => by
        cases hl
        exact ⟨.int n', n'.toInt, f1, rfl, by simp only; omega, by simp only; omega⟩)
      obtain ⟨outs, h8, h9⟩ := ih lv' st' hp' n' k' (kk_le s4 hA2 _) f1 g1 (by omega) (by omega)
      exact ⟨outs, h8, ac_Fin_its m4 m3 h9 (fun _ h => h) (fun _ h => h)⟩
theorem kp_M_keepsListed_0 : nm_ok kc_M_keepsListed_0 := by
  intro av hp hG hgs hfl
  have hst : ab_st (ac_xs av) (lv_args 0 av) hp (ac_ini 0 kc_M_keepsListed_0.2.1) av := ac_ini_ok hgs (fun j => by rw [Nat.zero_add])
  obtain ⟨v, w, rfl, hv, hw⟩ := nm_arg2 hgs
  obtain ⟨c, rfl, hc⟩ := ab_f2 hv
  cases List.mem_singleton.mp hc
  obtain ⟨x, rfl, hx⟩ := ab_f0 hw
  have hxx : ab_x (ac_gh kc_M_keepsListed_0.2.1) (ac_xs [.ref 69, .int x]) := by
    intro j q hq
    match j, hq with
    | 0, hq => cases hq; exact ab_i32 _
    | 1, hq => cases hq; exact hx
    | j + 2, hq => simp [ac_gh, kc_M_keepsListed_0] at hq
  have fin : ∀ (r : Option Value) (hp' : px_H) (oc : ac_Out), kk_ok oc = true → ac_o' nm_GH nm_Φ (ac_xs [.ref 69, .int x]) oc r hp' → px_fr kc_M_keepsListed_0.2.2.2.2.1 kc_M_keepsListed_0.2.2.2.2.2 hp hp' → (∃ n0 k : Nat, ∀ n, n0 ≤ n → ∀ N0 nc ns : Nat, nc ≤ (px_rm mm_M_keepsListed).cells → ns ≤ (px_rm mm_M_keepsListed).slots → px_run nm_T none nm_P (px_call nm_T nm_P ab_nn n) mm_M_keepsListed N0 k (0, lv_args 0 [.ref 69, .int x], [], hp, nc, ns) = some (r, hp')) →
      ∃ (r : Option Value) (hp' : px_H) (o : Option ab_F × List (Nat × ab_B) × List Nat), o ∈ kc_M_keepsListed_0.2.2.2.1 ∧ px_C nm_T nm_P kc_M_keepsListed_0.1 [.ref 69, .int x] hp r hp' ∧ ab_h nm_GH hp' ∧ ac_rv o.1 r ∧ (∀ q ∈ o.2.1, ∃ v z, [Value.ref 69, .int x][q.1]? = some v ∧ ab_num v = some z ∧ ab_in q.2 z) ∧ (∀ i ∈ o.2.2, nm_Φ i hp') ∧ px_fr kc_M_keepsListed_0.2.2.2.2.1 kc_M_keepsListed_0.2.2.2.2.2 hp hp' := by
    intro r hp' oc hok m2 m3 hr
    obtain ⟨q, hq, hrok⟩ := List.any_eq_true.mp hok
    cases List.mem_singleton.mp hq
    refine ⟨r, hp', _, List.mem_cons_self, ab_call_ok (N := mm_M_keepsListed) rfl (Nat.le_of_ble_eq_true rfl) hr, m2.2.1, ?_, fun q hq => (by cases hq), fun i hi => (by cases hi), m3⟩
    have g1 := m2.1
    simp only [ac_rok, Bool.and_eq_true] at hrok
    cases h8 : oc.1 with
    | none =>
      rw [h8] at g1
      cases r with
      | none => trivial
      | some v => exact absurd g1 (by simp)
    | some a => rw [h8] at hrok; exact absurd hrok.1 (by simp)
  have hen := kk_en_t
  unfold kk_en at hen
  split at hen
  rotate_left
  · cases hen
  rename_i o ho
  simp only [Bool.and_eq_true, List.all_eq_true] at hen
  rcases ac_run_ok (xs := ac_xs [.ref 69, .int x]) nm_Fl nm_FG kk_K 20000 false [4] mi_M_keepsListed mm_M_keepsListed 0 _ o none (fun _ => 0) (lv_args 0 [.ref 69, .int x]) [] hp ho ⟨fun j a hm => ab_args_ok 0 hst j a hm, trivial, hG, fun q hq => (by cases hq), hxx, hfl, fun q hq => (by cases hq)⟩ with ⟨r, hp', oc, m1, m2, m3, m4⟩ | ⟨pc', lv', st', hp', A', m1, m2, m3, m4⟩
  · exact fin r hp' oc (hen.1 oc m1) m2 m3 m4
  · obtain ⟨q1, q2, q3⟩ := hen.2 _ m1
    have q1 := Nat.eq_of_beq_eq_true q1
    simp only at q1
    subst q1
    split at q2
    rotate_left
    · cases q2
    rename_i a1 a2 ar ao b1 b2 br bo e3 e2
    simp only [Bool.and_eq_true, decide_eq_true_eq] at q2
    obtain ⟨v3, hv3, hav3⟩ := m2.1 _ _ (px_find_mem e3)
    obtain ⟨v2, hv2, hav2⟩ := m2.1 _ _ (px_find_mem e2)
    obtain ⟨k, rfl, hk⟩ := ab_f0 hav3.1
    obtain ⟨n, rfl, hn⟩ := ab_f0 hav2.1
    have b0 := hk.1
    have b9 := hn.2
    simp only at b0 b9
    obtain ⟨outs, h8, h9⟩ := kk_loop 5000 lv' st' hp' n k (kk_le q3 m2 _) hv2 hv3 (by omega) (by omega)
    rcases ac_Fin_its m4 m3 h9 (fun _ h => h) (fun _ h => h) with ⟨r, hp2, oc, m1, m2, m3, hr⟩ | ⟨pc2, lv2, st2, hp2, A2, m1, -⟩
    · exact fin r hp2 oc (h8 oc m1) m2 m3 hr
    · cases m1
end mg_1

section mg_2
/-! run: what isOver answers -/
section nm_ru
variable {hp : px_H} {fs : List Value}
theorem nm_f (hG : ab_h nm_GH hp) (hx : hp[69]? = some (.inr (9, fs))) {k d : Nat} (h : ac_f1 nm_GH 9 k 69 = some (2, 0, 0, [d])) : fs[k]? = some (.ref d) := ac_refF hG h hx
theorem nm_ixR (d : Int32) (n : Nat) (h0 : 0 ≤ d.toInt) (h1 : d.toInt < n) : px_inR d n = true := by
  simp only [px_inR, Bool.and_eq_true, decide_eq_true_eq]
  exact ⟨h0, h1⟩
theorem nm_over (hG : ab_h nm_GH hp) (hx : hp[69]? = some (.inr (9, fs))) {gB gO gS : Nat → Int32} {sv d bo : Int32} (hB : hp[na_inBag]? = some (.inl (nr_inBag, 2, .inl gB))) (hO : hp[na_bagOf]? = some (.inl (nr_bagOf, 6, .inl gO))) (hS : hp[na_seatsOf]? = some (.inl (nr_seatsOf, 6, .inl gS))) (hs : fs[nf_sitting]? = some (.int sv)) (d0 : 0 ≤ d.toInt) (d5 : d.toInt ≤ 5) (hbo : gO d.toNatClampNeg = bo) (b0 : 0 ≤ bo.toInt) (b1 : bo.toInt ≤ 1) :
    ∃ r : Int32, px_C nm_T nm_P mi_M_isOver [.ref 69, .int d] hp (some (.int r)) hp ∧ (r = 0 ∨ r = 1) ∧ (r = 0 → gB bo.toNatClampNeg ≠ 0 ∧ nm_bc sv ≠ gS d.toNatClampNeg) := by
  have iO : px_inR d 6 = true := nm_ixR d 6 d0 (by omega)
  have iB : px_inR bo 2 = true := nm_ixR bo 2 b0 (by omega)
  have head : ∀ r : Int32, px_Z nm_T none nm_P mm_M_isOver 11 [(0, .ref 69), (1, .int d)] [.int (gB bo.toNatClampNeg)] hp (some (.int r)) hp → px_C nm_T nm_P mi_M_isOver [.ref 69, .int d] hp (some (.int r)) hp := by
    intro r h
    refine px_C_of (N := mm_M_isOver) rfl (Nat.le_of_ble_eq_true rfl) ?_
    refine px_Z_its (pc1 := 1) (lv1 := [(0, .ref 69), (1, .int d)]) (st1 := [.ref 69]) (hp1 := hp) 1 (fun _ _ _ _ => rfl) ?_
    refine px_q_get (len := 3) (ci := 9) (k := nf_inBag) (fs := fs) (v := .ref na_inBag) rfl rfl hx (nm_f hG hx rfl) ?_
    refine px_Z_its (pc1 := 5) (lv1 := [(0, .ref 69), (1, .int d)]) (st1 := [.ref 69, .ref na_inBag]) (hp1 := hp) 1 (fun _ _ _ _ => rfl) ?_
    refine px_q_get (len := 3) (ci := 9) (k := nf_bagOf) (fs := fs) (v := .ref na_bagOf) rfl rfl hx (nm_f hG hx rfl) ?_
    refine px_Z_its (pc1 := 9) (lv1 := [(0, .ref 69), (1, .int d)]) (st1 := [.int d, .ref na_bagOf, .ref na_inBag]) (hp1 := hp) 1 (fun _ _ _ _ => rfl) ?_
    refine px_q_iald (len := 1) rfl hO rfl iO ?_
    rw [hbo]
    refine px_q_iald (len := 1) rfl hB rfl iB ?_
    exact h
  have one : px_Z nm_T none nm_P mm_M_isOver 30 [(0, .ref 69), (1, .int d)] [] hp (some (.int 1)) hp := by
    refine px_Z_its (pc1 := 35) (lv1 := [(0, .ref 69), (1, .int d)]) (st1 := [.int 1]) (hp1 := hp) 2 (fun _ _ _ _ => rfl) ?_
    exact px_q_iret (len := 1) (ty := .boolean) rfl rfl rfl
  by_cases hw : gB bo.toNatClampNeg = 0
  · refine ⟨1, head 1 ?_, Or.inr rfl, fun h => absurd h (by decide)⟩
    exact px_q_if (bb := true) (len := 3) (c := .eq) (off := 19) rfl (by simp only [px_cmp, hw, decide_true]) one
  · have mid : ∀ r : Int32, px_Z nm_T none nm_P mm_M_isOver 27 [(0, .ref 69), (1, .int d)] [.int (gS d.toNatClampNeg), .int (nm_bc sv)] hp (some (.int r)) hp → px_C nm_T nm_P mi_M_isOver [.ref 69, .int d] hp (some (.int r)) hp := by
      intro r h
      refine head r ?_
      refine px_q_if (bb := false) (len := 3) (c := .eq) (off := 19) rfl (by simp only [px_cmp, hw, decide_false]) ?_
      refine px_Z_its (pc1 := 15) (lv1 := [(0, .ref 69), (1, .int d)]) (st1 := [.ref 69]) (hp1 := hp) 1 (fun _ _ _ _ => rfl) ?_
      refine px_q_get (len := 3) (ci := 9) (k := nf_sitting) (fs := fs) (v := .int sv) rfl rfl hx hs ?_
      refine px_q_stat (len := 3) (n := 1) (N := mm_I_bitCount) (mi := mi_I_bitCount) rfl rfl rfl (Nat.le_of_ble_eq_true rfl) (Nat.le_of_ble_eq_true rfl) rfl rfl (nm_bc_C sv hp) ?_
      refine px_Z_its (pc1 := 22) (lv1 := [(0, .ref 69), (1, .int d)]) (st1 := [.ref 69, .int (nm_bc sv)]) (hp1 := hp) 1 (fun _ _ _ _ => rfl) ?_
      refine px_q_get (len := 3) (ci := 9) (k := nf_seatsOf) (fs := fs) (v := .ref na_seatsOf) rfl rfl hx (nm_f hG hx rfl) ?_
      refine px_Z_its (pc1 := 26) (lv1 := [(0, .ref 69), (1, .int d)]) (st1 := [.int d, .ref na_seatsOf, .int (nm_bc sv)]) (hp1 := hp) 1 (fun _ _ _ _ => rfl) ?_
      refine px_q_iald (len := 1) rfl hS rfl iO ?_
      exact h
    by_cases hc : nm_bc sv = gS d.toNatClampNeg
    · refine ⟨1, mid 1 ?_, Or.inr rfl, fun h => absurd h (by decide)⟩
      exact px_q_icmp (bb := false) (len := 3) (c := .ne) (off := 7) rfl (by simp [px_cmp, hc]) one
    · refine ⟨0, mid 0 ?_, Or.inl rfl, fun _ => ⟨hw, hc⟩⟩
      refine px_q_icmp (bb := true) (len := 3) (c := .ne) (off := 7) rfl (by simp [px_cmp, hc]) ?_
      refine px_Z_its (pc1 := 35) (lv1 := [(0, .ref 69), (1, .int d)]) (st1 := [.int 0]) (hp1 := hp) 1 (fun _ _ _ _ => rfl) ?_
      exact px_q_iret (len := 1) (ty := .boolean) rfl rfl rfl
end nm_ru
end mg_2
