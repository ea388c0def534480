/-! the contract of adds -/
theorem nm_cnt_slot {f : Nat → Int32} {lo : Nat} : ∀ {n : Nat}, nm_cnt f lo n < n → ∃ z, z < n ∧ (f (lo + z)).toInt < 0 := by
  intro n
  induction n with
  | zero => intro h; cases h
  | succ n ih =>
    intro h
    by_cases h0 : 0 ≤ (f (lo + n)).toInt
    · unfold nm_cnt at h
      rw [if_pos h0] at h
      obtain ⟨z, h1, h2⟩ := ih (by omega)
      exact ⟨z, by omega, h2⟩
    · exact ⟨n, by omega, by omega⟩
theorem nm_cnt_upd (f : Nat → Int32) (lo k : Nat) (v : Int32) : ∀ n : Nat, nm_cnt (upd f (lo + k) v) lo n ≤ nm_cnt f lo n + 1 ∧ (n ≤ k → nm_cnt (upd f (lo + k) v) lo n = nm_cnt f lo n) := by
  intro n
  induction n with
  | zero => exact ⟨by unfold nm_cnt; omega, fun _ => rfl⟩
  | succ n ih =>
    unfold nm_cnt
    by_cases hnk : n = k
    · subst hnk
      have e := ih.2 (Nat.le_refl _)
      refine ⟨?_, fun h => by omega⟩
      rw [e]
      split <;> split <;> omega
    · have hu : upd f (lo + k) v (lo + n) = f (lo + n) := by
        unfold upd
        rw [if_neg (by omega)]
      rw [hu]
      refine ⟨by have := ih.1; split <;> omega, fun h => by rw [ih.2 (by omega)]⟩
theorem nm_bI (lo hi : Int) (x : Int32) (h1 : lo ≤ x.toInt) (h2 : x.toInt ≤ hi) (r : List Nat) : ab_f (0, lo, hi, r) (.int x) := ⟨rfl, h1, h2⟩
theorem nm_bL (x : Int64) : ab_f (1, -9223372036854775808, 9223372036854775807, []) (.long x) := ⟨rfl, (ab_i64 x).1, (ab_i64 x).2⟩
section nm_a1
variable {hp : px_H}
/-- an array of longs set anew -/
theorem nm_hL (hG : ab_h nm_GH hp) {c t n j : Nat} {o : Nat → Int64} {v : Int64} (hx : hp[c]? = some (.inl (t, n, .inr (.inl o)))) (hc : nm_GH[c]? = some (.inr (t, n, (1, -9223372036854775808, 9223372036854775807, [])))) : ab_h nm_GH (hp.set c (.inl (t, n, .inr (.inl (vp_updL o j v))))) :=
  ac_h_arr hG hx hc ⟨rfl, rfl, fun i hi => nm_bL _⟩
theorem nm_hI (hG : ab_h nm_GH hp) {c t n j : Nat} {o : Nat → Int32} {v : Int32} {lo hi : Int} {r : List Nat} (hx : hp[c]? = some (.inl (t, n, .inl o))) (hc : nm_GH[c]? = some (.inr (t, n, (0, lo, hi, r)))) (ho : ∀ i, i < n → lo ≤ (o i).toInt ∧ (o i).toInt ≤ hi) (h1 : lo ≤ v.toInt) (h2 : v.toInt ≤ hi) : ab_h nm_GH (hp.set c (.inl (t, n, .inl (upd o j v)))) := by
  refine ac_h_arr hG hx hc ⟨rfl, rfl, fun i hi => ?_⟩
  simp only [upd]
  split
  · exact nm_bI _ _ _ h1 h2 _
  · exact nm_bI _ _ _ (ho i hi).1 (ho i hi).2 _
end nm_a1
/-- what adds comes to keeps the bounds, and the hash's count -/
theorem nm_AR_ok {hp hp' : px_H} {f g : Nat → Int32} {o1 o2 pt : Nat → Int64} {tn : Nat} {a b ch : Int64} {r : Option Value} (hG : ab_h nm_GH hp) (hh : hp[na_hash]? = some (.inl (nr_hash, 24576, .inl f))) (hs : hp[na_size]? = some (.inl (nr_size, 3, .inl g))) (h1 : hp[na_one]? = some (.inl (nr_one, 9003, .inr (.inl o1)))) (h2 : hp[na_other]? = some (.inl (nr_other, 9003, .inr (.inl o2)))) (hq : hp[na_part]? = some (.inl (nr_part, 9003, .inr (.inl pt))))
    (hfb : ∀ j, j < 24576 → -1 ≤ (f j).toInt ∧ (f j).toInt ≤ 2999) (hgb : ∀ j, j < 3 → 0 ≤ (g j).toInt ∧ (g j).toInt ≤ 3000) (hc : (nm_cnt f (tn * 8192) 8192 : Int) ≤ (g tn).toInt) (h : nm_AR hp f g o1 o2 pt tn a b ch r hp') :
    ab_h nm_GH hp' ∧ nm_HI tn hp' ∧ px_fr [] [na_one, na_other, na_part, na_size, na_hash] hp hp' ∧ (r = some (.int (Int32.ofInt 1)) ∨ r = some (.int (Int32.ofInt 0))) := by
  rcases h with ⟨e, he, e1, e2, rfl, rfl⟩ | ⟨hg3, rfl, rfl⟩ | ⟨k, e, hk, hneg, hge, he, rfl, rfl⟩
  · refine ⟨nm_hL hG hq rfl, ⟨nr_hash, nr_size, f, g, ?_, ?_, hc⟩, px_fr_arr hq (by decide), Or.inl rfl⟩
    · exact (List.getElem?_set_ne (by decide)).trans hh
    · exact (List.getElem?_set_ne (by decide)).trans hs
  · exact ⟨hG, ⟨nr_hash, nr_size, f, g, hh, hs, hc⟩, px_fr_rf _ _ _, Or.inr rfl⟩
  · have k1 := nm_hI hG (j := tn * 8192 + k) (v := Int32.ofNat e) hh rfl hfb (by rw [nm_ofNat_toInt e (by omega)]; omega) (by rw [nm_ofNat_toInt e (by omega)]; omega)
    have l1 : (hp.set na_hash (.inl (nr_hash, 24576, .inl (upd f (tn * 8192 + k) (Int32.ofNat e)))))[na_one]? = some (.inl (nr_one, 9003, .inr (.inl o1))) := (List.getElem?_set_ne (by decide)).trans h1
    have k2 := nm_hL k1 (j := tn * 3001 + e) (v := a) l1 rfl
    have l2 := (List.getElem?_set_ne (l := hp.set na_hash (.inl (nr_hash, 24576, .inl (upd f (tn * 8192 + k) (Int32.ofNat e))))) (i := na_one) (j := na_other) (a := .inl (nr_one, 9003, .inr (.inl (vp_updL o1 (tn * 3001 + e) a)))) (by decide)).trans ((List.getElem?_set_ne (by decide)).trans h2)
    have k3 := nm_hL k2 (j := tn * 3001 + e) (v := b) l2 rfl
    have l3 := (List.getElem?_set_ne (l := (hp.set na_hash (.inl (nr_hash, 24576, .inl (upd f (tn * 8192 + k) (Int32.ofNat e))))).set na_one (.inl (nr_one, 9003, .inr (.inl (vp_updL o1 (tn * 3001 + e) a))))) (i := na_other) (j := na_part) (a := .inl (nr_other, 9003, .inr (.inl (vp_updL o2 (tn * 3001 + e) b)))) (by decide)).trans ((List.getElem?_set_ne (by decide)).trans ((List.getElem?_set_ne (by decide)).trans hq))
    have k4 := nm_hL k3 (j := tn * 3001 + e) (v := ch) l3 rfl
    have l4 := (List.getElem?_set_ne (l := ((hp.set na_hash (.inl (nr_hash, 24576, .inl (upd f (tn * 8192 + k) (Int32.ofNat e))))).set na_one (.inl (nr_one, 9003, .inr (.inl (vp_updL o1 (tn * 3001 + e) a))))).set na_other (.inl (nr_other, 9003, .inr (.inl (vp_updL o2 (tn * 3001 + e) b))))) (i := na_part) (j := na_size) (a := .inl (nr_part, 9003, .inr (.inl (vp_updL pt (tn * 3001 + e) ch)))) (by decide)).trans ((List.getElem?_set_ne (by decide)).trans ((List.getElem?_set_ne (by decide)).trans ((List.getElem?_set_ne (by decide)).trans hs)))
    have he1 : Int32.ofNat e + Int32.ofInt 1 = Int32.ofNat (e + 1) := by rw [Int32.ofNat_add]; rfl
    have k5 := nm_hI k4 (j := tn) (v := Int32.ofNat e + Int32.ofInt 1) l4 rfl hgb (by rw [he1, nm_ofNat_toInt (e + 1) (by omega)]; omega) (by rw [he1, nm_ofNat_toInt (e + 1) (by omega)]; omega)
    refine ⟨k5, ⟨nr_hash, nr_size, upd f (tn * 8192 + k) (Int32.ofNat e), upd g tn (Int32.ofNat e + Int32.ofInt 1), ?_, ?_, ?_⟩, ?_, Or.inl rfl⟩
    · exact (List.getElem?_set_ne (by decide)).trans ((List.getElem?_set_ne (by decide)).trans ((List.getElem?_set_ne (by decide)).trans ((List.getElem?_set_ne (by decide)).trans (List.getElem?_set_self (List.getElem?_eq_some_iff.mp hh).1))))
    · exact List.getElem?_set_self (by simp only [List.length_set]; exact (List.getElem?_eq_some_iff.mp hs).1)
    · have h9 := (nm_cnt_upd f (tn * 8192) k (Int32.ofNat e) 8192).1
      have h8 : upd g tn (Int32.ofNat e + Int32.ofInt 1) tn = Int32.ofNat (e + 1) := by unfold upd; rw [if_pos rfl, he1]
      rw [h8, nm_ofNat_toInt (e + 1) (by omega)]
      rw [hge, nm_ofNat_toInt e (by omega)] at hc
      omega
    · exact px_fr_tr (px_fr_arr hh (by decide)) (px_fr_tr (px_fr_arr l1 (by decide)) (px_fr_tr (px_fr_arr l2 (by decide)) (px_fr_tr (px_fr_arr l3 (by decide)) (px_fr_arr l4 (by decide)))))
theorem nm_pure {κ : ac_K} (hκ : nm_ok κ) (hw : κ.2.2.2.2.1 = []) (ha : κ.2.2.2.2.2 = []) (hpre : κ.2.2.1 = []) {av : List Value} {hp : px_H} (hG : ab_h nm_GH hp) (hav : ac_argv κ.2.1 av) : ∃ r o, o ∈ κ.2.2.2.1 ∧ px_C nm_T nm_P κ.1 av hp r hp ∧ ac_rv o.1 r := by
  obtain ⟨r, hp', o, m1, m2, m3, m4, -, -, m7⟩ := hκ av hp hG hav (fun i hi => by rw [hpre] at hi; cases hi)
  rw [hw, ha] at m7
  have := px_fr_nil hG m3 m7
  subst this
  exact ⟨r, o, m1, m2, m4⟩
theorem nm_rv1 {r : Option Value} {lo hi : Int} {c : List Nat} (h : ac_rv (some (1, lo, hi, c)) r) : ∃ x : Int64, r = some (.long x) := by
  cases r with
  | none => exact absurd h (by simp [ac_rv])
  | some v => obtain ⟨x, rfl, -⟩ := ab_f1 h; exact ⟨x, rfl⟩
theorem nm_rv0 {r : Option Value} {lo hi : Int} {c : List Nat} (h : ac_rv (some (0, lo, hi, c)) r) : ∃ x : Int32, r = some (.int x) ∧ lo ≤ x.toInt ∧ x.toInt ≤ hi := by
  cases r with
  | none => exact absurd h (by simp [ac_rv])
  | some v => obtain ⟨x, rfl, hx⟩ := ab_f0 h; exact ⟨x, rfl, hx⟩
set_option maxRecDepth 100000 in
/-- adds from its entry, any table -/
theorem nm_adds_C {hp : px_H} (hG : ab_h nm_GH hp) {tn : Nat} (htn : tn ≤ 2) (hi : nm_HI tn hp) (ch : Int64) :
    ∃ r hp', px_C nm_T nm_P mi_M_adds [.ref 69, .int (Int32.ofNat tn), .long ch] hp r hp' ∧ ab_h nm_GH hp' ∧ nm_HI tn hp' ∧ px_fr [] [na_one, na_other, na_part, na_size, na_hash] hp hp' ∧ (r = some (.int (Int32.ofInt 1)) ∨ r = some (.int (Int32.ofInt 0))) := by
  obtain ⟨vs, h69, hrf⟩ := nm_mod hG
  obtain ⟨f, hf, hfb⟩ := ac_arrI hG (c := na_hash) (by decide) rfl
  obtain ⟨g, hg, hgb⟩ := ac_arrI hG (c := na_size) (by decide) rfl
  obtain ⟨o1, h1, -⟩ := ac_arrL hG (c := na_one) (by decide) rfl
  obtain ⟨o2, h2, -⟩ := ac_arrL hG (c := na_other) (by decide) rfl
  obtain ⟨pt, hq, -⟩ := ac_arrL hG (c := na_part) (by decide) rfl
  obtain ⟨th, ts, f', g', e1, e2, hcnt⟩ := hi
  rw [hf] at e1
  rw [hg] at e2
  cases e1
  cases e2
  have hgt := hgb tn (by omega)
  obtain ⟨z, hz, hze⟩ := nm_cnt_slot (f := f) (lo := tn * 8192) (n := 8192) (by omega)
  obtain ⟨r1, q1, m1, c1, v1⟩ := nm_pure kp_M_first_0 rfl rfl rfl hG (av := [.ref 69]) ⟨⟨rfl, List.mem_singleton.mpr rfl⟩, trivial⟩
  obtain ⟨r2, q2, m2, c2, v2⟩ := nm_pure kp_M_second_0 rfl rfl rfl hG (av := [.ref 69]) ⟨⟨rfl, List.mem_singleton.mpr rfl⟩, trivial⟩
  cases List.mem_singleton.mp m1
  cases List.mem_singleton.mp m2
  obtain ⟨a, rfl⟩ := nm_rv1 v1
  obtain ⟨b, rfl⟩ := nm_rv1 v2
  obtain ⟨r3, q3, m3, c3, v3⟩ := nm_pure kp_M_placeOf_0 rfl rfl rfl hG (av := [.long a, .long b]) ⟨nm_bL a, nm_bL b, trivial⟩
  cases List.mem_singleton.mp m3
  obtain ⟨x, rfl, hx1, hx2⟩ := nm_rv0 v3
  have hxe := nm_ofC x hx1
  have hk : x.toNatClampNeg < 8192 := by unfold Int32.toNatClampNeg; omega
  obtain ⟨r, hp', hZ, hres⟩ := nm_adds_l0 (a := a) (b := b) (ch := ch) h69 hrf hf hg h1 h2 hq htn hfb hgb hz hze x.toNatClampNeg hk
  rw [hxe] at hZ
  obtain ⟨k1, k2, k3, k4⟩ := nm_AR_ok hG hf hg h1 h2 hq hfb hgb hcnt hres
  refine ⟨r, hp', px_C_of (N := mm_M_adds) rfl (Nat.le_of_ble_eq_true rfl) ?_, k1, k2, k3, k4⟩
  refine px_Z_its (pc1 := 1) (lv1 := [(0, .ref 69), (1, .int (Int32.ofNat tn)), (2, .long ch)]) (st1 := [.ref 69]) (hp1 := hp) 1 (fun _ _ _ _ => rfl) ?_
  refine px_q_virt (st := [.ref 69]) (len := 3) (idx := 185) (mi := mi_M_first) (n := 0) (a := 69) (ci := 9) (fs := vs) (N := mm_M_first) rfl rfl rfl h69 rfl (Nat.le_of_ble_eq_true rfl) (Nat.le_of_ble_eq_true rfl) rfl rfl c1 ?_
  refine px_Z_its (pc1 := 7) (lv1 := [(4, .long a), (0, .ref 69), (1, .int (Int32.ofNat tn)), (2, .long ch)]) (st1 := [.ref 69]) (hp1 := hp) 2 (fun _ _ _ _ => rfl) ?_
  refine px_q_virt (st := [.ref 69]) (len := 3) (idx := 193) (mi := mi_M_second) (n := 0) (a := 69) (ci := 9) (fs := vs) (N := mm_M_second) rfl rfl rfl h69 rfl (Nat.le_of_ble_eq_true rfl) (Nat.le_of_ble_eq_true rfl) rfl rfl c2 ?_
  refine px_Z_its (pc1 := 16) (lv1 := [(6, .long b), (4, .long a), (0, .ref 69), (1, .int (Int32.ofNat tn)), (2, .long ch)]) (st1 := [.long b, .long a]) (hp1 := hp) 3 (fun _ _ _ _ => rfl) ?_
  refine px_q_stat (st := [.long b, .long a]) (len := 3) (idx := 269) (mi := mi_M_placeOf) (n := 2) (z := 0) (N := mm_M_placeOf) rfl rfl rfl (Nat.le_of_ble_eq_true rfl) (Nat.le_of_ble_eq_true rfl) rfl rfl c3 ?_
  exact px_Z_its (pc1 := 21) (lv1 := [(8, .int x), (6, .long b), (4, .long a), (0, .ref 69), (1, .int (Int32.ofNat tn)), (2, .long ch)]) (st1 := []) (hp1 := hp) 1 (fun _ _ _ _ => rfl) hZ
theorem kp_M_adds_0 : nm_ok kc_M_adds_0 := by
  intro av hp hG hav hfl
  obtain ⟨v, w, u, rfl, hv, hw, hu⟩ := nm_arg3 hav
  obtain ⟨c, rfl, hc⟩ := ab_f2 hv
  cases List.mem_singleton.mp hc
  obtain ⟨x, rfl, hx⟩ := ab_f0 hw
  obtain ⟨ch, rfl, -⟩ := ab_f1 hu
  have hx2 : x = Int32.ofNat 2 := by
    have b0 := hx.1
    have b1 := hx.2
    simp only at b0 b1
    rw [← Int32.toInt_inj, nm_ofNat_toInt 2 (by omega)]
    omega
  subst hx2
  obtain ⟨r, hp', h1, h2, h3, h4, h5⟩ := nm_adds_C hG (tn := 2) (by decide) (hfl 2 (List.mem_singleton.mpr rfl)) ch
  refine ⟨r, hp', _, List.mem_cons_self, h1, h2, ?_, fun q hq => (by cases hq), fun i hi => (by cases List.mem_singleton.mp hi; exact h3), h4⟩
  rcases h5 with rfl | rfl
  · exact ⟨rfl, by decide, by decide⟩
  · exact ⟨rfl, by decide, by decide⟩
