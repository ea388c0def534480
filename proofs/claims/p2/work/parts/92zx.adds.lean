/-! adds once more: what is laid down, exactly -/
set_option maxRecDepth 100000 in
theorem nm_adds_A {hp : px_H} (hG : ab_h nm_GH hp) {tn : Nat} (htn : tn ≤ 2) (hi : nm_HI tn hp) (ch : Int64) {fs : List Value} (hx9 : hp[69]? = some (.inr (9, fs))) {gB gA : Nat → Int32} {pb sv : Int32} (hB : hp[na_inBag]? = some (.inl (nr_inBag, 2, .inl gB))) (hA : hp[na_aside]? = some (.inl (nr_aside, 2, .inl gA))) (hpb : fs[nf_putBy]? = some (.int pb)) (hsv : fs[nf_sitting]? = some (.int sv)) :
    ∃ (r : Option Value) (hp' : px_H) (f g : Nat → Int32) (o1 o2 pt : Nat → Int64) (b : Int64), px_C nm_T nm_P mi_M_adds [.ref 69, .int (Int32.ofNat tn), .long ch] hp r hp' ∧ ab_h nm_GH hp' ∧ nm_HI tn hp' ∧ px_fr [] [na_one, na_other, na_part, na_size, na_hash] hp hp' ∧ (r = some (.int (Int32.ofInt 1)) ∨ r = some (.int (Int32.ofInt 0))) ∧
      hp[na_hash]? = some (.inl (nr_hash, 24576, .inl f)) ∧ hp[na_size]? = some (.inl (nr_size, 3, .inl g)) ∧ hp[na_one]? = some (.inl (nr_one, 9003, .inr (.inl o1))) ∧ (∀ j, j < 3 → 0 ≤ (g j).toInt ∧ (g j).toInt ≤ 3000) ∧ nm_AR hp f g o1 o2 pt tn (nm_fst (gB 0) (gB 1) (gA 0) (gA 1) pb sv) b ch r hp' := by
  obtain ⟨vs, h69, hrf⟩ := nm_mod hG
  obtain ⟨f, hf, hfb⟩ := ac_arrI hG (c := na_hash) (by decide) rfl
  obtain ⟨g, hg, hgb⟩ := ac_arrI hG (c := na_size) (by decide) rfl
  obtain ⟨o1, h1, -⟩ := ac_arrL hG (c := na_one) (by decide) rfl
  obtain ⟨o2, h2, -⟩ := ac_arrL hG (c := na_other) (by decide) rfl
  obtain ⟨pt, hq, -⟩ := ac_arrL hG (c := na_part) (by decide) rfl
  obtain ⟨th, ts, f', g', e1, e2, hcnt⟩ := hi
  rw [hf] at e1
  rw [hg] at e2
  cases e1
  cases e2
  have hgt := hgb tn (by omega)
  obtain ⟨z, hz, hze⟩ := nm_cnt_slot (f := f) (lo := tn * 8192) (n := 8192) (by omega)
  obtain ⟨r1, q1, m1, c1, v1⟩ := nm_pure kp_M_first_0 rfl rfl rfl hG (av := [.ref 69]) ⟨⟨rfl, List.mem_singleton.mpr rfl⟩, trivial⟩
  obtain ⟨r2, q2, m2, c2, v2⟩ := nm_pure kp_M_second_0 rfl rfl rfl hG (av := [.ref 69]) ⟨⟨rfl, List.mem_singleton.mpr rfl⟩, trivial⟩
  cases List.mem_singleton.mp m1
  cases List.mem_singleton.mp m2
  obtain ⟨a, rfl⟩ := nm_rv1 v1
  have ea := (px_C_fun c1 (nm_first_C hG hx9 hB hA hpb hsv)).1
  simp only [Option.some.injEq, Value.long.injEq] at ea
  obtain ⟨b, rfl⟩ := nm_rv1 v2
  obtain ⟨r3, q3, m3, c3, v3⟩ := nm_pure kp_M_placeOf_0 rfl rfl rfl hG (av := [.long a, .long b]) ⟨nm_bL a, nm_bL b, trivial⟩
  cases List.mem_singleton.mp m3
  obtain ⟨x, rfl, hx1, hx2⟩ := nm_rv0 v3
  have hxe := nm_ofC x hx1
  have hk : x.toNatClampNeg < 8192 := by unfold Int32.toNatClampNeg; omega
  obtain ⟨r, hp', hZ, hres⟩ := nm_adds_l0 (a := a) (b := b) (ch := ch) h69 hrf hf hg h1 h2 hq htn hfb hgb hz hze x.toNatClampNeg hk
  rw [hxe] at hZ
  obtain ⟨k1, k2, k3, k4⟩ := nm_AR_ok hG hf hg h1 h2 hq hfb hgb hcnt hres
  refine ⟨r, hp', f, g, o1, o2, pt, b, px_C_of (N := mm_M_adds) rfl (Nat.le_of_ble_eq_true rfl) ?_, k1, k2, k3, k4, hf, hg, h1, hgb, ea ▸ hres⟩
  refine px_Z_its (pc1 := 1) (lv1 := [(0, .ref 69), (1, .int (Int32.ofNat tn)), (2, .long ch)]) (st1 := [.ref 69]) (hp1 := hp) 1 (fun _ _ _ _ => rfl) ?_
  refine px_q_virt (st := [.ref 69]) (len := 3) (idx := 185) (mi := mi_M_first) (n := 0) (a := 69) (ci := 9) (fs := vs) (N := mm_M_first) rfl rfl rfl h69 rfl (Nat.le_of_ble_eq_true rfl) (Nat.le_of_ble_eq_true rfl) rfl rfl c1 ?_
  refine px_Z_its (pc1 := 7) (lv1 := [(4, .long a), (0, .ref 69), (1, .int (Int32.ofNat tn)), (2, .long ch)]) (st1 := [.ref 69]) (hp1 := hp) 2 (fun _ _ _ _ => rfl) ?_
  refine px_q_virt (st := [.ref 69]) (len := 3) (idx := 193) (mi := mi_M_second) (n := 0) (a := 69) (ci := 9) (fs := vs) (N := mm_M_second) rfl rfl rfl h69 rfl (Nat.le_of_ble_eq_true rfl) (Nat.le_of_ble_eq_true rfl) rfl rfl c2 ?_
  refine px_Z_its (pc1 := 16) (lv1 := [(6, .long b), (4, .long a), (0, .ref 69), (1, .int (Int32.ofNat tn)), (2, .long ch)]) (st1 := [.long b, .long a]) (hp1 := hp) 3 (fun _ _ _ _ => rfl) ?_
  refine px_q_stat (st := [.long b, .long a]) (len := 3) (idx := 269) (mi := mi_M_placeOf) (n := 2) (z := 0) (N := mm_M_placeOf) rfl rfl rfl (Nat.le_of_ble_eq_true rfl) (Nat.le_of_ble_eq_true rfl) rfl rfl c3 ?_
  exact px_Z_its (pc1 := 21) (lv1 := [(8, .int x), (6, .long b), (4, .long a), (0, .ref 69), (1, .int (Int32.ofNat tn)), (2, .long ch)]) (st1 := []) (hp1 := hp) 1 (fun _ _ _ _ => rfl) hZ
