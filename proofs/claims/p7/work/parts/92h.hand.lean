/-! contracts by hand: bitCount, empties -/
def nm_us (x : Int32) (k : Int32) : Int32 := (x.toUInt32 >>> (k.toUInt32 &&& Int32.toUInt32 31)).toInt32
def nm_bc1 (x : Int32) : Int32 := x - (nm_us x (Int32.ofInt 1) &&& Int32.ofInt 1431655765)
def nm_bc2 (x : Int32) : Int32 := (x &&& Int32.ofInt 858993459) + (nm_us x (Int32.ofInt 2) &&& Int32.ofInt 858993459)
def nm_bc3 (x : Int32) : Int32 := (x + nm_us x (Int32.ofInt 4)) &&& Int32.ofInt 252645135
def nm_bc4 (x : Int32) : Int32 := x + nm_us x (Int8.ofInt 8).toInt32
def nm_bc5 (x : Int32) : Int32 := x + nm_us x (Int8.ofInt 16).toInt32
/-- what Integer.bitCount answers -/
def nm_bc (x : Int32) : Int32 := nm_bc5 (nm_bc4 (nm_bc3 (nm_bc2 (nm_bc1 x)))) &&& (Int8.ofInt 63).toInt32
set_option maxRecDepth 100000 in
theorem nm_bc_C (x : Int32) (hp : px_H) : px_C nm_T nm_P mi_I_bitCount [.int x] hp (some (.int (nm_bc x))) hp := by
  refine px_C_of (N := mm_I_bitCount) rfl (Nat.le_of_ble_eq_true rfl) ?_
  refine px_Z_its (pc1 := 10) (lv1 := [(0, .int (nm_bc1 x))]) (st1 := []) (hp1 := hp) 8 (fun _ _ _ _ => rfl) ?_
  refine px_Z_its (pc1 := 24) (lv1 := [(0, .int (nm_bc2 (nm_bc1 x)))]) (st1 := []) (hp1 := hp) 10 (fun _ _ _ _ => rfl) ?_
  refine px_Z_its (pc1 := 34) (lv1 := [(0, .int (nm_bc3 (nm_bc2 (nm_bc1 x))))]) (st1 := []) (hp1 := hp) 8 (fun _ _ _ _ => rfl) ?_
  refine px_Z_its (pc1 := 41) (lv1 := [(0, .int (nm_bc4 (nm_bc3 (nm_bc2 (nm_bc1 x)))))]) (st1 := []) (hp1 := hp) 6 (fun _ _ _ _ => rfl) ?_
  refine px_Z_its (pc1 := 48) (lv1 := [(0, .int (nm_bc5 (nm_bc4 (nm_bc3 (nm_bc2 (nm_bc1 x))))))]) (st1 := []) (hp1 := hp) 6 (fun _ _ _ _ => rfl) ?_
  refine px_Z_its (pc1 := 52) (lv1 := [(0, .int (nm_bc5 (nm_bc4 (nm_bc3 (nm_bc2 (nm_bc1 x))))))]) (st1 := [.int (nm_bc x)]) (hp1 := hp) 3 (fun _ _ _ _ => rfl) ?_
  exact px_q_iret (len := 1) (ty := .int) rfl rfl rfl
theorem nm_bc_63 (x : Int32) : 0 ≤ (nm_bc x).toInt ∧ (nm_bc x).toInt ≤ 63 := by
  have h := ab_and32 (Int8.ofInt 63).toInt32 (nm_bc5 (nm_bc4 (nm_bc3 (nm_bc2 (nm_bc1 x))))) (by decide)
  rw [Int32.and_comm] at h
  have h2 : (Int8.ofInt 63).toInt32.toInt = 63 := by decide
  unfold nm_bc
  omega
set_option maxRecDepth 100000 in
theorem nm_bc_tab : (List.range 1024).all (fun n => match n with
  | 0 => decide (nm_bc (Int32.ofNat 0) = 0)
  | n => decide (1 ≤ (nm_bc (Int32.ofNat n)).toInt) && decide ((nm_bc (Int32.ofNat n)).toInt ≤ 10)) = true := by decide +kernel
theorem nm_bc_10 (x : Int32) (h1 : 1 ≤ x.toInt) (h2 : x.toInt ≤ 1023) : 1 ≤ (nm_bc x).toInt ∧ (nm_bc x).toInt ≤ 10 := by
  obtain ⟨n, hn⟩ : ∃ n : Nat, x.toInt = n := ⟨x.toInt.toNat, by omega⟩
  have hx : x = Int32.ofNat n := by
    rw [← Int32.toInt_inj, nm_ofNat_toInt n (by omega), hn]
  have h := List.all_eq_true.mp nm_bc_tab n (List.mem_range.mpr (by omega))
  cases n with
  | zero => omega
  | succ n =>
    simp only [Bool.and_eq_true, decide_eq_true_eq] at h
    rw [hx]
    exact h
theorem nm_arg1 {f : ab_F} {av : List Value} (h : ac_argv [f] av) : ∃ v, av = [v] ∧ ab_f f v := by
  cases av with
  | nil => exact absurd h (by simp [ac_argv])
  | cons v s => cases s with
    | nil => exact ⟨v, rfl, h.1⟩
    | cons => exact absurd h.2 (by simp [ac_argv])
theorem nm_arg2 {f g : ab_F} {av : List Value} (h : ac_argv [f, g] av) : ∃ v w, av = [v, w] ∧ ab_f f v ∧ ab_f g w := by
  cases av with
  | nil => exact absurd h (by simp [ac_argv])
  | cons v s =>
    obtain ⟨w, rfl, hw⟩ := nm_arg1 h.2
    exact ⟨v, w, rfl, h.1, hw⟩
theorem nm_arg3 {f g k : ab_F} {av : List Value} (h : ac_argv [f, g, k] av) : ∃ v w u, av = [v, w, u] ∧ ab_f f v ∧ ab_f g w ∧ ab_f k u := by
  cases av with
  | nil => exact absurd h (by simp [ac_argv])
  | cons v s =>
    obtain ⟨w, u, rfl, hw⟩ := nm_arg2 h.2
    exact ⟨v, w, u, rfl, h.1, hw⟩
theorem kp_I_bitCount_0 : nm_ok kc_I_bitCount_0 := by
  intro av hp hG hav hfl
  obtain ⟨v, rfl, hv⟩ := nm_arg1 hav
  obtain ⟨x, rfl, hx⟩ := ab_f0 hv
  have b0 := hx.1
  have b1 := hx.2
  simp only at b0 b1
  by_cases h0 : x.toInt = 0
  · have hx0 : x = 0 := by rw [← Int32.toInt_inj, h0]; rfl
    subst hx0
    exact ⟨_, hp, _, List.mem_cons_self, nm_bc_C 0 hp, hG, ⟨rfl, by decide +kernel, by decide +kernel⟩, fun q hq => by cases List.mem_singleton.mp hq; exact ⟨_, _, rfl, rfl, by simp only [ab_in]; decide⟩, fun i hi => (by cases hi), px_fr_rf _ _ _⟩
  · have h := nm_bc_10 x (by omega) b1
    exact ⟨_, hp, _, List.mem_cons_of_mem _ List.mem_cons_self, nm_bc_C x hp, hG, ⟨rfl, h.1, h.2⟩, fun q hq => by cases List.mem_singleton.mp hq; exact ⟨_, _, rfl, rfl, by simp only [ab_in]; omega⟩, fun i hi => (by cases hi), px_fr_rf _ _ _⟩
theorem kp_I_bitCount_1 : nm_ok kc_I_bitCount_1 := by
  intro av hp hG hav hfl
  obtain ⟨v, rfl, hv⟩ := nm_arg1 hav
  obtain ⟨x, rfl, hx⟩ := ab_f0 hv
  have h := nm_bc_63 x
  exact ⟨_, hp, _, List.mem_cons_self, nm_bc_C x hp, hG, ⟨rfl, h.1, h.2⟩, fun q hq => (by cases hq), fun i hi => (by cases hi), px_fr_rf _ _ _⟩
/-- the model's object in a heap within the bounds -/
theorem nm_mod {hp : px_H} (hG : ab_h nm_GH hp) : ∃ vs, hp[69]? = some (.inr (9, vs)) ∧ ∀ (k d : Nat), ac_f1 nm_GH 9 k 69 = some (2, 0, 0, [d]) → vs[k]? = some (.ref d) := by
  obtain ⟨vs, v, e1, -⟩ := ac_f1_ok hG (ci := 9) (k := nf_hash) (c := 69) rfl
  exact ⟨vs, e1, fun k d h => ac_refF hG h e1⟩
theorem nm_cnt_none {f : Nat → Int32} {lo : Nat} : ∀ {n : Nat}, (∀ k, k < n → (f (lo + k)).toInt < 0) → nm_cnt f lo n = 0 := by
  intro n
  induction n with
  | zero => intro _; rfl
  | succ n ih =>
    intro h
    unfold nm_cnt
    rw [ih (fun k hk => h k (by omega)), if_neg (by have := h n (by omega); omega)]
theorem kp_M_empties_0 : nm_ok kc_M_empties_0 := by
  intro av hp hG hav hfl
  obtain ⟨v, w, rfl, hv, hw⟩ := nm_arg2 hav
  obtain ⟨c, rfl, hc⟩ := ab_f2 hv
  cases List.mem_singleton.mp hc
  obtain ⟨x, rfl, hx⟩ := ab_f0 hw
  have hx2 : x = Int32.ofNat 2 := by
    have b0 := hx.1
    have b1 := hx.2
    simp only at b0 b1
    rw [← Int32.toInt_inj, nm_ofNat_toInt 2 (by omega)]
    omega
  subst hx2
  obtain ⟨vs, h69, hrf⟩ := nm_mod hG
  obtain ⟨f, hf, hfb⟩ := ac_arrI hG (c := nm_cHash) (by decide) rfl
  obtain ⟨g, hg, hgb⟩ := ac_arrI hG (c := nm_cSize) (by decide) rfl
  have hC := nm_emp (tn := 2) (by decide) h69 (hrf 43 nm_cSize rfl) (hrf 44 nm_cHash rfl) hg hf rfl rfl (by decide)
  have hg2 : (hp.set nm_cSize (.inl (nr_size, 3, .inl (upd g 2 (Int32.ofInt 0)))))[nm_cHash]? = some (.inl (nr_hash, 24576, .inl f)) := by
    rw [List.getElem?_set_ne (by decide)]
    exact hf
  have hG1 := ac_h_arr hG (c := nm_cSize) hg rfl (y := (nr_size, 3, .inl (upd g 2 (Int32.ofInt 0)))) ⟨rfl, rfl, fun j hj => by
    simp only [upd]
    split
    · exact ⟨rfl, by decide, by decide⟩
    · exact ⟨rfl, hgb j hj⟩⟩
  have hG2 := ac_h_arr hG1 (c := nm_cHash) hg2 rfl (y := (nr_hash, 24576, .inl (fun j => if 2 * 8192 ≤ j ∧ j < 2 * 8192 + 8192 then -1 else f j))) ⟨rfl, rfl, fun j hj => by
    simp only
    split
    · exact ⟨rfl, by decide, by decide⟩
    · exact ⟨rfl, hfb j hj⟩⟩
  refine ⟨_, _, _, List.mem_cons_self, hC, hG2, trivial, fun q hq => (by cases hq), fun i hi => ?_, px_fr_tr (px_fr_arr hg List.mem_cons_self) (px_fr_arr hg2 (List.mem_cons_of_mem _ List.mem_cons_self))⟩
  cases List.mem_singleton.mp hi
  refine ⟨nr_hash, nr_size, (fun j => if 2 * 8192 ≤ j ∧ j < 2 * 8192 + 8192 then -1 else f j), upd g 2 (Int32.ofInt 0), List.getElem?_set_self ?_, ?_, ?_⟩
  · rw [List.length_set]
    exact (List.getElem?_eq_some_iff.mp hf).1
  · unfold nm_empH
    rw [List.getElem?_set_ne (by decide)]
    exact List.getElem?_set_self (List.getElem?_eq_some_iff.mp hg).1
  · rw [nm_cnt_none (fun k hk => by rw [if_pos (by omega)]; decide)]
    unfold upd
    rw [if_pos rfl]
    decide
