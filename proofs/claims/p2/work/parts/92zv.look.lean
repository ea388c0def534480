/-! goesThrough: what unpacks and looksAt do to the bags -/
def up_B : ac_S := ([(0, ((2, 0, 0, [69]), none)), (1, ((1, -9223372036854775808, 9223372036854775807, []), none)), (3, ((1, -9223372036854775808, 9223372036854775807, []), none))], [], [], [], [], [])
def up_ck : Bool := match ac_run nm_T nm_P nm_GH nm_FA [] [] [(69, nf_putBy), (69, nf_sitting)] [na_aside, na_satLast] 20000 true [] mi_M_unpacks mm_M_unpacks 27 up_B with
  | some o => o.1.all (fun q => match q.1 with | some _ => false | none => true) && o.2.isEmpty
  | none => false
set_option maxRecDepth 1000000 in
theorem up_ck_t : up_ck = true := by decide +kernel
theorem up_27 {hp : px_H} {lv : List (Nat × Value)} {a b : Int64} (hG : ab_h nm_GH hp) (h0 : px_find 0 lv = some (.ref 69)) (h1 : px_find 1 lv = some (.long a)) (h3 : px_find 3 lv = some (.long b)) : ∃ hp', px_Z nm_T none nm_P mm_M_unpacks 27 lv [] hp none hp' ∧ px_fr [(69, nf_putBy), (69, nf_sitting)] [na_aside, na_satLast] hp hp' := by
  have h := up_ck_t
  unfold up_ck at h
  split at h
  rotate_left
  · cases h
  rename_i o ho
  simp only [Bool.and_eq_true, List.all_eq_true] at h
  have hA : ac_s nm_GH nm_Φ (fun _ => 0) (fun _ => 0) up_B lv [] hp := by
    refine ⟨fun j a hm => ?_, trivial, hG, fun q hq => (by cases hq), fun j q hq => (by simp [up_B] at hq), fun i hi => (by cases hi), fun q hq => (by cases hq)⟩
    simp only [up_B, List.mem_cons, Prod.mk.injEq, List.not_mem_nil, or_false] at hm
    rcases hm with ⟨rfl, rfl⟩ | ⟨rfl, rfl⟩ | ⟨rfl, rfl⟩
    · exact ⟨_, h0, ⟨rfl, List.mem_cons_self⟩, ab_o_none _ _ _ _⟩
    · exact ⟨_, h1, ⟨rfl, ab_i64 _⟩, ab_o_none _ _ _ _⟩
    · exact ⟨_, h3, ⟨rfl, ab_i64 _⟩, ab_o_none _ _ _ _⟩
  rcases ac_run_ok (xs := fun _ => 0) nm_Fl nm_FG (fun _ h => absurd h List.not_mem_nil) 20000 true [] mi_M_unpacks mm_M_unpacks 27 _ o none _ lv [] hp ho hA with ⟨r, hp', oc, m1, m2, m3, m4⟩ | ⟨pc', lv', st', hp', A', m1, -⟩
  · have hs := h.1 oc m1
    have g1 := m2.1
    cases hq : oc.1 with
    | some a => rw [hq] at hs; cases hs
    | none =>
      rw [hq] at g1
      cases r with
      | some v => exact absurd g1 (by simp)
      | none => exact ⟨hp', m4, m3⟩
  · have := h.2
    rw [List.isEmpty_iff] at this
    rw [this] at m1
    cases m1
theorem nm_unpacks {hp : px_H} (hG : ab_h nm_GH hp) (a b : Int64) : ∃ (hp' : px_H) (g : Nat → Int32), px_C nm_T nm_P mi_M_unpacks [.ref 69, .long a, .long b] hp none hp' ∧ ab_h nm_GH hp' ∧ px_fr kc_M_unpacks_0.2.2.2.2.1 kc_M_unpacks_0.2.2.2.2.2 hp hp' ∧ hp'[na_inBag]? = some (.inl (nr_inBag, 2, .inl g)) ∧ g 0 = nm_bg0 a ∧ g 1 = nm_bg1 a := by
  obtain ⟨r9, hp9, o9, m1, m2, m3, m4, m5, -, m7⟩ := kp_M_unpacks_0 [.ref 69, .long a, .long b] hp hG ⟨⟨rfl, List.mem_cons_self⟩, ⟨rfl, ab_i64 _⟩, ⟨rfl, ab_i64 _⟩, trivial⟩ (fun i hi => by cases hi)
  obtain ⟨fs, hx, -, -⟩ := ac_obj hG (c := 69) rfl
  obtain ⟨gB, hB, bB⟩ := ac_arrI hG (c := na_inBag) (t := nr_inBag) (n := 2) (lo := 0) (hi := 1023) (Nat.le_of_ble_eq_true rfl) rfl
  have hl88 : na_inBag < hp.length := (List.getElem?_eq_some_iff.mp hB).1
  have hbn : ∀ x : Int32, (∀ i, 10 ≤ i → i < 32 → x.toBitVec.getLsbD i = false) → 0 ≤ x.toInt ∧ x.toInt ≤ 1023 := by
    intro x h
    have hlt : x.toBitVec.toNat < 2 ^ 10 := by
      refine Nat.lt_pow_two_of_testBit _ (fun j hj => ?_)
      by_cases h32 : j < 32
      · exact h j (by omega) h32
      · exact Nat.testBit_lt_two_pow (Nat.lt_of_lt_of_le x.toBitVec.isLt (Nat.pow_le_pow_right (by decide) (by omega)))
    have e : x.toInt = x.toBitVec.toInt := rfl
    rw [e, BitVec.toInt_eq_toNat_cond, if_pos (by omega)]
    omega
  have r0 : 0 ≤ (nm_bg0 a).toInt ∧ (nm_bg0 a).toInt ≤ 1023 := hbn _ (fun i h1 h2 => by rw [nm_bg0_b _ i h2]; simp [show ¬ i < 10 by omega])
  have r1 : 0 ≤ (nm_bg1 a).toInt ∧ (nm_bg1 a).toInt ≤ 1023 := hbn _ (fun i h1 h2 => by rw [nm_bg1_b _ i h2]; simp [show ¬ i < 10 by omega])
  have hG1 : ab_h nm_GH (hp.set na_inBag (.inl (nr_inBag, 2, .inl (upd gB 0 (nm_bg0 a))))) := nm_hI hG hB rfl bB r0.1 r0.2
  have hx1 : (hp.set na_inBag (.inl (nr_inBag, 2, .inl (upd gB 0 (nm_bg0 a)))))[69]? = some (.inr (9, fs)) := by rw [List.getElem?_set_ne (by decide)]; exact hx
  have hB1 : (hp.set na_inBag (.inl (nr_inBag, 2, .inl (upd gB 0 (nm_bg0 a)))))[na_inBag]? = some (.inl (nr_inBag, 2, .inl (upd gB 0 (nm_bg0 a)))) := List.getElem?_set_self hl88
  generalize hh1 : hp.set na_inBag (.inl (nr_inBag, 2, .inl (upd gB 0 (nm_bg0 a)))) = hp1 at hG1 hx1 hB1
  have hl1 : na_inBag < hp1.length := (List.getElem?_eq_some_iff.mp hB1).1
  obtain ⟨gB1, hB1', bB1⟩ := ac_arrI hG1 (c := na_inBag) (t := nr_inBag) (n := 2) (lo := 0) (hi := 1023) (Nat.le_of_ble_eq_true rfl) rfl
  rw [hB1] at hB1'
  cases hB1'
  have hG2 : ab_h nm_GH (hp1.set na_inBag (.inl (nr_inBag, 2, .inl (upd (upd gB 0 (nm_bg0 a)) 1 (nm_bg1 a))))) := nm_hI hG1 hB1 rfl bB1 r1.1 r1.2
  obtain ⟨hp', z1, z2⟩ := up_27 (a := a) (b := b) (lv := [(0, .ref 69), (1, .long a), (3, .long b)]) hG2 rfl rfl rfl
  have hC : px_C nm_T nm_P mi_M_unpacks [.ref 69, .long a, .long b] hp none hp' := by
    refine px_C_of (N := mm_M_unpacks) rfl (Nat.le_of_ble_eq_true rfl) ?_
    refine px_Z_its (pc1 := 1) (lv1 := [(0, .ref 69), (1, .long a), (3, .long b)]) (st1 := [.ref 69]) (hp1 := hp) 1 (fun _ _ _ _ => rfl) ?_
    refine px_q_get (len := 3) (ci := 9) (k := nf_inBag) (fs := fs) (v := .ref na_inBag) rfl rfl hx (nm_f hG hx rfl) ?_
    refine px_Z_its (pc1 := 11) (lv1 := [(0, .ref 69), (1, .long a), (3, .long b)]) (st1 := [.int (nm_bg0 a), .int 0, .ref na_inBag]) (hp1 := hp) 5 (fun _ _ _ _ => rfl) ?_
    refine px_q_iast (len := 1) rfl hB rfl rfl ?_
    rw [show (0 : Int32).toNatClampNeg = 0 from rfl, hh1]
    refine px_Z_its (pc1 := 13) (lv1 := [(0, .ref 69), (1, .long a), (3, .long b)]) (st1 := [.ref 69]) (hp1 := hp1) 1 (fun _ _ _ _ => rfl) ?_
    refine px_q_get (len := 3) (ci := 9) (k := nf_inBag) (fs := fs) (v := .ref na_inBag) rfl rfl hx1 (nm_f hG1 hx1 rfl) ?_
    refine px_Z_its (pc1 := 26) (lv1 := [(0, .ref 69), (1, .long a), (3, .long b)]) (st1 := [.int (nm_bg1 a), .int 1, .ref na_inBag]) (hp1 := hp1) 7 (fun _ _ _ _ => rfl) ?_
    refine px_q_iast (len := 1) rfl hB1 rfl rfl ?_
    exact z1
  obtain ⟨e1, e2⟩ := px_C_fun hC m2
  subst e2
  refine ⟨hp', _, hC, m3, m7, z2.1 na_inBag _ (by decide) (List.getElem?_set_self hl1), ?_, ?_⟩
  · simp [upd]
  · simp [upd]
