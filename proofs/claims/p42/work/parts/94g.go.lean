section mg_0
/-! going on by the interpreter from a place in the middle; boolean arrays -/
section px_q9
variable {T : px_T} {X : Option (Nat × (Nat → Int32))} {P : List px_M} {M : px_M}
variable {pc len : Nat} {lv : List (Nat × Value)} {st : List Value} {hp hp' : px_H} {r : Option Value}
theorem px_q_bald {a t n : Nat} {f : Nat → Int32} {j : Int32} (hf : px_find pc (px_cd M) = some (len, .baload)) (hx : hp[a]? = some (.inl (t, n, .inl f))) (ht : T.1[t]? = some .boolean) (hj : px_inR j n = true)
    (hR : px_Z T X P M (pc + len) lv (.int (f j.toNatClampNeg) :: st) hp r hp') : px_Z T X P M pc lv (.int j :: .ref a :: st) hp r hp' :=
  px_Z_its 1 (fun call N0 nc ns => by simp only [px_its, px_step, hf, px_alu, px_ald, hx, ht, hj, Option.map_some]) hR
theorem px_q_bast {a t n : Nat} {f : Nat → Int32} {j x : Int32} (hf : px_find pc (px_cd M) = some (len, .bastore)) (hx : hp[a]? = some (.inl (t, n, .inl f))) (ht : T.1[t]? = some .boolean) (hj : px_inR j n = true) (h01 : (decide (x = 0) || decide (x = 1)) = true)
    (hR : px_Z T X P M (pc + len) lv st (hp.set a (.inl (t, n, .inl (upd f j.toNatClampNeg x)))) r hp') : px_Z T X P M pc lv (.int x :: .int j :: .ref a :: st) hp r hp' :=
  px_Z_its 1 (fun call N0 nc ns => by simp only [px_its, px_step, hf, px_alu, px_ast, hx, ht, hj, h01, Option.map_some]) hR
end px_q9
theorem ex_goOn {K : List ac_K} {lps : List ac_L} {ws : List (Nat × Nat)} {wa : List Nat} {mi pc : Nat} {N : px_M} {A : ac_S} {o : List ac_Out} (hK : ∀ κ ∈ K, nm_ok κ) (h : ac_run nm_T nm_P nm_GH nm_FA K lps ws wa 20000 false [] mi N pc A = some (o, [])) {xs : Nat → Int32} {γ : Nat → Int} {lv : List (Nat × Value)} {st : List Value} {hp : px_H} (hA : ac_s nm_GH nm_Φ xs γ A lv st hp) :
    ∃ (r : Option Value) (hp' : px_H) (q : ac_Out), q ∈ o ∧ px_Z nm_T none nm_P N pc lv st hp r hp' ∧ ac_o' nm_GH nm_Φ xs q r hp' ∧ px_fr ws wa hp hp' := by
  rcases ac_run_ok (xs := xs) nm_Fl nm_FG hK 20000 false [] mi N pc A _ none γ lv st hp h hA with ⟨r, hp', oc, m1, m2, m3, hr⟩ | ⟨pc', lv', st', hp', A', m1, -⟩
  · exact ⟨r, hp', oc, m1, hr, m2, m3⟩
  · cases m1
/-- an end that answers just this -/
def ex_rt (t : Int) (o : ac_Out) : Bool := match ex_one (o.1.map (fun a => a.1)) with
  | some a => decide (a = t)
  | none => false
theorem ex_rt_ok {t : Int} {xs : Nat → Int32} {o : ac_Out} {r : Option Value} {hp : px_H} (h : ex_rt t o = true) (ho : ac_o' nm_GH nm_Φ xs o r hp) : ∃ v : Int32, r = some (.int v) ∧ v.toInt = t := by
  have g := ho.1
  unfold ex_rt at h
  split at h
  · rename_i a ha
    have := of_decide_eq_true h
    subst this
    cases h1 : o.1 with
    | none => rw [h1] at ha; cases ha
    | some b =>
      rw [h1] at ha g
      cases r with
      | none => exact absurd g (by simp)
      | some v =>
        obtain ⟨x, rfl, e2⟩ := ex_one_ok ha g.1
        exact ⟨x, rfl, e2⟩
  · cases h
def ex_rts (t : Int) (os : Option (List ac_Out)) : Bool := match os with
  | some os => os.all (ex_rt t)
  | none => false
theorem ex_rts_ok {K : List ac_K} {lps : List ac_L} {ws : List (Nat × Nat)} {wa : List Nat} {mi : Nat} {fs : List ab_F} {ov : List ac_O} {t : Int} (hK : ∀ κ ∈ K, nm_ok κ) (h : ex_rts t (ex_run K lps ws wa mi fs ov) = true) {av : List Value} {hp : px_H} (hG : ab_h nm_GH hp) (hav : ac_argv fs av) (hov : ac_ov ov hp) :
    ∃ (v : Int32) (hp' : px_H) (o : ac_Out), px_C nm_T nm_P mi av hp (some (.int v)) hp' ∧ v.toInt = t ∧ ac_o' nm_GH nm_Φ (ac_xs av) o (some (.int v)) hp' ∧ px_fr ws wa hp hp' := by
  unfold ex_rts at h
  split at h
  · rename_i os ho
    obtain ⟨r, hp', o, m1, m2, m3, m4⟩ := ex_run_ok hK ho hG hav hov
    obtain ⟨v, rfl, hv⟩ := ex_rt_ok (List.all_eq_true.mp h o m1) m3
    exact ⟨v, hp', o, m2, hv, m3, m4⟩
  · cases h
end mg_0

section mg_1
/-! keep and again: which places are kept -/
/-- the class's bits and the model's array tell the same -/
def nm_R (hp : px_H) : Prop := ∃ (b : Int32) (f : Nat → Int32), ac_fv hp 0 14 = some (.int b) ∧ hp[na_isKept]? = some (.inl (nr_isKept, 3, .inl f)) ∧ 0 ≤ b.toInt ∧ b.toInt ≤ 7 ∧ ∀ i : Nat, i < 3 → (f i).toInt = (b.toInt.toNat / 2 ^ i % 2 : Nat)
def nm_Rf (ws : List (Nat × Nat)) (wa : List Nat) : Bool := !(ac_has ws 0 14) && !(ac_in na_isKept wa)
theorem nm_R_fr {ws : List (Nat × Nat)} {wa : List Nat} {hp hp' : px_H} (h : px_fr ws wa hp hp') (hw : nm_Rf ws wa = true) (hR : nm_R hp) : nm_R hp' := by
  simp only [nm_Rf, Bool.and_eq_true, Bool.not_eq_true'] at hw
  obtain ⟨b, f, h1, h2, h3⟩ := hR
  exact ⟨b, f, ex_fv_fr h hw.1 h1, h.1 _ _ (ac_in_no hw.2) h2, h3⟩
theorem nm_R_arr {hp : px_H} {x y : Nat × vp_A} (hx : hp[105]? = some (.inl x)) (hR : nm_R hp) : nm_R (hp.set 105 (.inl y)) := by
  obtain ⟨b, f, h1, h2, h3⟩ := hR
  exact ⟨b, f, by rw [ac_fv_arr hx]; exact h1, by rw [List.getElem?_set_ne (by decide)]; exact h2, h3⟩
set_option maxRecDepth 1000000 in
theorem nm_R0 : nm_R nm_H1 := by
  refine ⟨0, _, rfl, rfl, by decide, by decide, fun i hi => ?_⟩
  match i, hi with
  | 0, _ => rfl
  | 1, _ => rfl
  | 2, _ => rfl
def ag_fX (lo hi : Int) : List ab_F := [(2, 0, 0, [0]), (0, lo, hi, [])]
def ag_fM (lo hi : Int) : List ab_F := [(2, 0, 0, [69]), (0, lo, hi, [])]
abbrev ag_lo : Int := -2147483648
abbrev ag_hi : Int := 2147483647
abbrev ag_wX : List (Nat × Nat) := kc_X_again_0.2.2.2.2.1
abbrev ag_wM : List (Nat × Nat) := kc_M_again_0.2.2.2.2.1
abbrev ag_aM : List Nat := kc_M_again_0.2.2.2.2.2
set_option maxRecDepth 1000000 in
theorem agX_t : (List.range 8).all (fun b => (List.range 3).all (fun i => ex_rts ((b / 2 ^ i % 2 : Nat) : Int) (ex_run [] [] ag_wX [] mi_X_again (ag_fX (i : Nat) (i : Nat)) [(0, 14, 0, (b : Nat), (b : Nat), [])]))) = true := by decide +kernel
set_option maxRecDepth 1000000 in
theorem agX_o : (ex_rts 0 (ex_run [] [] ag_wX [] mi_X_again (ag_fX ag_lo (-1)) []) && ex_rts 0 (ex_run [] [] ag_wX [] mi_X_again (ag_fX 3 ag_hi) [])) = true := by decide +kernel
set_option maxRecDepth 1000000 in
theorem agM_o : (ex_rts 0 (ex_run [] [] ag_wM ag_aM mi_M_again (ag_fM ag_lo (-1)) []) && ex_rts 0 (ex_run [] [] ag_wM ag_aM mi_M_again (ag_fM 3 ag_hi) [])) = true := by decide +kernel
def ag_B (i : Int) : ac_S := ([(0, ((2, 0, 0, [69]), none)), (1, ((0, i, i, []), none))], [((0, i, i, []), none), ((2, 0, 0, [100]), none)], [], [], [], [])
def ag_A (i t : Int) : ac_S := ([(0, ((2, 0, 0, [69]), none)), (1, ((0, i, i, []), none))], [((0, t, t, []), none)], [], [], [], [])
def ag_en (i : Int) : Bool := match ex_runS [] [] ag_wM ag_aM mi_M_again mm_M_again (ag_fM i i) [] [22] with
  | some o => o.1.isEmpty && o.2.all (fun q => Nat.beq q.1 22 && ac_le nm_GH none q.2 (ag_B i))
  | none => false
def ag_go (i t : Int) : Bool := match ac_run nm_T nm_P nm_GH nm_FA [kc_M_unpacks_0] [] ag_wM ag_aM 20000 false [] mi_M_again mm_M_again 23 (ag_A i t) with
  | some (os, []) => os.all (ex_rt t)
  | _ => false
set_option maxRecDepth 1000000 in
theorem ag_t : (List.range 3).all (fun i => ag_en (i : Nat) && (ag_go (i : Nat) 0 && ag_go (i : Nat) 1)) = true := by decide +kernel
theorem ag_no : ∀ κ ∈ ([] : List ac_K), nm_ok κ := fun _ h => absurd h List.not_mem_nil
theorem ag_X {hp : px_H} {a b : Int32} (hG : ab_h nm_GH hp) (hb : ac_fv hp 0 14 = some (.int b)) (b0 : 0 ≤ b.toInt) (b7 : b.toInt ≤ 7) : ∃ (v : Int32) (hp' : px_H), px_C nm_T nm_P mi_X_again [.ref 0, .int a] hp (some (.int v)) hp' ∧ ab_h nm_GH hp' ∧ px_fr ag_wX [] hp hp' ∧ v.toInt = if 0 ≤ a.toInt ∧ a.toInt ≤ 2 then ((b.toInt.toNat / 2 ^ a.toInt.toNat % 2 : Nat) : Int) else 0 := by
  have o := agX_o
  simp only [Bool.and_eq_true] at o
  by_cases h1 : a.toInt < 0
  · obtain ⟨v, hp', q, m1, m2, m3, m4⟩ := ex_rts_ok ag_no o.1 hG (av := [.ref 0, .int a]) ⟨⟨rfl, List.mem_cons_self⟩, ⟨rfl, (ab_i32 a).1, by show a.toInt ≤ -1; omega⟩, trivial⟩ (fun q hq => (by cases hq))
    exact ⟨v, hp', m1, m3.2.1, m4, by rw [m2, if_neg (by omega)]⟩
  by_cases h2 : 2 < a.toInt
  · obtain ⟨v, hp', q, m1, m2, m3, m4⟩ := ex_rts_ok ag_no o.2 hG (av := [.ref 0, .int a]) ⟨⟨rfl, List.mem_cons_self⟩, ⟨rfl, by show (3 : Int) ≤ a.toInt; omega, (ab_i32 a).2⟩, trivial⟩ (fun q hq => (by cases hq))
    exact ⟨v, hp', m1, m3.2.1, m4, by rw [m2, if_neg (by omega)]⟩
  have t := List.all_eq_true.mp (List.all_eq_true.mp agX_t b.toInt.toNat (List.mem_range.mpr (by omega))) a.toInt.toNat (List.mem_range.mpr (by omega))
  obtain ⟨v, hp', q, m1, m2, m3, m4⟩ := ex_rts_ok ag_no t hG (av := [.ref 0, .int a]) ⟨⟨rfl, List.mem_cons_self⟩, ⟨rfl, by show ((a.toInt.toNat : Nat) : Int) ≤ a.toInt; omega, by show a.toInt ≤ ((a.toInt.toNat : Nat) : Int); omega⟩, trivial⟩ (fun q hq v hv => by
    cases List.mem_singleton.mp hq
    simp only at hv
    rw [hb] at hv
    cases hv
    exact ⟨rfl, by show ((b.toInt.toNat : Nat) : Int) ≤ b.toInt; omega, by show b.toInt ≤ ((b.toInt.toNat : Nat) : Int); omega⟩)
  exact ⟨v, hp', m1, m3.2.1, m4, by rw [m2, if_pos (by omega)]⟩
theorem ag_M {hp : px_H} {a : Int32} {f : Nat → Int32} (hG : ab_h nm_GH hp) (hf : hp[na_isKept]? = some (.inl (nr_isKept, 3, .inl f))) (f01 : ∀ i, i < 3 → (f i).toInt = 0 ∨ (f i).toInt = 1) : ∃ (v : Int32) (hp' : px_H), px_C nm_T nm_P mi_M_again [.ref 69, .int a] hp (some (.int v)) hp' ∧ ab_h nm_GH hp' ∧ px_fr ag_wM ag_aM hp hp' ∧ v.toInt = if 0 ≤ a.toInt ∧ a.toInt ≤ 2 then (f a.toInt.toNat).toInt else 0 := by
  have o := agM_o
  simp only [Bool.and_eq_true] at o
  by_cases h1 : a.toInt < 0
  · obtain ⟨v, hp', q, m1, m2, m3, m4⟩ := ex_rts_ok ag_no o.1 hG (av := [.ref 69, .int a]) ⟨⟨rfl, List.mem_cons_self⟩, ⟨rfl, (ab_i32 a).1, by show a.toInt ≤ -1; omega⟩, trivial⟩ (fun q hq => (by cases hq))
    exact ⟨v, hp', m1, m3.2.1, m4, by rw [m2, if_neg (by omega)]⟩
  by_cases h2 : 2 < a.toInt
  · obtain ⟨v, hp', q, m1, m2, m3, m4⟩ := ex_rts_ok ag_no o.2 hG (av := [.ref 69, .int a]) ⟨⟨rfl, List.mem_cons_self⟩, ⟨rfl, by show (3 : Int) ≤ a.toInt; omega, (ab_i32 a).2⟩, trivial⟩ (fun q hq => (by cases hq))
    exact ⟨v, hp', m1, m3.2.1, m4, by rw [m2, if_neg (by omega)]⟩
  rw [if_pos (by omega)]
  generalize hi : a.toInt.toNat = i
  have hai : a.toInt = (i : Int) := by omega
  have t := List.all_eq_true.mp ag_t i (List.mem_range.mpr (by omega))
  simp only [Bool.and_eq_true] at t
  obtain ⟨t1, t2, t3⟩ := t
  unfold ag_en at t1
  split at t1
  rotate_left
  · cases t1
  rename_i o ho
  simp only [Bool.and_eq_true, List.all_eq_true, List.isEmpty_iff] at t1
  rcases ex_runS_ok ag_no rfl (by show _ ≤ _; exact Nat.le_of_ble_eq_true rfl) ho hG (av := [.ref 69, .int a]) ⟨⟨rfl, List.mem_cons_self⟩, ⟨rfl, by show (i : Int) ≤ _; omega, by show _ ≤ (i : Int); omega⟩, trivial⟩ (fun q hq => (by cases hq)) with ⟨r, hp', q, m1, -⟩ | ⟨pc', lv', st', hp1, A', m1, m2, m3, m4⟩
  · rw [t1.1] at m1
    cases m1
  · obtain ⟨q1, q2⟩ := t1.2 _ m1
    have q1 := Nat.eq_of_beq_eq_true q1
    simp only at q1
    subst q1
    obtain ⟨γ2, -, h9, -⟩ := ac_le_ok q2 m2
    obtain ⟨b1, b2, b3, b4, -⟩ := h9
    match st', b2, m4 with
    | [u, w], ⟨⟨s1, _⟩, ⟨s2, _⟩, _⟩, m4 =>
      obtain ⟨j, rfl, hj⟩ := ab_f0 s1
      obtain ⟨c0, rfl, e0⟩ := ab_f2 s2
      cases List.mem_singleton.mp e0
      have j1 : (i : Int) ≤ j.toInt := hj.1
      have j2 : j.toInt ≤ (i : Int) := hj.2
      have hf1 : hp1[na_isKept]? = some (.inl (nr_isKept, 3, .inl f)) := m3.1 _ _ (by decide) hf
      have hjn : j.toNatClampNeg = i := by unfold Int32.toNatClampNeg; omega
      have fin : ∀ tt : Int, (f i).toInt = tt → ag_go (i : Nat) tt = true → ∃ (v : Int32) (hp' : px_H), px_C nm_T nm_P mi_M_again [.ref 69, .int a] hp (some (.int v)) hp' ∧ ab_h nm_GH hp' ∧ px_fr ag_wM ag_aM hp hp' ∧ v.toInt = (f i).toInt := by
        intro tt htt hgo
        unfold ag_go at hgo
        split at hgo
        · rename_i os hos
          obtain ⟨r, hp', q, n1, n2, n3, n4⟩ := ex_goOn (List.forall_mem_cons.mpr ⟨kp_M_unpacks_0, ag_no⟩) hos (xs := ac_xs [.ref 69, .int a]) (γ := fun _ => 0) (lv := lv') (st := [.int (f i)]) (hp := hp1) ⟨b1, ⟨⟨⟨rfl, by show tt ≤ _; omega, by show _ ≤ tt; omega⟩, ab_o_none _ _ _ _⟩, trivial⟩, b3, fun q hq => (by cases hq), fun j q hq => (by simp [ag_A] at hq), fun i hi => (by cases hi), fun q hq => (by cases hq)⟩
          obtain ⟨v, rfl, hv⟩ := ex_rt_ok (List.all_eq_true.mp hgo q n1) n3
          refine ⟨v, hp', m4 _ _ ?_, n3.2.1, px_fr_tr m3 n4, by rw [hv, htt]⟩
          refine px_q_bald (len := 1) rfl hf1 rfl (nm_ixR j 3 (by omega) (by omega)) ?_
          rw [hjn]
          exact n2
        · cases hgo
      rcases f01 i (by omega) with h | h
      · exact fin 0 h t2
      · exact fin 1 h t3
def exX_again : ex_M := ([], [], ag_wX, [], mi_X_again, kc_X_again_0.2.1)
def exM_again : ex_M := ([], [], ag_wM, ag_aM, mi_M_again, kc_M_again_0.2.1)
/-- what two calls leave -/
def ex_twoR (X M : ex_M) (cmp : Bool) (a a' : Nat) (t : List Value) (hp : px_H) : Prop :=
  ∃ (v v' : Int32) (hp1 hp2 : px_H), px_C nm_T nm_P X.2.2.2.2.1 (.ref a :: t) hp (some (.int v)) hp1 ∧ ab_h nm_GH hp1 ∧ px_C nm_T nm_P M.2.2.2.2.1 (.ref a' :: t) hp1 (some (.int v')) hp2 ∧ ab_h nm_GH hp2 ∧ (cmp = true → v = v') ∧ nm_R hp2
theorem ex_again {hp : px_H} {a1 : Int32} (hG : ab_h nm_GH hp) (hR : nm_R hp) : ex_twoR exX_again exM_again true 0 69 [.int a1] hp := by
  have hR0 := hR
  obtain ⟨b, f, r1, r2, r3, r4, r5⟩ := hR
  obtain ⟨v, hp1, c1, g1, f1, e1⟩ := ag_X (a := a1) hG r1 r3 r4
  have hR1 := nm_R_fr f1 (by decide +kernel) hR0
  have hf1 : hp1[na_isKept]? = some (.inl (nr_isKept, 3, .inl f)) := f1.1 _ _ (by decide) r2
  obtain ⟨v', hp2, c2, g2, f2, e2⟩ := ag_M (a := a1) g1 hf1 (fun i hi => by rw [r5 i hi]; omega)
  refine ⟨v, v', hp1, hp2, c1, g1, c2, g2, fun _ => ?_, nm_R_fr f2 (by decide +kernel) hR1⟩
  rw [← Int32.toInt_inj, e1, e2]
  split
  · rw [r5 a1.toInt.toNat (by omega)]
  · rfl
/-! keep -/
abbrev kee_wX : List (Nat × Nat) := kc_X_keep_0.2.2.2.2.1
abbrev kee_aX : List Nat := kc_X_keep_0.2.2.2.2.2
def kee_or (b i : Nat) : Nat := b ||| 2 ^ i
theorem kee_or_t : (List.range 8).all (fun b => (List.range 3).all (fun i => decide (kee_or b i ≤ 7) && (List.range 3).all (fun j => decide (kee_or b i / 2 ^ j % 2 = if j = i then 1 else b / 2 ^ j % 2)))) = true := by decide +kernel
def kee_ck (z : Int) (os : Option (List ac_Out)) : Bool := match os with
  | some os => os.all (ex_ze 0 14 z)
  | none => false
theorem kee_ck_ok {K : List ac_K} {lps : List ac_L} {ws : List (Nat × Nat)} {wa : List Nat} {mi : Nat} {fs : List ab_F} {ov : List ac_O} {z : Int} (hK : ∀ κ ∈ K, nm_ok κ) (h : kee_ck z (ex_run K lps ws wa mi fs ov) = true) {av : List Value} {hp : px_H} (hG : ab_h nm_GH hp) (hav : ac_argv fs av) (hov : ac_ov ov hp) :
    ∃ (v w : Int32) (hp' : px_H), px_C nm_T nm_P mi av hp (some (.int v)) hp' ∧ ab_h nm_GH hp' ∧ px_fr ws wa hp hp' ∧ ac_fv hp' 0 14 = some (.int w) ∧ w.toInt = z := by
  unfold kee_ck at h
  split at h
  · rename_i os ho
    obtain ⟨r, hp', o, m1, m2, m3, m4⟩ := ex_run_ok hK ho hG hav hov
    obtain ⟨v, w, rfl, w1, w2⟩ := ex_ze_ok (by decide +kernel) (List.all_eq_true.mp h o m1) m3
    exact ⟨v, w, hp', m2, m3.2.1, m4, w1, w2⟩
  · cases h
set_option maxRecDepth 1000000 in
theorem keeX_t : (List.range 8).all (fun b => (List.range 3).all (fun i => kee_ck ((kee_or b i : Nat) : Int) (ex_run [] [] kee_wX kee_aX mi_X_keep (ag_fX (i : Nat) (i : Nat)) [(0, 14, 0, (b : Nat), (b : Nat), [])]))) = true := by decide +kernel
set_option maxRecDepth 1000000 in
theorem keeX_o : (List.range 8).all (fun b => kee_ck ((b : Nat) : Int) (ex_run [] [] kee_wX kee_aX mi_X_keep (ag_fX ag_lo (-1)) [(0, 14, 0, (b : Nat), (b : Nat), [])]) && kee_ck ((b : Nat) : Int) (ex_run [] [] kee_wX kee_aX mi_X_keep (ag_fX 3 ag_hi) [(0, 14, 0, (b : Nat), (b : Nat), [])])) = true := by decide +kernel
set_option maxRecDepth 1000000 in
theorem keeM_o : (ex_rts 0 (ex_run [] [] [(69, 0)] [] mi_M_keep (ag_fM ag_lo (-1)) []) && ex_rts 0 (ex_run [] [] [(69, 0)] [] mi_M_keep (ag_fM 3 ag_hi) [])) = true := by decide +kernel
def kee_B (i : Int) : ac_S := ([(0, ((2, 0, 0, [69]), none)), (1, ((0, i, i, []), none))], [((0, 1, 1, []), none), ((0, i, i, []), none), ((2, 0, 0, [100]), none)], [], [], [], [])
def kee_A (i : Int) : ac_S := ([(0, ((2, 0, 0, [69]), none)), (1, ((0, i, i, []), none))], [], [], [], [], [])
def kee_en (i : Int) : Bool := match ex_runS [] [] [(69, 0)] [] mi_M_keep mm_M_keep (ag_fM i i) [] [25] with
  | some o => o.1.isEmpty && o.2.all (fun q => Nat.beq q.1 25 && ac_le nm_GH none q.2 (kee_B i))
  | none => false
def kee_go (i : Int) : Bool := match ac_run nm_T nm_P nm_GH nm_FA [kc_M_first_0, kc_M_second_0] [] [] [101, 102, 103, 104] 20000 false [] mi_M_keep mm_M_keep 26 (kee_A i) with
  | some (os, []) => os.all (ex_rt 1)
  | _ => false
set_option maxRecDepth 1000000 in
theorem kee_t : (List.range 3).all (fun i => kee_en (i : Nat) && kee_go (i : Nat)) = true := by decide +kernel
def exX_keep : ex_M := ([], [], kee_wX, kee_aX, mi_X_keep, kc_X_keep_0.2.1)
def exM_keep : ex_M := ([], [], [], [], mi_M_keep, kc_M_keep_0.2.1)
theorem ex_keep {hp : px_H} {a1 : Int32} (hG : ab_h nm_GH hp) (hR : nm_R hp) : ex_twoR exX_keep exM_keep false 0 69 [.int a1] hp := by
  obtain ⟨b, f, r1, r2, r3, r4, r5⟩ := hR
  have hov : ac_ov [(0, 14, 0, (b.toInt.toNat : Nat), (b.toInt.toNat : Nat), [])] hp := by
    intro q hq v hv
    cases List.mem_singleton.mp hq
    simp only at hv
    rw [r1] at hv
    cases hv
    exact ⟨rfl, by show ((b.toInt.toNat : Nat) : Int) ≤ b.toInt; omega, by show b.toInt ≤ ((b.toInt.toNat : Nat) : Int); omega⟩
  have fin0 : ∀ (lo hi : Int), lo ≤ a1.toInt → a1.toInt ≤ hi → kee_ck ((b.toInt.toNat : Nat) : Int) (ex_run [] [] kee_wX kee_aX mi_X_keep (ag_fX lo hi) [(0, 14, 0, (b.toInt.toNat : Nat), (b.toInt.toNat : Nat), [])]) = true → ex_rts 0 (ex_run [] [] [(69, 0)] [] mi_M_keep (ag_fM lo hi) []) = true → ex_twoR exX_keep exM_keep false 0 69 [.int a1] hp := by
    intro lo hi e1 e2 t1 t2
    obtain ⟨v, w, hp1, c1, g1, f1, w1, w2⟩ := kee_ck_ok ag_no t1 hG (av := [.ref 0, .int a1]) ⟨⟨rfl, List.mem_cons_self⟩, ⟨rfl, e1, e2⟩, trivial⟩ hov
    obtain ⟨v', hp2, q, m1, m2, m3, m4⟩ := ex_rts_ok ag_no t2 g1 (av := [.ref 69, .int a1]) ⟨⟨rfl, List.mem_cons_self⟩, ⟨rfl, e1, e2⟩, trivial⟩ (fun q hq => (by cases hq))
    have hw : w.toInt = b.toInt := by omega
    exact ⟨v, v', hp1, hp2, c1, g1, m1, m3.2.1, fun h => (by cases h), w, f, ex_fv_fr m4 (by decide) w1, m4.1 _ _ (by decide) (f1.1 _ _ (by decide) r2), by omega, by omega, fun i hi => by rw [hw]; exact r5 i hi⟩
  have o := List.all_eq_true.mp keeX_o b.toInt.toNat (List.mem_range.mpr (by omega))
  have o' := keeM_o
  simp only [Bool.and_eq_true] at o o'
  by_cases h1 : a1.toInt < 0
  · exact fin0 _ _ (ab_i32 a1).1 (by omega) o.1 o'.1
  by_cases h2 : 2 < a1.toInt
  · exact fin0 _ _ (by omega) (ab_i32 a1).2 o.2 o'.2
  generalize hi : a1.toInt.toNat = i
  have hai : a1.toInt = (i : Int) := by omega
  have tx := List.all_eq_true.mp (List.all_eq_true.mp keeX_t b.toInt.toNat (List.mem_range.mpr (by omega))) i (List.mem_range.mpr (by omega))
  obtain ⟨v, w, hp0, c1, g1, f1, w1, w2⟩ := kee_ck_ok ag_no tx hG (av := [.ref 0, .int a1]) ⟨⟨rfl, List.mem_cons_self⟩, ⟨rfl, by show (i : Int) ≤ _; omega, by show _ ≤ (i : Int); omega⟩, trivial⟩ hov
  have r2' : hp0[na_isKept]? = some (.inl (nr_isKept, 3, .inl f)) := f1.1 _ _ (by decide) r2
  have to := List.all_eq_true.mp (List.all_eq_true.mp kee_or_t b.toInt.toNat (List.mem_range.mpr (by omega))) i (List.mem_range.mpr (by omega))
  simp only [Bool.and_eq_true, decide_eq_true_eq, List.all_eq_true, List.mem_range] at to
  have t := List.all_eq_true.mp kee_t i (List.mem_range.mpr (by omega))
  simp only [Bool.and_eq_true] at t
  obtain ⟨t1, t2⟩ := t
  unfold kee_en at t1
  split at t1
  rotate_left
  · cases t1
  rename_i oo ho
  simp only [Bool.and_eq_true, List.all_eq_true, List.isEmpty_iff] at t1
  rcases ex_runS_ok ag_no rfl (by show _ ≤ _; exact Nat.le_of_ble_eq_true rfl) ho g1 (av := [.ref 69, .int a1]) ⟨⟨rfl, List.mem_cons_self⟩, ⟨rfl, by show (i : Int) ≤ _; omega, by show _ ≤ (i : Int); omega⟩, trivial⟩ (fun q hq => (by cases hq)) with ⟨r, hp', q, m1, -⟩ | ⟨pc', lv', st', hp1, A', m1, m2, m3, m4⟩
  · rw [t1.1] at m1
    cases m1
  · obtain ⟨q1, q2⟩ := t1.2 _ m1
    have q1 := Nat.eq_of_beq_eq_true q1
    simp only at q1
    subst q1
    obtain ⟨γ2, -, h9, -⟩ := ac_le_ok q2 m2
    obtain ⟨b1, b2, b3, b4, -⟩ := h9
    match st', b2, m4 with
    | [x, u, y], ⟨⟨s0, _⟩, ⟨s1, _⟩, ⟨s2, _⟩, _⟩, m4 =>
      obtain ⟨one, rfl, hone⟩ := ab_f0 s0
      obtain ⟨j, rfl, hj⟩ := ab_f0 s1
      obtain ⟨c0, rfl, e0⟩ := ab_f2 s2
      cases List.mem_singleton.mp e0
      have o1 : (1 : Int) ≤ one.toInt := hone.1
      have o2 : one.toInt ≤ (1 : Int) := hone.2
      have one1 : one = 1 := by
        rw [← Int32.toInt_inj, show (1 : Int32).toInt = 1 from rfl]
        omega
      subst one1
      have j1 : (i : Int) ≤ j.toInt := hj.1
      have j2 : j.toInt ≤ (i : Int) := hj.2
      have hf1 : hp1[na_isKept]? = some (.inl (nr_isKept, 3, .inl f)) := m3.1 _ _ (by decide) r2'
      have hjn : j.toNatClampNeg = i := by unfold Int32.toNatClampNeg; omega
      have hG2 : ab_h nm_GH (hp1.set na_isKept (.inl (nr_isKept, 3, .inl (upd f i 1)))) := ac_h_arr b3 (c := na_isKept) hf1 rfl (y := (nr_isKept, 3, .inl (upd f i 1))) ⟨rfl, rfl, fun k hk => by
        obtain ⟨g9, hg9, hb9⟩ := ac_arrI b3 (c := na_isKept) (t := nr_isKept) (n := 3) (lo := 0) (hi := 1) (Nat.le_of_ble_eq_true rfl) rfl
        rw [hf1] at hg9
        cases hg9
        simp only [upd]
        split
        · exact ⟨rfl, by decide, by decide⟩
        · exact ⟨rfl, hb9 k hk⟩⟩
      have hf2 : (hp1.set na_isKept (.inl (nr_isKept, 3, .inl (upd f i 1))))[na_isKept]? = some (.inl (nr_isKept, 3, .inl (upd f i 1))) := List.getElem?_set_self (List.getElem?_eq_some_iff.mp hf1).1
      have hw2 : ac_fv (hp1.set na_isKept (.inl (nr_isKept, 3, .inl (upd f i 1)))) 0 14 = some (.int w) := by
        rw [ac_fv_arr hf1]
        exact ex_fv_fr m3 (by decide) w1
      have hlv : ab_lv (ac_xs [.ref 69, .int a1]) (hp1.set na_isKept (.inl (nr_isKept, 3, .inl (upd f i 1)))) (kee_A (i : Nat)).1 lv' := by
        intro k z hz
        obtain ⟨vv, e1, e2⟩ := b1 k z hz
        refine ⟨vv, e1, e2.1, ?_⟩
        simp only [kee_A, List.mem_cons, Prod.mk.injEq, List.not_mem_nil, or_false] at hz
        rcases hz with ⟨-, rfl⟩ | ⟨-, rfl⟩
        · exact ab_o_none _ _ _ _
        · exact ab_o_none _ _ _ _
      generalize hh : hp1.set na_isKept (.inl (nr_isKept, 3, .inl (upd f i 1))) = hpA at hG2 hf2 hw2 hlv
      unfold kee_go at t2
      split at t2
      · rename_i os hos
        obtain ⟨r, hp', q, n1, n2, n3, n4⟩ := ex_goOn (List.forall_mem_cons.mpr ⟨kp_M_first_0, List.forall_mem_cons.mpr ⟨kp_M_second_0, ag_no⟩⟩) hos (xs := ac_xs [.ref 69, .int a1]) (γ := fun _ => 0) (lv := lv') (st := []) (hp := hpA) ⟨hlv, trivial, hG2, fun q hq => (by cases hq), fun j q hq => (by simp [kee_A] at hq), fun i hi => (by cases hi), fun q hq => (by cases hq)⟩
        obtain ⟨v', rfl, hv'⟩ := ex_rt_ok (List.all_eq_true.mp t2 q n1) n3
        refine ⟨v, v', hp0, hp', c1, g1, m4 _ _ ?_, n3.2.1, fun h => (by cases h), w, upd f i 1, ex_fv_fr n4 (by decide) hw2, n4.1 _ _ (by decide) hf2, by omega, by omega, fun k hk => ?_⟩
        · refine px_q_bast (len := 1) rfl hf1 rfl (nm_ixR j 3 (by omega) (by omega)) (by decide) ?_
          rw [hjn, hh]
          exact n2
        · have := to.2 k hk
          rw [show w.toInt.toNat = kee_or b.toInt.toNat i from by omega, this]
          simp only [upd]
          split
          · rfl
          · exact r5 k hk
      · cases t2
end mg_1
