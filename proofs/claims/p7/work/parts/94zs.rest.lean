section mg_0
/-! QUESTIONS THAT LEAVE THE CHEST AS IT WAS: up to remembers by the interpreter, remembers exactly, on to comesBack by the interpreter, comesBack exactly, on to the end by the interpreter -/
theorem px_fr_delA {ws : List (Nat × Nat)} {wa : List Nat} {c : Nat} {hp hp' : px_H} (h : px_fr ws (c :: wa) hp hp') (he : hp'[c]? = hp[c]?) : px_fr ws wa hp hp' := by
  refine ⟨fun c' q hc hq => ?_, h.2⟩
  by_cases e : c' = c
  · rw [e] at hq ⊢
    rw [he]
    exact hq
  · exact h.1 c' q (fun hm => by
      rcases List.mem_cons.mp hm with h9 | h9
      · exact e h9
      · exact hc h9) hq
theorem px_fr_delF {ws : List (Nat × Nat)} {wa : List Nat} {c k : Nat} {hp hp' : px_H} (h : px_fr ((c, k) :: ws) wa hp hp') (he : ac_fv hp' c k = ac_fv hp c k) : px_fr ws wa hp hp' := by
  refine ⟨h.1, fun c' ci vs hx => ?_⟩
  obtain ⟨vs', e1, e2, e3⟩ := h.2 c' ci vs hx
  refine ⟨vs', e1, e2, fun k' hk => ?_⟩
  by_cases e : c' = c ∧ k' = k
  · obtain ⟨ea, eb⟩ := e
    rw [ea] at hx e1
    rw [eb]
    unfold ac_fv at he
    rw [hx, e1] at he
    exact he
  · exact e3 k' (fun hm => by
      rcases List.mem_cons.mp hm with h9 | h9
      · exact e (Prod.mk.inj h9)
      · exact hk h9)
theorem px_fr_and {ws ws' ws2 : List (Nat × Nat)} {wa wa' wa2 : List Nat} {hp hp' : px_H} (a : px_fr ws wa hp hp') (b : px_fr ws' wa' hp hp') (e1 : ∀ q, q ∈ ws → q ∈ ws' → q ∈ ws2) (e2 : ∀ q, q ∈ wa → q ∈ wa' → q ∈ wa2) : px_fr ws2 wa2 hp hp' := by
  refine ⟨fun c q hc hq => ?_, fun c ci vs hx => ?_⟩
  · by_cases h1 : c ∈ wa
    · exact b.1 c q (fun h2 => hc (e2 c h1 h2)) hq
    · exact a.1 c q h1 hq
  · obtain ⟨vs', f1, f2, f3⟩ := a.2 c ci vs hx
    obtain ⟨vs2, g1, g2, g3⟩ := b.2 c ci vs hx
    rw [f1] at g1
    cases g1
    refine ⟨vs', f1, f2, fun k hk => ?_⟩
    by_cases h1 : (c, k) ∈ ws
    · exact g3 k (fun h2 => hk (e1 _ h1 h2))
    · exact f3 k h1
theorem rs_fv {h h' : px_H} {k : Nat} (hb : bF [69] 9 k 0 = true) (hS : oS h) (hS' : oS h') (e : gI h' 69 k = gI h 69 k) : ac_fv h' 69 k = ac_fv h 69 k := by
  obtain ⟨fs, a1, a2⟩ := bI_ok hb List.mem_cons_self hS
  obtain ⟨fs', b1, b2⟩ := bI_ok hb List.mem_cons_self hS'
  have x1 : ac_fv h 69 k = some (.int (gI h 69 k)) := by
    unfold ac_fv
    rw [a1]
    exact a2
  have x2 : ac_fv h' 69 k = some (.int (gI h' 69 k)) := by
    unfold ac_fv
    rw [b1]
    exact b2
  rw [x1, x2, e]
theorem rs_rok {fs : List ab_F} {oc : ac_Out} {q : Option ab_F × List (Nat × ab_B) × List Nat} {r : Option Value} {hp : px_H} {xs : Nat → Int32} (h : ac_rok fs oc q = true) (ho : ac_o' nm_GH nm_Φ xs oc r hp) : ac_rv q.1 r := by
  simp only [ac_rok, Bool.and_eq_true] at h
  have w1 := h.1
  have g1 := ho.1
  unfold ac_rv
  cases h8 : oc.1 with
  | none =>
    rw [h8] at w1 g1
    cases h9 : q.1 with
    | none => cases r <;> first | trivial | exact absurd g1 (by simp)
    | some f => rw [h9] at w1; cases w1
  | some a =>
    rw [h8] at w1 g1
    cases h9 : q.1 with
    | none => rw [h9] at w1; cases w1
    | some f =>
      rw [h9] at w1
      cases r with
      | none => exact absurd g1 (by simp)
      | some v => exact ab_le_ok w1 g1.1
theorem rs_one {xs : Nat → Int32} {lv : List (Nat × Value)} {hp : px_H} {st : List Value} (h : ab_st xs lv hp [((2, 0, 0, [69]), none)] st) : st = [.ref 69] := by
  cases st with
  | nil => exact h.elim
  | cons w t =>
    cases t with
    | cons _ _ => exact h.2.elim
    | nil =>
      obtain ⟨c1, e, e1⟩ := ab_f2 h.1.1
      rw [e, List.mem_singleton.mp e1]
theorem s3_in {x : Int32} (h0 : 0 ≤ x.toInt) (h1 : x.toInt ≤ 7) : s3 x := by
  intro i hi
  unfold ib
  rw [← BitVec.testBit_toNat]
  have e : x.toBitVec.toNat < 2 ^ 3 := by
    have h2 : x.toInt = x.toBitVec.toInt := rfl
    rw [h2, BitVec.toInt_eq_toNat_cond] at h0 h1
    split at h0
    · split at h1 <;> omega
    · omega
  exact Nat.testBit_lt_two_pow (Nat.lt_of_lt_of_le e (Nat.pow_le_pow_right (by decide) hi))
theorem rs_bd {h : px_H} (hG : ab_h nm_GH h) : (sm (aI h 88 0) ∧ sm (aI h 88 1) ∧ sm (aI h 89 0) ∧ sm (aI h 89 1) ∧ sm (gI h 69 32) ∧ sm (gI h 69 33)) ∧ ∀ p, p < 10 → s3 (aI h 90 p) := by
  obtain ⟨g8, e8, b8⟩ := ac_arrI hG (c := 88) (t := nr_inBag) (n := 2) (lo := 0) (hi := 1023) (Nat.le_of_ble_eq_true rfl) rfl
  obtain ⟨g9, e9, b9⟩ := ac_arrI hG (c := 89) (t := nr_aside) (n := 2) (lo := 0) (hi := 1023) (Nat.le_of_ble_eq_true rfl) rfl
  obtain ⟨g0, e0, b0⟩ := ac_arrI hG (c := 90) (t := nr_satLast) (n := 10) (lo := 0) (hi := 7) (Nat.le_of_ble_eq_true rfl) rfl
  obtain ⟨fs, hx, -, -⟩ := ac_obj hG (c := 69) rfl
  obtain ⟨x2, f2, p2, q2⟩ := nm_fI hG hx (k := 32) (a := 0) (b := 1023) rfl
  obtain ⟨x3, f3, p3, q3⟩ := nm_fI hG hx (k := 33) (a := 0) (b := 1023) rfl
  have a8 : aI h 88 = g8 := by unfold aI; rw [e8]
  have a9 : aI h 89 = g9 := by unfold aI; rw [e9]
  have a0 : aI h 90 = g0 := by unfold aI; rw [e0]
  have v2 : ac_fv h 69 32 = some (.int x2) := by unfold ac_fv; rw [hx]; exact f2
  have v3 : ac_fv h 69 33 = some (.int x3) := by unfold ac_fv; rw [hx]; exact f3
  have i2 : gI h 69 32 = x2 := by unfold gI; rw [v2]
  have i3 : gI h 69 33 = x3 := by unfold gI; rw [v3]
  rw [a8, a9, a0, i2, i3]
  exact ⟨⟨sm_of (b8 0 (by omega)).1 (b8 0 (by omega)).2, sm_of (b8 1 (by omega)).1 (b8 1 (by omega)).2, sm_of (b9 0 (by omega)).1 (b9 0 (by omega)).2, sm_of (b9 1 (by omega)).1 (b9 1 (by omega)).2, sm_of p2 q2, sm_of p3 q3⟩, fun p hp => s3_in (b0 p hp).1 (b0 p hp).2⟩
/-- locals, and the bounds of the arguments -/
abbrev rs_L : Type := List (Nat × ab_V) × List (Int × Int)
def rs_st (L : rs_L) : ac_S := (L.1, [((2, 0, 0, [69]), none)], [], L.2, [], [])
def rs_go (L : rs_L) : ac_S := (L.1, [], [], L.2, [], [])
def rs_no (L : rs_L) : Bool := L.1.all (fun q => match q.2.2 with | none => true | some l => Nat.beq l.1 2)
abbrev rs_Q : Type := List (Option ab_F × List (Nat × ab_B) × List Nat)
def rs_e1 (K : List ac_K) (lps : List ac_L) (ws : List (Nat × Nat)) (wa : List Nat) (mi : Nat) (N : px_M) (fs : List ab_F) (outs : rs_Q) (r : Nat) (L : rs_L) : Bool := match ex_runS K lps ws wa mi N fs [] [r] with
  | some o => o.1.all (fun q => outs.any (ac_rok fs q)) && o.2.all (fun q => Nat.beq q.1 r && ac_le nm_GH none q.2 (rs_st L))
  | none => false
def rs_e2 (K : List ac_K) (lps : List ac_L) (ws : List (Nat × Nat)) (wa : List Nat) (mi : Nat) (N : px_M) (pc c : Nat) (A L : rs_L) : Bool := match ac_run nm_T nm_P nm_GH nm_FA K lps ws wa 20000 false [c] mi N pc (rs_go A) with
  | some o => o.1.isEmpty && o.2.all (fun q => Nat.beq q.1 c && ac_le nm_GH none q.2 (rs_st L))
  | none => false
def rs_e3 (K : List ac_K) (lps : List ac_L) (ws : List (Nat × Nat)) (wa : List Nat) (mi : Nat) (N : px_M) (fs : List ab_F) (outs : rs_Q) (pc : Nat) (A : rs_L) : Bool := match ac_run nm_T nm_P nm_GH nm_FA K lps ws wa 20000 false [] mi N pc (rs_go A) with
  | some (os, []) => os.all (fun q => outs.any (ac_rok fs q))
  | _ => false
def rs_w (ws w : List (Nat × Nat)) : Bool := w.all (fun q => ac_has ws q.1 q.2)
def rs_a (wa a : List Nat) : Bool := a.all (fun c => ac_in c wa)
theorem rs_w_ok {ws w : List (Nat × Nat)} (h : rs_w ws w = true) : ∀ q ∈ w, q ∈ ws := by
  intro q hq
  obtain ⟨p, p1, p2⟩ := List.any_eq_true.mp (List.all_eq_true.mp h q hq)
  simp only [Bool.and_eq_true] at p2
  have e : p = q := Prod.ext (Nat.eq_of_beq_eq_true p2.1) (Nat.eq_of_beq_eq_true p2.2)
  rw [← e]
  exact p1
theorem rs_a_ok {wa a : List Nat} (h : rs_a wa a = true) : ∀ q ∈ a, q ∈ wa := fun q hq => ac_in_ok (List.all_eq_true.mp h q hq)
def rs_cw (ws : List (Nat × Nat)) : List (Nat × Nat) := (69, 31) :: (69, 32) :: (69, 33) :: ws
def rs_ca (wa : List Nat) : List Nat := 88 :: 89 :: 90 :: wa
/-- neither a field nor an array of the chest -/
def rs_n (w : List (Nat × Nat)) (a : List Nat) : Bool := (!ac_has w 69 31 && (!ac_has w 69 32 && !ac_has w 69 33)) && (!ac_in 88 a && (!ac_in 89 a && !ac_in 90 a))
def rs_u (ws : List (Nat × Nat)) (wa : List Nat) (w1 : List (Nat × Nat)) (a1 : List Nat) (w2 : List (Nat × Nat)) (a2 : List Nat) (w3 : List (Nat × Nat)) (a3 : List Nat) : Bool :=
  (rs_n w1 a1 && rs_n w3 a3) && ((rs_w ws w1 && rs_a wa a1) && ((rs_w (rs_cw ws) w2 && rs_a (rs_ca wa) a2) && ((rs_w ws w3 && rs_a wa a3) && ((rs_w ws kc_M_remembers_0.2.2.2.2.1 && rs_a wa kc_M_remembers_0.2.2.2.2.2) && ((rs_w (rs_cw ws) kc_M_comesBack_0.2.2.2.2.1 && rs_a (rs_ca wa) kc_M_comesBack_0.2.2.2.2.2) && (!ac_has w2 69 34 && (!ac_has w2 69 35 && !ac_has w2 69 36)))))))
theorem rs_cw_in {ws : List (Nat × Nat)} : ∀ q ∈ ws, q ∈ rs_cw ws := fun _ h => List.mem_cons_of_mem _ (List.mem_cons_of_mem _ (List.mem_cons_of_mem _ h))
theorem rs_ca_in {wa : List Nat} : ∀ q ∈ wa, q ∈ rs_ca wa := fun _ h => List.mem_cons_of_mem _ (List.mem_cons_of_mem _ (List.mem_cons_of_mem _ h))
/-- the same chest, cell by cell -/
def rs_same (hp hp' : px_H) : Prop := (hp'[88]? = hp[88]? ∧ hp'[89]? = hp[89]? ∧ hp'[90]? = hp[90]?) ∧ ac_fv hp' 69 31 = ac_fv hp 69 31 ∧ ac_fv hp' 69 32 = ac_fv hp 69 32 ∧ ac_fv hp' 69 33 = ac_fv hp 69 33
theorem rs_SM {hp hp' : px_H} (t : tl hp hp') (hS : oS hp) (hS' : oS hp') (s : SM hp hp') : rs_same hp hp' := by
  obtain ⟨⟨a0, a1, a2, a3, a4, a5⟩, a6, a7⟩ := s
  refine ⟨⟨tl_eq (t := nr_inBag) (n := 2) t hS rfl (fun j hj => ?_), tl_eq (t := nr_aside) (n := 2) t hS rfl (fun j hj => ?_), tl_eq (t := nr_satLast) (n := 10) t hS rfl a6⟩, rs_fv rfl hS hS' a7, rs_fv rfl hS hS' a4, rs_fv rfl hS hS' a5⟩
  · match j, hj with
    | 0, _ => exact a0
    | 1, _ => exact a1
    | j + 2, h => omega
  · match j, hj with
    | 0, _ => exact a2
    | 1, _ => exact a3
    | j + 2, h => omega
theorem SM_fz {W : Nat → Nat → Bool} {V : Nat → Bool} {h h' : px_H} (a : fz W V h h') (e1 : W 69 31 = false) (e2 : W 69 32 = false) (e3 : W 69 33 = false) (v8 : V 88 = false) (v9 : V 89 = false) (v0 : V 90 = false) : SM h h' := by
  refine ⟨⟨?_, ?_, ?_, ?_, fz_gI a e2, fz_gI a e3⟩, fun p _ => ?_, fz_gI a e1⟩
  · rw [(a.2 88 v8).1]
  · rw [(a.2 88 v8).1]
  · rw [(a.2 89 v9).1]
  · rw [(a.2 89 v9).1]
  · rw [(a.2 90 v0).1]
theorem SM_tr {h1 h2 h3 : px_H} (a : SM h1 h2) (b : SM h2 h3) : SM h1 h3 := by
  obtain ⟨⟨a0, a1, a2, a3, a4, a5⟩, a6, a7⟩ := a
  obtain ⟨⟨b0, b1, b2, b3, b4, b5⟩, b6, b7⟩ := b
  exact ⟨⟨b0.trans a0, b1.trans a1, b2.trans a2, b3.trans a3, b4.trans a4, b5.trans a5⟩, fun p hp => (b6 p hp).trans (a6 p hp), b7.trans a7⟩
theorem SM_fr {w : List (Nat × Nat)} {a : List Nat} {h h' : px_H} (hS : oS h) (hS' : oS h') (f : px_fr w a h h') (hn : rs_n w a = true) : SM h h' := by
  simp only [rs_n, Bool.and_eq_true, Bool.not_eq_true'] at hn
  exact SM_fz (fz_fr hS hS' f) hn.1.1 hn.1.2.1 hn.1.2.2 hn.2.1 hn.2.2.1 hn.2.2.2
/-- an end of the interpreter as an end of the contract -/
theorem rs_end {mi : Nat} {fs : List ab_F} {outs : rs_Q} {ws : List (Nat × Nat)} {wa : List Nat} {av : List Value} {hp hp' : px_H} {xs : Nat → Int32} {q : ac_Out} {r : Option Value} (he : outs.all (fun q => q.2.1.isEmpty && q.2.2.isEmpty) = true) (hq : outs.any (ac_rok fs q) = true) (hC : px_C nm_T nm_P mi av hp r hp') (ho : ac_o' nm_GH nm_Φ xs q r hp') (hf : px_fr ws wa hp hp') :
    ∃ (r : Option Value) (hp' : px_H) (o : Option ab_F × List (Nat × ab_B) × List Nat), o ∈ outs ∧ px_C nm_T nm_P mi av hp r hp' ∧ ab_h nm_GH hp' ∧ ac_rv o.1 r ∧ (∀ q ∈ o.2.1, ∃ v z, av[q.1]? = some v ∧ ab_num v = some z ∧ ab_in q.2 z) ∧ (∀ i ∈ o.2.2, nm_Φ i hp') ∧ px_fr ws wa hp hp' := by
  obtain ⟨p, p1, p2⟩ := List.any_eq_true.mp hq
  have pe := List.all_eq_true.mp he p p1
  simp only [Bool.and_eq_true, List.isEmpty_iff] at pe
  exact ⟨r, hp', p, p1, hC, ho.2.1, rs_rok p2 ho, fun z hz => (by rw [pe.1] at hz; cases hz), fun i hi => (by rw [pe.2] at hi; cases hi), hf⟩
section rs_M
variable {mi : Nat} {N : px_M} {fs : List ab_F} {outs : rs_Q} {ws w1 w2 w3 : List (Nat × Nat)} {wa a1 a2 a3 : List Nat} {r c i1 i2 : Nat} {K1 K2 K3 : List ac_K} {l1 l2 l3 : List ac_L} {L1 L2 : rs_L}
theorem rs_nil {L : rs_L} {xs : Nat → Int32} {γ : Nat → Int} {lv : List (Nat × Value)} {hp : px_H} (hlv : ab_lv xs hp L.1 lv) (hx : ab_x L.2 xs) (hG : ab_h nm_GH hp) : ac_s nm_GH nm_Φ xs γ (rs_go L) lv [] hp :=
  ⟨hlv, trivial, hG, fun q hq => absurd hq List.not_mem_nil, hx, fun i hi => absurd hi List.not_mem_nil, fun q hq => absurd hq List.not_mem_nil⟩
set_option maxHeartbeats 2000000 in
theorem rs_ok (hK1 : ∀ κ ∈ K1, nm_ok κ) (hK2 : ∀ κ ∈ K2, nm_ok κ) (hK3 : ∀ κ ∈ K3, nm_ok κ) (hN : nm_P[mi]? = some N) (hml : ((ac_ini 0 fs).map ab_cat).sum ≤ px_ml N)
    (f1 : px_find r (px_cd N) = some (3, .invokevirtual i1)) (g1 : px_find i1 (px_cp N) = some (1, mi_M_remembers, 0, 9)) (f2 : px_find c (px_cd N) = some (3, .invokevirtual i2)) (g2 : px_find i2 (px_cp N) = some (1, mi_M_comesBack, 0, 9))
    (t1 : rs_e1 K1 l1 w1 a1 mi N fs outs r L1 = true) (t2 : rs_e2 K2 l2 w2 a2 mi N (r + 3) c L1 L2 = true) (t3 : rs_e3 K3 l3 w3 a3 mi N fs outs (c + 3) L2 = true)
    (n1 : rs_no L1 = true) (n2 : rs_no L2 = true) (he : outs.all (fun q => q.2.1.isEmpty && q.2.2.isEmpty) = true) (u : rs_u ws wa w1 a1 w2 a2 w3 a3 = true) : nm_ok (mi, fs, [], outs, ws, wa) := by
  intro av hp hG hav _
  simp only [rs_u, Bool.and_eq_true, Bool.not_eq_true'] at u
  obtain ⟨⟨uA, uC⟩, ⟨u1, u2⟩, ⟨u3, u4⟩, ⟨u5, u6⟩, ⟨u7, u8⟩, ⟨u9, u10⟩, k4, k5, k6⟩ := u
  unfold rs_e1 at t1
  split at t1
  rotate_left
  · cases t1
  rename_i o ho
  simp only [Bool.and_eq_true, List.all_eq_true] at t1
  rcases ex_runS_ok hK1 hN hml ho hG hav (fun q hq => absurd hq List.not_mem_nil) with ⟨rr, hp', q, m1, m2, m3, m4⟩ | ⟨pc', lv, st, h1, A', m1, m2, m3, m4⟩
  · exact rs_end he (t1.1 q m1) m2 m3 (px_fr_mono m4 (rs_w_ok u1) (rs_a_ok u2))
  obtain ⟨q1, q2⟩ := t1.2 _ m1
  have q1 : pc' = r := Nat.eq_of_beq_eq_true q1
  rw [q1] at m4
  obtain ⟨γ2, -, h9, -⟩ := ac_le_ok q2 m2
  obtain ⟨b1, b2, b3, -, b5, -⟩ := h9
  have est := rs_one b2
  rw [est] at m4
  have S1 := oS_of b3
  obtain ⟨h2, r1, r2, r3, r4, r5, r6⟩ := vl_remembers S1
  obtain ⟨C1, -⟩ := fx_M_remembers S1 r1
  obtain ⟨rr, h2', oo, -, c2, c3, -, -, -, c7⟩ := kp_M_remembers_0 [.ref 69] h1 b3 ⟨⟨rfl, List.mem_cons_self⟩, trivial⟩ (fun i hi => absurd hi List.not_mem_nil)
  have e2 : h2' = h2 := (px_C_fun c2 C1).2
  rw [e2] at c3 c7
  unfold rs_e2 at t2
  split at t2
  rotate_left
  · cases t2
  rename_i o2 ho2
  simp only [Bool.and_eq_true, List.all_eq_true, List.isEmpty_iff] at t2
  rcases ex_goS hK2 ho2 (xs := ac_xs av) (γ := fun _ => 0) (lv := lv) (st := []) (hp := h2) (rs_nil (ex_sG h2 (L := L1.1) n1 b1) b5 c3) with ⟨r9, hp', q, x1, -⟩ | ⟨pc2, lv2, st2, h3, A2, x1, x2, x3, x4⟩
  · rw [t2.1] at x1
    exact absurd x1 List.not_mem_nil
  obtain ⟨q3, q4⟩ := t2.2 _ x1
  have q3 : pc2 = c := Nat.eq_of_beq_eq_true q3
  rw [q3] at x4
  obtain ⟨γ3, -, h8, -⟩ := ac_le_ok q4 x2
  obtain ⟨y1, y2, y3, -, y5, -⟩ := h8
  have est2 := rs_one y2
  rw [est2] at x4
  have S3 := oS_of y3
  have z2 := fz_fr (oS_of c3) S3 x3
  obtain ⟨h4, v1, v2, v3, v4⟩ := restore (rs_bd b3).1 (rs_bd b3).2 r4 r5 r6 (fz_gL z2 k4) (fz_gL z2 k5) (fz_gI z2 k6) S3
  obtain ⟨C2, -⟩ := fx_M_comesBack S3 v1
  obtain ⟨rr2, h4', oo2, -, d2, d3, -, -, -, d7⟩ := kp_M_comesBack_0 [.ref 69] h3 y3 ⟨⟨rfl, List.mem_cons_self⟩, trivial⟩ (fun i hi => absurd hi List.not_mem_nil)
  have e4 : h4' = h4 := (px_C_fun d2 C2).2
  rw [e4] at d3 d7
  unfold rs_e3 at t3
  split at t3
  rotate_left
  · cases t3
  rename_i os hos
  obtain ⟨r6', hp6, q, j1, j2, j3, j4⟩ := ex_goOn hK3 hos (xs := ac_xs av) (γ := fun _ => 0) (lv := lv2) (st := []) (hp := h4) (rs_nil (ex_sG h4 (L := L2.1) n2 y1) y5 d3)
  obtain ⟨fs1, hx1⟩ := bO_ok (cs := [69]) (ci := 9) rfl List.mem_cons_self S1
  obtain ⟨fs3, hx3⟩ := bO_ok (cs := [69]) (ci := 9) rfl List.mem_cons_self S3
  have CC : px_C nm_T nm_P mi av hp r6' hp6 := m4 _ _ (px_q_virt (n := 0) (a := 69) (N := mm_M_remembers) (r1 := none) f1 g1 rfl hx1 rfl (Nat.le_refl _) (Nat.zero_le _) rfl rfl C1 (x4 _ _ (px_q_virt (n := 0) (a := 69) (N := mm_M_comesBack) (r1 := none) f2 g2 rfl hx3 rfl (Nat.le_refl _) (Nat.zero_le _) rfl rfl C2 j2)))
  have F : px_fr (rs_cw ws) (rs_ca wa) hp hp6 := px_fr_tr (px_fr_mono m3 (fun q h => rs_cw_in q (rs_w_ok u1 q h)) (fun q h => rs_ca_in q (rs_a_ok u2 q h))) (px_fr_tr (px_fr_mono c7 (fun q h => rs_cw_in q (rs_w_ok u7 q h)) (fun q h => rs_ca_in q (rs_a_ok u8 q h))) (px_fr_tr (px_fr_mono x3 (rs_w_ok u3) (rs_a_ok u4)) (px_fr_tr (px_fr_mono d7 (rs_w_ok u9) (rs_a_ok u10)) (px_fr_mono j4 (fun q h => rs_cw_in q (rs_w_ok u5 q h)) (fun q h => rs_ca_in q (rs_a_ok u6 q h))))))
  have S6 := oS_of j3.2.1
  obtain ⟨⟨s8, s9, s0⟩, s1, s2, s3⟩ := rs_SM (tl_C CC) (oS_of hG) S6 (SM_tr (SM_fr (oS_of hG) S1 m3 uA) (SM_tr v4 (SM_fr (oS_of d3) S6 j4 uC)))
  exact rs_end he (List.all_eq_true.mp t3 q j1) CC j3 (px_fr_delF (px_fr_delF (px_fr_delF (px_fr_delA (px_fr_delA (px_fr_delA F s8) s9) s0) s1) s2) s3)
end rs_M
/-- two contracts of the same call -/
theorem rs_and {mi : Nat} {fs : List ab_F} {outs outs' : rs_Q} {ws ws' ws2 : List (Nat × Nat)} {wa wa' wa2 : List Nat} (a : nm_ok (mi, fs, [], outs, ws, wa)) (b : nm_ok (mi, fs, [], outs', ws', wa')) (e1 : ws.all (fun q => !(ac_has ws' q.1 q.2) || ac_has ws2 q.1 q.2) = true) (e2 : wa.all (fun c => !(ac_in c wa') || ac_in c wa2) = true) : nm_ok (mi, fs, [], outs, ws2, wa2) := by
  intro av hp hG hav hfl
  obtain ⟨r, h1, o, m1, m2, m3, m4, m5, m6, m7⟩ := a av hp hG hav hfl
  obtain ⟨r', h1', o', n1, n2, n3, n4, n5, n6, n7⟩ := b av hp hG hav hfl
  have e : h1' = h1 := (px_C_fun n2 m2).2
  rw [e] at n7
  refine ⟨r, h1, o, m1, m2, m3, m4, m5, m6, px_fr_and m7 n7 (fun q hq hq' => ?_) (fun q hq hq' => ?_)⟩
  · have := List.all_eq_true.mp e1 q hq
    have t : ac_has ws' q.1 q.2 = true := List.any_eq_true.mpr ⟨q, hq', by simp only [Nat.beq_refl, Bool.and_true]⟩
    rw [t] at this
    exact rs_w_ok (w := [q]) (by unfold rs_w; simpa using this) q List.mem_cons_self
  · have := List.all_eq_true.mp e2 q hq
    have t : ac_in q wa' = true := by
      cases h : ac_in q wa' with
      | true => rfl
      | false => exact absurd hq' (ac_in_no h)
    rw [t] at this
    exact ac_in_ok (by simpa using this)
end mg_0

section mg_1
/-! questions that leave the chest as it was: printed by drv.py -r -/
abbrev rl1_M_reachesNow : rs_L := ([(0, ((2, 0, 0, [69]), none)), (1, ((0, 0, 5, []), some (2, 1, 0)))], [((-2147483648), 2147483647), (0, 5)])
abbrev rl2_M_reachesNow : rs_L := ([(0, ((2, 0, 0, [69]), none)), (1, ((0, 0, 5, []), some (2, 1, 0))), (2, ((0, 0, 1, []), none))], [((-2147483648), 2147483647), (0, 5)])
set_option maxRecDepth 1000000 in
theorem rt_M_reachesNow : (rs_e1 [] [] [] [] mi_M_reachesNow mm_M_reachesNow kc_M_reachesNow_0.2.1 kc_M_reachesNow_0.2.2.2.1 1 rl1_M_reachesNow && (rs_e2 [kc_M_reaches_0] [] [(69, 31), (69, 32), (69, 33), (69, 45), (69, 46)] [88, 89, 90, 93, 94, 95, 96, 97] mi_M_reachesNow mm_M_reachesNow 4 11 rl1_M_reachesNow rl2_M_reachesNow && rs_e3 [] [] [] [] mi_M_reachesNow mm_M_reachesNow kc_M_reachesNow_0.2.1 kc_M_reachesNow_0.2.2.2.1 14 rl2_M_reachesNow)) = true := by decide +kernel
theorem kp_M_reachesNow_0 : nm_ok kc_M_reachesNow_0 := rs_ok (i1 := 243) (i2 := 251) (fun _ h => absurd h List.not_mem_nil) (List.forall_mem_cons.mpr ⟨kp_M_reaches_0, fun _ h => absurd h List.not_mem_nil⟩) (fun _ h => absurd h List.not_mem_nil) rfl (Nat.le_of_ble_eq_true rfl) rfl rfl rfl rfl (Bool.and_eq_true_iff.mp rt_M_reachesNow).1 (Bool.and_eq_true_iff.mp (Bool.and_eq_true_iff.mp rt_M_reachesNow).2).1 (Bool.and_eq_true_iff.mp (Bool.and_eq_true_iff.mp rt_M_reachesNow).2).2 rfl rfl rfl (by decide +kernel)
abbrev rl1_M_notes : rs_L := ([(0, ((2, 0, 0, [69]), none)), (1, ((0, 0, 5, []), some (2, 1, 0)))], [((-2147483648), 2147483647), (0, 5)])
abbrev rl2_M_notes : rs_L := ([(0, ((2, 0, 0, [69]), none)), (1, ((0, 0, 5, []), some (2, 1, 0))), (2, ((0, 0, 3000, []), none))], [((-2147483648), 2147483647), (0, 5)])
set_option maxRecDepth 1000000 in
theorem rt_M_notes : (rs_e1 [] [] [] [] mi_M_notes mm_M_notes kc_M_notes_0.2.1 kc_M_notes_0.2.2.2.1 1 rl1_M_notes && (rs_e2 [kc_M_satAt_0] [kl_M_notes_6] [(69, 32), (69, 33)] [88, 89, 90, 98] mi_M_notes mm_M_notes 4 35 rl1_M_notes rl2_M_notes && rs_e3 [] [] [] [] mi_M_notes mm_M_notes kc_M_notes_0.2.1 kc_M_notes_0.2.2.2.1 38 rl2_M_notes)) = true := by decide +kernel
theorem kp_M_notes_0 : nm_ok kc_M_notes_0 := rs_ok (i1 := 243) (i2 := 251) (fun _ h => absurd h List.not_mem_nil) (List.forall_mem_cons.mpr ⟨kp_M_satAt_0, fun _ h => absurd h List.not_mem_nil⟩) (fun _ h => absurd h List.not_mem_nil) rfl (Nat.le_of_ble_eq_true rfl) rfl rfl rfl rfl (Bool.and_eq_true_iff.mp rt_M_notes).1 (Bool.and_eq_true_iff.mp (Bool.and_eq_true_iff.mp rt_M_notes).2).1 (Bool.and_eq_true_iff.mp (Bool.and_eq_true_iff.mp rt_M_notes).2).2 rfl rfl rfl (by decide +kernel)
abbrev rl1_M_ever : rs_L := ([(0, ((2, 0, 0, [69]), none)), (1, ((0, (-2147483648), 2147483647, []), some (2, 1, 0))), (2, ((0, 0, 5, []), none))], [((-2147483648), 2147483647), (0, 9)])
abbrev rl2_M_ever : rs_L := ([(0, ((2, 0, 0, [69]), none)), (1, ((0, (-2147483648), 2147483647, []), some (2, 1, 0))), (2, ((0, 0, 5, []), none)), (3, ((1, (-9223372036854775808), 9223372036854775807, []), none)), (5, ((0, 0, 3000, []), none))], [((-2147483648), 2147483647), (0, 9)])
set_option maxRecDepth 1000000 in
theorem rt_M_ever : (rs_e1 [kc_M_reachesNow_0] [] [(69, 0), (69, 34), (69, 35), (69, 36), (69, 45), (69, 46)] [93, 94, 95, 96, 97] mi_M_ever mm_M_ever kc_M_ever_0.2.1 kc_M_ever_0.2.2.2.1 48 rl1_M_ever && (rs_e2 [kc_M_unpacks_0] [kl_M_ever_56] [(69, 32), (69, 33)] [88, 89, 90] mi_M_ever mm_M_ever 51 104 rl1_M_ever rl2_M_ever && rs_e3 [] [] [(69, 1)] [70] mi_M_ever mm_M_ever kc_M_ever_0.2.1 kc_M_ever_0.2.2.2.1 107 rl2_M_ever)) = true := by decide +kernel
theorem kp_M_ever_0 : nm_ok kc_M_ever_0 := rs_ok (i1 := 243) (i2 := 251) (List.forall_mem_cons.mpr ⟨kp_M_reachesNow_0, fun _ h => absurd h List.not_mem_nil⟩) (List.forall_mem_cons.mpr ⟨kp_M_unpacks_0, fun _ h => absurd h List.not_mem_nil⟩) (fun _ h => absurd h List.not_mem_nil) rfl (Nat.le_of_ble_eq_true rfl) rfl rfl rfl rfl (Bool.and_eq_true_iff.mp rt_M_ever).1 (Bool.and_eq_true_iff.mp (Bool.and_eq_true_iff.mp rt_M_ever).2).1 (Bool.and_eq_true_iff.mp (Bool.and_eq_true_iff.mp rt_M_ever).2).2 rfl rfl rfl (by decide +kernel)
def kv_M_tries_0 : ac_K := (mi_M_tries, [(2, 0, 0, [69]), (0, 0, 1, []), (0, 0, 1023, []), (0, 0, 5, [])], [], [(some (0, 0, 1, []), [], [])], [(69, 34), (69, 35), (69, 36), (69, 45), (69, 46), (69, 48)], [76, 93, 94, 95, 96, 97, 98])
def kt_M_tries_0 : ac_K := (mi_M_tries, [(2, 0, 0, [69]), (0, 0, 1, []), (0, 0, 1023, []), (0, 0, 5, [])], [], [(some (0, 0, 1, []), [], [])], [(69, 31), (69, 32), (69, 33), (69, 34), (69, 35), (69, 36), (69, 45), (69, 46), (69, 48)], [88, 89, 90, 93, 94, 95, 96, 97, 98])
abbrev rl1_M_tries : rs_L := ([(0, ((2, 0, 0, [69]), none)), (1, ((0, 0, 1, []), some (2, 1, 0))), (2, ((0, 0, 1023, []), some (2, 2, 0))), (3, ((0, 0, 5, []), some (2, 3, 0)))], [((-2147483648), 2147483647), (0, 1), (0, 1023), (0, 5)])
abbrev rl2_M_tries : rs_L := ([(0, ((2, 0, 0, [69]), none)), (1, ((0, 0, 1, []), some (2, 1, 0))), (2, ((0, 0, 1023, []), some (2, 2, 0))), (3, ((0, 0, 5, []), some (2, 3, 0))), (4, ((0, 0, 1, []), none))], [((-2147483648), 2147483647), (0, 1), (0, 1023), (0, 5)])
set_option maxRecDepth 1000000 in
theorem rt_M_tries : (rs_e1 [] [] [] [] mi_M_tries mm_M_tries kv_M_tries_0.2.1 kv_M_tries_0.2.2.2.1 1 rl1_M_tries && (rs_e2 [kc_M_isAsBefore_0, kc_M_reaches_0] [] [(69, 31), (69, 32), (69, 33), (69, 45), (69, 46), (69, 48)] [76, 88, 89, 90, 93, 94, 95, 96, 97] mi_M_tries mm_M_tries 4 43 rl1_M_tries rl2_M_tries && rs_e3 [kc_M_notes_0] [] [(69, 34), (69, 35), (69, 36)] [98] mi_M_tries mm_M_tries kv_M_tries_0.2.1 kv_M_tries_0.2.2.2.1 46 rl2_M_tries)) = true := by decide +kernel
theorem kw_M_tries_0 : nm_ok kv_M_tries_0 := rs_ok (i1 := 243) (i2 := 251) (fun _ h => absurd h List.not_mem_nil) (List.forall_mem_cons.mpr ⟨kp_M_isAsBefore_0, List.forall_mem_cons.mpr ⟨kp_M_reaches_0, fun _ h => absurd h List.not_mem_nil⟩⟩) (List.forall_mem_cons.mpr ⟨kp_M_notes_0, fun _ h => absurd h List.not_mem_nil⟩) rfl (Nat.le_of_ble_eq_true rfl) rfl rfl rfl rfl (Bool.and_eq_true_iff.mp rt_M_tries).1 (Bool.and_eq_true_iff.mp (Bool.and_eq_true_iff.mp rt_M_tries).2).1 (Bool.and_eq_true_iff.mp (Bool.and_eq_true_iff.mp rt_M_tries).2).2 rfl rfl rfl (by decide +kernel)
abbrev tr_fs : List ab_F := kt_M_tries_0.2.1
def tr_B10 : ac_S := ([(0, ((2, 0, 0, [69]), none)), (1, ((0, 0, 1, []), some (2, 1, 0))), (2, ((0, 0, 1023, []), some (2, 2, 0))), (3, ((0, 0, 5, []), some (2, 3, 0)))], [((0, 0, 1, []), some (2, 1, 0)), ((2, 0, 0, [76]), none), ((2, 0, 0, [69]), none)], [], [], [], [])
def tr_e10 : Bool := match ex_runS [kc_M_remembers_0] [] [(69, 34), (69, 35), (69, 36)] [] mi_M_tries mm_M_tries tr_fs [] [10] with
  | some o => o.1.isEmpty && o.2.all (fun q => Nat.beq q.1 10 && ac_le nm_GH none q.2 tr_B10)
  | none => false
def tr_A21 : ac_S := (tr_B10.1, [], [], [], [], [])
def tr_BS : ac_S := ([(0, ((2, 0, 0, [69]), none)), (3, ((0, 0, 5, []), none)), (4, ((0, 0, 1, []), none))], [((0, 0, 1023, []), some (1, 69, 48)), ((0, 0, 1, []), some (2, 1, 0)), ((2, 0, 0, [76]), none)], [], [], [], [])
abbrev tr_w1 : List (Nat × Nat) := [(69, 31), (69, 32), (69, 33), (69, 45), (69, 46)]
abbrev tr_a1 : List Nat := [88, 89, 90, 93, 94, 95, 96, 97]
def tr_e21 : Bool := match ac_run nm_T nm_P nm_GH nm_FA [kc_M_isAsBefore_0, kc_M_reaches_0] [] tr_w1 tr_a1 20000 false [41] mi_M_tries mm_M_tries 21 tr_A21 with
  | some o => o.1.isEmpty && o.2.all (fun q => Nat.beq q.1 41 && ac_le nm_GH none q.2 tr_BS)
  | none => false
def tr_AS : ac_S := (tr_BS.1, [], [], [], [], [])
abbrev tr_w2 : List (Nat × Nat) := [(69, 31), (69, 32), (69, 33), (69, 34), (69, 35), (69, 36)]
abbrev tr_a2 : List Nat := [88, 89, 90, 98]
def tr_eS : Bool := match ac_run nm_T nm_P nm_GH nm_FA [kc_M_comesBack_0, kc_M_notes_0] [] tr_w2 tr_a2 20000 false [] mi_M_tries mm_M_tries 42 tr_AS with
  | some (os, []) => os.all (fun o => match o.1 with | some a => ab_le a.1 (0, 0, 1, []) | none => false)
  | _ => false
set_option maxRecDepth 1000000 in
theorem tr_t : (tr_e10 && (tr_e21 && tr_eS)) = true := by decide +kernel
set_option maxHeartbeats 4000000 in
theorem ku_M_tries_0 : nm_ok kt_M_tries_0 := by
  intro av hp hG hgs hfl
  have t := tr_t
  simp only [Bool.and_eq_true] at t
  obtain ⟨t1, t2, t3⟩ := t
  unfold tr_e10 at t1
  split at t1
  rotate_left
  · cases t1
  rename_i o ho
  simp only [Bool.and_eq_true, List.all_eq_true, List.isEmpty_iff] at t1
  have hov0 : ac_ov [] hp := fun q hq => (by cases hq)
  rcases ex_runS_ok (List.forall_mem_cons.mpr ⟨kp_M_remembers_0, fun _ h => absurd h List.not_mem_nil⟩) rfl (Nat.le_of_ble_eq_true rfl) ho hG hgs hov0 with ⟨r, hp', q, m1, -⟩ | ⟨pc', lv, st, hp1, A', m1, m2, m3, m4⟩
  · rw [t1.1] at m1
    cases m1
  obtain ⟨q1, q2⟩ := t1.2 _ m1
  have q1 := Nat.eq_of_beq_eq_true q1
  simp only at q1
  subst q1
  obtain ⟨γ2, -, h9, -⟩ := ac_le_ok q2 m2
  obtain ⟨b1, b2, b3, b4, -⟩ := h9
  obtain ⟨u0, l0, o0⟩ := b1 0 _ (List.mem_cons_self)
  obtain ⟨u1, l1, o1⟩ := b1 1 _ (List.mem_cons_of_mem _ List.mem_cons_self)
  obtain ⟨u2, l2, o2⟩ := b1 2 _ (List.mem_cons_of_mem _ (List.mem_cons_of_mem _ List.mem_cons_self))
  obtain ⟨c0, rfl, e0⟩ := ab_f2 o0.1
  cases List.mem_singleton.mp e0
  obtain ⟨rfl, p0, p1⟩ := ex_org o1
  obtain ⟨rfl, x0, x9⟩ := ex_org o2
  match st, b2, m4 with
  | [w1, w2, w3], ⟨s1, s2, s3, _⟩, m4 =>
    obtain ⟨rfl, -, -⟩ := ex_org s1
    obtain ⟨c1, rfl, e1⟩ := ab_f2 s2.1
    cases List.mem_singleton.mp e1
    obtain ⟨c2, rfl, e2⟩ := ab_f2 s3.1
    cases List.mem_singleton.mp e2
    obtain ⟨f, hf, fb⟩ := ac_arrI b3 (c := na_packed) (t := nr_packed) (n := 2) (lo := 0) (hi := 1023) (Nat.le_of_ble_eq_true rfl) rfl
    obtain ⟨f0, hf0, -⟩ := ac_arrI hG (c := na_packed) (t := nr_packed) (n := 2) (lo := 0) (hi := 1023) (Nat.le_of_ble_eq_true rfl) rfl
    have hff := m3.1 _ _ (by decide) hf0
    rw [hf] at hff
    cases hff
    obtain ⟨fs, hx, -, -⟩ := ac_obj b3 (c := 69) rfl
    obtain ⟨wp, hwp, -, -⟩ := nm_fI b3 hx (k := nf_wasPacked) (a := 0) (b := 1023) rfl
    have hk : nf_wasPacked < fs.length := (List.getElem?_eq_some_iff.mp hwp).1
    have hB : (ac_xs av 1).toNatClampNeg < 2 := by unfold Int32.toNatClampNeg; omega
    have hfb := fb _ hB
    have hG2 : ab_h nm_GH (hp1.set 69 (.inr (9, fs.set nf_wasPacked (.int (f (ac_xs av 1).toNatClampNeg))))) := nm_h_obj b3 hx (f := (0, 0, 1023, [])) (fun FS h => by cases h; rfl) ⟨rfl, hfb.1, hfb.2⟩
    have f2 : px_fr [(69, 48)] [] hp1 (hp1.set 69 (.inr (9, fs.set nf_wasPacked (.int (f (ac_xs av 1).toNatClampNeg))))) := px_fr_obj hx (by decide)
    have hx2 : (hp1.set 69 (.inr (9, fs.set nf_wasPacked (.int (f (ac_xs av 1).toNatClampNeg)))))[69]? = some (.inr (9, fs.set nf_wasPacked (.int (f (ac_xs av 1).toNatClampNeg)))) := List.getElem?_set_self (List.getElem?_eq_some_iff.mp hx).1
    have hf2 : (hp1.set 69 (.inr (9, fs.set nf_wasPacked (.int (f (ac_xs av 1).toNatClampNeg)))))[na_packed]? = some (.inl (nr_packed, 2, .inl f)) := by rw [List.getElem?_set_ne (by decide)]; exact hf
    have hw2 : ac_fv (hp1.set 69 (.inr (9, fs.set nf_wasPacked (.int (f (ac_xs av 1).toNatClampNeg))))) 69 48 = some (.int (f (ac_xs av 1).toNatClampNeg)) := by
      unfold ac_fv
      rw [hx2]
      exact List.getElem?_set_self hk
    generalize hh1 : hp1.set 69 (.inr (9, fs.set nf_wasPacked (.int (f (ac_xs av 1).toNatClampNeg)))) = hp2 at hG2 f2 hx2 hf2 hw2
    have hG3 : ab_h nm_GH (hp2.set na_packed (.inl (nr_packed, 2, .inl (upd f (ac_xs av 1).toNatClampNeg (ac_xs av 2))))) := ac_h_arr hG2 (c := na_packed) hf2 rfl (y := (nr_packed, 2, .inl (upd f (ac_xs av 1).toNatClampNeg (ac_xs av 2)))) ⟨rfl, rfl, fun j hj => by
      simp only [upd]
      split
      · exact ⟨rfl, x0, x9⟩
      · exact ⟨rfl, fb j hj⟩⟩
    have hf3 : (hp2.set na_packed (.inl (nr_packed, 2, .inl (upd f (ac_xs av 1).toNatClampNeg (ac_xs av 2)))))[na_packed]? = some (.inl (nr_packed, 2, .inl (upd f (ac_xs av 1).toNatClampNeg (ac_xs av 2)))) := List.getElem?_set_self (List.getElem?_eq_some_iff.mp hf2).1
    have hw3 : ac_fv (hp2.set na_packed (.inl (nr_packed, 2, .inl (upd f (ac_xs av 1).toNatClampNeg (ac_xs av 2))))) 69 48 = some (.int (f (ac_xs av 1).toNatClampNeg)) := by rw [ac_fv_arr hf2]; exact hw2
    have hlv := ex_sG (hp2.set na_packed (.inl (nr_packed, 2, .inl (upd f (ac_xs av 1).toNatClampNeg (ac_xs av 2))))) (L := tr_B10.1) rfl b1
    have f3 : px_fr [] [76] hp2 (hp2.set na_packed (.inl (nr_packed, 2, .inl (upd f (ac_xs av 1).toNatClampNeg (ac_xs av 2))))) := px_fr_arr hf2 (by decide)
    generalize hh2 : hp2.set na_packed (.inl (nr_packed, 2, .inl (upd f (ac_xs av 1).toNatClampNeg (ac_xs av 2)))) = hp3 at hG3 hf3 hw3 hlv f3
    unfold tr_e21 at t2
    split at t2
    rotate_left
    · cases t2
    rename_i o2 ho2
    simp only [Bool.and_eq_true, List.all_eq_true, List.isEmpty_iff] at t2
    rcases ex_goS (List.forall_mem_cons.mpr ⟨kp_M_isAsBefore_0, List.forall_mem_cons.mpr ⟨kp_M_reaches_0, fun _ h => absurd h List.not_mem_nil⟩⟩) ho2 (xs := ac_xs av) (γ := fun _ => 0) (lv := lv) (st := []) (hp := hp3) ⟨hlv, trivial, hG3, fun q hq => (by cases hq), fun j q hq => (by simp [tr_A21] at hq), fun i hi => (by cases hi), fun q hq => (by cases hq)⟩ with ⟨r, hp', q, n1, -⟩ | ⟨pc2, lv2, st2, hp4, A2, n1, n2, n3, n4⟩
    · rw [t2.1] at n1
      cases n1
    obtain ⟨q3, q4⟩ := t2.2 _ n1
    have q3 := Nat.eq_of_beq_eq_true q3
    simp only at q3
    subst q3
    obtain ⟨γ3, -, h8, -⟩ := ac_le_ok q4 n2
    obtain ⟨y1, y2, y3, y4, -⟩ := h8
    match st2, y2, n4 with
    | [v1, v2, v3], ⟨z1, z2, z3, _⟩, n4 =>
      obtain ⟨x, rfl, hxx⟩ := ab_f0 z1.1
      obtain ⟨rfl, -, -⟩ := ex_org z2
      obtain ⟨c3, rfl, e3⟩ := ab_f2 z3.1
      cases List.mem_singleton.mp e3
      have hw4 := ex_fv_fr n3 (by decide) hw3
      have hxw : x = f (ac_xs av 1).toNatClampNeg := by
        obtain ⟨w, w1, w2⟩ := z1.2 _ rfl
        have w1' : ac_fv hp4 69 48 = some w := w1
        rw [hw4] at w1'
        cases w1'
        simp only [ab_num, Option.some.injEq] at w2
        rw [← Int32.toInt_inj, w2]
      subst hxw
      have hf4 : hp4[na_packed]? = some (.inl (nr_packed, 2, .inl (upd f (ac_xs av 1).toNatClampNeg (ac_xs av 2)))) := n3.1 _ _ (by decide) hf3
      have hup : upd (upd f (ac_xs av 1).toNatClampNeg (ac_xs av 2)) (ac_xs av 1).toNatClampNeg (f (ac_xs av 1).toNatClampNeg) = f := by
        funext i
        simp only [upd]
        split
        · rename_i h
          rw [h]
        · rfl
      have hG5 : ab_h nm_GH (hp4.set na_packed (.inl (nr_packed, 2, .inl f))) := ac_h_arr y3 (c := na_packed) hf4 rfl (y := (nr_packed, 2, .inl f)) ⟨rfl, rfl, fun j hj => ⟨rfl, fb j hj⟩⟩
      have hf5 : (hp4.set na_packed (.inl (nr_packed, 2, .inl f)))[na_packed]? = some (.inl (nr_packed, 2, .inl f)) := List.getElem?_set_self (List.getElem?_eq_some_iff.mp hf4).1
      have hlv5 := ex_sA (hp4.set na_packed (.inl (nr_packed, 2, .inl f))) (L := tr_BS.1) rfl y1
      have f5 : px_fr [] [76] hp4 (hp4.set na_packed (.inl (nr_packed, 2, .inl f))) := px_fr_arr hf4 (by decide)
      generalize hh5 : hp4.set na_packed (.inl (nr_packed, 2, .inl f)) = hp5 at hG5 hf5 hlv5 f5
      unfold tr_eS at t3
      split at t3
      rotate_left
      · cases t3
      rename_i os hos
      obtain ⟨r, hp6, q, k1, k2, k3, k4⟩ := ex_goOn (List.forall_mem_cons.mpr ⟨kp_M_comesBack_0, List.forall_mem_cons.mpr ⟨kp_M_notes_0, fun _ h => absurd h List.not_mem_nil⟩⟩) hos (xs := ac_xs av) (γ := fun _ => 0) (lv := lv2) (st := []) (hp := hp5) ⟨hlv5, trivial, hG5, fun q hq => (by cases hq), fun j q hq => (by simp [tr_AS] at hq), fun i hi => (by cases hi), fun q hq => (by cases hq)⟩
      have hq := List.all_eq_true.mp t3 q k1
      have hf6 : hp6[na_packed]? = some (.inl (nr_packed, 2, .inl f)) := k4.1 _ _ (by decide) hf5
      refine ⟨r, hp6, _, List.mem_cons_self, m4 _ _ ?_, k3.2.1, ?_, fun q hq => (by cases hq), fun i hi => (by cases hi), ?_⟩
      · refine px_q_iald (len := 1) rfl hf rfl (nm_ixR _ 2 p0 (by omega)) ?_
        refine px_q_putf (len := 3) (ci := 9) (k := nf_wasPacked) (fs := fs) rfl rfl hx hk rfl rfl rfl rfl ?_
        rw [hh1]
        refine px_q_aln (pc := 14) (len := 1) (j := 0) rfl l0 ?_
        refine px_q_get (len := 3) (ci := 9) (k := nf_packed) (fs := fs.set nf_wasPacked (.int (f (ac_xs av 1).toNatClampNeg))) (v := .ref na_packed) rfl rfl hx2 (nm_f hG2 hx2 rfl) ?_
        refine px_q_iln (len := 1) (j := 1) rfl l1 ?_
        refine px_q_iln (len := 1) (j := 2) rfl l2 ?_
        refine px_q_iast (len := 1) rfl hf2 rfl (nm_ixR _ 2 p0 (by omega)) ?_
        rw [hh2]
        refine n4 _ _ ?_
        refine px_q_iast (len := 1) rfl hf4 rfl (nm_ixR _ 2 p0 (by omega)) ?_
        rw [hup, hh5]
        exact k2
      · have g := k3.1
        cases hq1 : q.1 with
        | none => rw [hq1] at hq; cases hq
        | some a =>
          rw [hq1] at hq g
          cases r with
          | none => exact absurd g (by simp)
          | some v => exact ab_le_ok hq g.1
      · refine px_fr_delA (c := 76) ?_ (by rw [hf0]; exact hf6)
        exact px_fr_tr (px_fr_mono m3 (by decide) (fun q hq => (by cases hq))) (px_fr_tr (px_fr_mono f2 (by decide) (fun q hq => (by cases hq))) (px_fr_tr (px_fr_mono f3 (fun q hq => (by cases hq)) (by decide)) (px_fr_tr (px_fr_mono n3 (by decide) (by decide)) (px_fr_tr (px_fr_mono f5 (fun q hq => (by cases hq)) (by decide)) (px_fr_mono k4 (by decide) (by decide))))))
theorem kp_M_tries_0 : nm_ok kc_M_tries_0 := rs_and kw_M_tries_0 ku_M_tries_0 rfl rfl
def kv_M_lets_0 : ac_K := (mi_M_lets, [(2, 0, 0, [69]), (0, 0, 1, []), (0, 0, 1023, [])], [], [(some (1, (-9223372036854775808), 9223372036854775807, []), [], [])], [(69, 34), (69, 35), (69, 36), (69, 45), (69, 46), (69, 48)], [76, 93, 94, 95, 96, 97])
def kt_M_lets_0 : ac_K := (mi_M_lets, [(2, 0, 0, [69]), (0, 0, 1, []), (0, 0, 1023, [])], [], [(some (1, (-9223372036854775808), 9223372036854775807, []), [], [])], [(69, 31), (69, 32), (69, 33), (69, 34), (69, 35), (69, 36), (69, 45), (69, 46), (69, 48)], [88, 89, 90, 93, 94, 95, 96, 97])
abbrev rl1_M_lets : rs_L := ([(0, ((2, 0, 0, [69]), none)), (1, ((0, 0, 1, []), some (2, 1, 0))), (2, ((0, 0, 1023, []), some (2, 2, 0)))], [((-2147483648), 2147483647), (0, 1), (0, 1023)])
abbrev rl2_M_lets : rs_L := ([(0, ((2, 0, 0, [69]), none)), (1, ((0, 0, 1, []), some (2, 1, 0))), (2, ((0, 0, 1023, []), some (2, 2, 0))), (3, ((0, 0, 1, []), none)), (4, ((0, 0, 6, []), none))], [((-2147483648), 2147483647), (0, 1), (0, 1023)])
set_option maxRecDepth 1000000 in
theorem rt_M_lets : (rs_e1 [] [] [] [] mi_M_lets mm_M_lets kv_M_lets_0.2.1 kv_M_lets_0.2.2.2.1 1 rl1_M_lets && (rs_e2 [kc_M_isAsBefore_0, kc_M_empties_0, kc_M_adds_0, kc_M_goesThrough_0, kc_M_keepsListed_0] [kl_M_lets_44] [(69, 31), (69, 32), (69, 33), (69, 45), (69, 46), (69, 48)] [76, 88, 89, 90, 93, 94, 95, 96, 97] mi_M_lets mm_M_lets 4 91 rl1_M_lets rl2_M_lets && rs_e3 [] [kl_M_lets_108] [] [] mi_M_lets mm_M_lets kv_M_lets_0.2.1 kv_M_lets_0.2.2.2.1 94 rl2_M_lets)) = true := by decide +kernel
theorem kw_M_lets_0 : nm_ok kv_M_lets_0 := rs_ok (i1 := 243) (i2 := 251) (fun _ h => absurd h List.not_mem_nil) (List.forall_mem_cons.mpr ⟨kp_M_isAsBefore_0, List.forall_mem_cons.mpr ⟨kp_M_empties_0, List.forall_mem_cons.mpr ⟨kp_M_adds_0, List.forall_mem_cons.mpr ⟨kp_M_goesThrough_0, List.forall_mem_cons.mpr ⟨kp_M_keepsListed_0, fun _ h => absurd h List.not_mem_nil⟩⟩⟩⟩⟩) (fun _ h => absurd h List.not_mem_nil) rfl (Nat.le_of_ble_eq_true rfl) rfl rfl rfl rfl (Bool.and_eq_true_iff.mp rt_M_lets).1 (Bool.and_eq_true_iff.mp (Bool.and_eq_true_iff.mp rt_M_lets).2).1 (Bool.and_eq_true_iff.mp (Bool.and_eq_true_iff.mp rt_M_lets).2).2 rfl rfl rfl (by decide +kernel)
abbrev le_fs : List ab_F := kt_M_lets_0.2.1
def le_B10 : ac_S := ([(0, ((2, 0, 0, [69]), none)), (1, ((0, 0, 1, []), some (2, 1, 0))), (2, ((0, 0, 1023, []), some (2, 2, 0)))], [((0, 0, 1, []), some (2, 1, 0)), ((2, 0, 0, [76]), none), ((2, 0, 0, [69]), none)], [], [], [], [])
def le_e10 : Bool := match ex_runS [kc_M_remembers_0] [] [(69, 34), (69, 35), (69, 36)] [] mi_M_lets mm_M_lets le_fs [] [10] with
  | some o => o.1.isEmpty && o.2.all (fun q => Nat.beq q.1 10 && ac_le nm_GH none q.2 le_B10)
  | none => false
def le_A21 : ac_S := (le_B10.1, [], [], [], [], [])
def le_BS : ac_S := ([(0, ((2, 0, 0, [69]), none)), (3, ((0, 0, 1, []), none))], [((0, 0, 1023, []), some (1, 69, 48)), ((0, 0, 1, []), some (2, 1, 0)), ((2, 0, 0, [76]), none)], [], [], [], [])
abbrev le_w1 : List (Nat × Nat) := [(69, 31), (69, 32), (69, 33), (69, 45), (69, 46)]
abbrev le_a1 : List Nat := [88, 89, 90, 93, 94, 95, 96, 97]
def le_e21 : Bool := match ac_run nm_T nm_P nm_GH nm_FA [kc_M_isAsBefore_0, kc_M_empties_0, kc_M_adds_0, kc_M_goesThrough_0, kc_M_keepsListed_0] [kl_M_lets_44] le_w1 le_a1 20000 false [89] mi_M_lets mm_M_lets 21 le_A21 with
  | some o => o.1.isEmpty && o.2.all (fun q => Nat.beq q.1 89 && ac_le nm_GH none q.2 le_BS)
  | none => false
def le_AS : ac_S := (le_BS.1, [], [], [], [], [])
abbrev le_w2 : List (Nat × Nat) := [(69, 31), (69, 32), (69, 33)]
abbrev le_a2 : List Nat := [88, 89, 90]
def le_eS : Bool := match ac_run nm_T nm_P nm_GH nm_FA [kc_M_comesBack_0] [kl_M_lets_108] le_w2 le_a2 20000 false [] mi_M_lets mm_M_lets 90 le_AS with
  | some (os, []) => os.all (fun o => match o.1 with | some a => ab_le a.1 (1, (-9223372036854775808), 9223372036854775807, []) | none => false)
  | _ => false
set_option maxRecDepth 1000000 in
theorem le_t : (le_e10 && (le_e21 && le_eS)) = true := by decide +kernel
set_option maxHeartbeats 4000000 in
theorem ku_M_lets_0 : nm_ok kt_M_lets_0 := by
  intro av hp hG hgs hfl
  have t := le_t
  simp only [Bool.and_eq_true] at t
  obtain ⟨t1, t2, t3⟩ := t
  unfold le_e10 at t1
  split at t1
  rotate_left
  · cases t1
  rename_i o ho
  simp only [Bool.and_eq_true, List.all_eq_true, List.isEmpty_iff] at t1
  have hov0 : ac_ov [] hp := fun q hq => (by cases hq)
  rcases ex_runS_ok (List.forall_mem_cons.mpr ⟨kp_M_remembers_0, fun _ h => absurd h List.not_mem_nil⟩) rfl (Nat.le_of_ble_eq_true rfl) ho hG hgs hov0 with ⟨r, hp', q, m1, -⟩ | ⟨pc', lv, st, hp1, A', m1, m2, m3, m4⟩
  · rw [t1.1] at m1
    cases m1
  obtain ⟨q1, q2⟩ := t1.2 _ m1
  have q1 := Nat.eq_of_beq_eq_true q1
  simp only at q1
  subst q1
  obtain ⟨γ2, -, h9, -⟩ := ac_le_ok q2 m2
  obtain ⟨b1, b2, b3, b4, -⟩ := h9
  obtain ⟨u0, l0, o0⟩ := b1 0 _ (List.mem_cons_self)
  obtain ⟨u1, l1, o1⟩ := b1 1 _ (List.mem_cons_of_mem _ List.mem_cons_self)
  obtain ⟨u2, l2, o2⟩ := b1 2 _ (List.mem_cons_of_mem _ (List.mem_cons_of_mem _ List.mem_cons_self))
  obtain ⟨c0, rfl, e0⟩ := ab_f2 o0.1
  cases List.mem_singleton.mp e0
  obtain ⟨rfl, p0, p1⟩ := ex_org o1
  obtain ⟨rfl, x0, x9⟩ := ex_org o2
  match st, b2, m4 with
  | [w1, w2, w3], ⟨s1, s2, s3, _⟩, m4 =>
    obtain ⟨rfl, -, -⟩ := ex_org s1
    obtain ⟨c1, rfl, e1⟩ := ab_f2 s2.1
    cases List.mem_singleton.mp e1
    obtain ⟨c2, rfl, e2⟩ := ab_f2 s3.1
    cases List.mem_singleton.mp e2
    obtain ⟨f, hf, fb⟩ := ac_arrI b3 (c := na_packed) (t := nr_packed) (n := 2) (lo := 0) (hi := 1023) (Nat.le_of_ble_eq_true rfl) rfl
    obtain ⟨f0, hf0, -⟩ := ac_arrI hG (c := na_packed) (t := nr_packed) (n := 2) (lo := 0) (hi := 1023) (Nat.le_of_ble_eq_true rfl) rfl
    have hff := m3.1 _ _ (by decide) hf0
    rw [hf] at hff
    cases hff
    obtain ⟨fs, hx, -, -⟩ := ac_obj b3 (c := 69) rfl
    obtain ⟨wp, hwp, -, -⟩ := nm_fI b3 hx (k := nf_wasPacked) (a := 0) (b := 1023) rfl
    have hk : nf_wasPacked < fs.length := (List.getElem?_eq_some_iff.mp hwp).1
    have hB : (ac_xs av 1).toNatClampNeg < 2 := by unfold Int32.toNatClampNeg; omega
    have hfb := fb _ hB
    have hG2 : ab_h nm_GH (hp1.set 69 (.inr (9, fs.set nf_wasPacked (.int (f (ac_xs av 1).toNatClampNeg))))) := nm_h_obj b3 hx (f := (0, 0, 1023, [])) (fun FS h => by cases h; rfl) ⟨rfl, hfb.1, hfb.2⟩
    have f2 : px_fr [(69, 48)] [] hp1 (hp1.set 69 (.inr (9, fs.set nf_wasPacked (.int (f (ac_xs av 1).toNatClampNeg))))) := px_fr_obj hx (by decide)
    have hx2 : (hp1.set 69 (.inr (9, fs.set nf_wasPacked (.int (f (ac_xs av 1).toNatClampNeg)))))[69]? = some (.inr (9, fs.set nf_wasPacked (.int (f (ac_xs av 1).toNatClampNeg)))) := List.getElem?_set_self (List.getElem?_eq_some_iff.mp hx).1
    have hf2 : (hp1.set 69 (.inr (9, fs.set nf_wasPacked (.int (f (ac_xs av 1).toNatClampNeg)))))[na_packed]? = some (.inl (nr_packed, 2, .inl f)) := by rw [List.getElem?_set_ne (by decide)]; exact hf
    have hw2 : ac_fv (hp1.set 69 (.inr (9, fs.set nf_wasPacked (.int (f (ac_xs av 1).toNatClampNeg))))) 69 48 = some (.int (f (ac_xs av 1).toNatClampNeg)) := by
      unfold ac_fv
      rw [hx2]
      exact List.getElem?_set_self hk
    generalize hh1 : hp1.set 69 (.inr (9, fs.set nf_wasPacked (.int (f (ac_xs av 1).toNatClampNeg)))) = hp2 at hG2 f2 hx2 hf2 hw2
    have hG3 : ab_h nm_GH (hp2.set na_packed (.inl (nr_packed, 2, .inl (upd f (ac_xs av 1).toNatClampNeg (ac_xs av 2))))) := ac_h_arr hG2 (c := na_packed) hf2 rfl (y := (nr_packed, 2, .inl (upd f (ac_xs av 1).toNatClampNeg (ac_xs av 2)))) ⟨rfl, rfl, fun j hj => by
      simp only [upd]
      split
      · exact ⟨rfl, x0, x9⟩
      · exact ⟨rfl, fb j hj⟩⟩
    have hf3 : (hp2.set na_packed (.inl (nr_packed, 2, .inl (upd f (ac_xs av 1).toNatClampNeg (ac_xs av 2)))))[na_packed]? = some (.inl (nr_packed, 2, .inl (upd f (ac_xs av 1).toNatClampNeg (ac_xs av 2)))) := List.getElem?_set_self (List.getElem?_eq_some_iff.mp hf2).1
    have hw3 : ac_fv (hp2.set na_packed (.inl (nr_packed, 2, .inl (upd f (ac_xs av 1).toNatClampNeg (ac_xs av 2))))) 69 48 = some (.int (f (ac_xs av 1).toNatClampNeg)) := by rw [ac_fv_arr hf2]; exact hw2
    have hlv := ex_sG (hp2.set na_packed (.inl (nr_packed, 2, .inl (upd f (ac_xs av 1).toNatClampNeg (ac_xs av 2))))) (L := le_B10.1) rfl b1
    have f3 : px_fr [] [76] hp2 (hp2.set na_packed (.inl (nr_packed, 2, .inl (upd f (ac_xs av 1).toNatClampNeg (ac_xs av 2))))) := px_fr_arr hf2 (by decide)
    generalize hh2 : hp2.set na_packed (.inl (nr_packed, 2, .inl (upd f (ac_xs av 1).toNatClampNeg (ac_xs av 2)))) = hp3 at hG3 hf3 hw3 hlv f3
    unfold le_e21 at t2
    split at t2
    rotate_left
    · cases t2
    rename_i o2 ho2
    simp only [Bool.and_eq_true, List.all_eq_true, List.isEmpty_iff] at t2
    rcases ex_goS (List.forall_mem_cons.mpr ⟨kp_M_isAsBefore_0, List.forall_mem_cons.mpr ⟨kp_M_empties_0, List.forall_mem_cons.mpr ⟨kp_M_adds_0, List.forall_mem_cons.mpr ⟨kp_M_goesThrough_0, List.forall_mem_cons.mpr ⟨kp_M_keepsListed_0, fun _ h => absurd h List.not_mem_nil⟩⟩⟩⟩⟩) ho2 (xs := ac_xs av) (γ := fun _ => 0) (lv := lv) (st := []) (hp := hp3) ⟨hlv, trivial, hG3, fun q hq => (by cases hq), fun j q hq => (by simp [le_A21] at hq), fun i hi => (by cases hi), fun q hq => (by cases hq)⟩ with ⟨r, hp', q, n1, -⟩ | ⟨pc2, lv2, st2, hp4, A2, n1, n2, n3, n4⟩
    · rw [t2.1] at n1
      cases n1
    obtain ⟨q3, q4⟩ := t2.2 _ n1
    have q3 := Nat.eq_of_beq_eq_true q3
    simp only at q3
    subst q3
    obtain ⟨γ3, -, h8, -⟩ := ac_le_ok q4 n2
    obtain ⟨y1, y2, y3, y4, -⟩ := h8
    match st2, y2, n4 with
    | [v1, v2, v3], ⟨z1, z2, z3, _⟩, n4 =>
      obtain ⟨x, rfl, hxx⟩ := ab_f0 z1.1
      obtain ⟨rfl, -, -⟩ := ex_org z2
      obtain ⟨c3, rfl, e3⟩ := ab_f2 z3.1
      cases List.mem_singleton.mp e3
      have hw4 := ex_fv_fr n3 (by decide) hw3
      have hxw : x = f (ac_xs av 1).toNatClampNeg := by
        obtain ⟨w, w1, w2⟩ := z1.2 _ rfl
        have w1' : ac_fv hp4 69 48 = some w := w1
        rw [hw4] at w1'
        cases w1'
        simp only [ab_num, Option.some.injEq] at w2
        rw [← Int32.toInt_inj, w2]
      subst hxw
      have hf4 : hp4[na_packed]? = some (.inl (nr_packed, 2, .inl (upd f (ac_xs av 1).toNatClampNeg (ac_xs av 2)))) := n3.1 _ _ (by decide) hf3
      have hup : upd (upd f (ac_xs av 1).toNatClampNeg (ac_xs av 2)) (ac_xs av 1).toNatClampNeg (f (ac_xs av 1).toNatClampNeg) = f := by
        funext i
        simp only [upd]
        split
        · rename_i h
          rw [h]
        · rfl
      have hG5 : ab_h nm_GH (hp4.set na_packed (.inl (nr_packed, 2, .inl f))) := ac_h_arr y3 (c := na_packed) hf4 rfl (y := (nr_packed, 2, .inl f)) ⟨rfl, rfl, fun j hj => ⟨rfl, fb j hj⟩⟩
      have hf5 : (hp4.set na_packed (.inl (nr_packed, 2, .inl f)))[na_packed]? = some (.inl (nr_packed, 2, .inl f)) := List.getElem?_set_self (List.getElem?_eq_some_iff.mp hf4).1
      have hlv5 := ex_sA (hp4.set na_packed (.inl (nr_packed, 2, .inl f))) (L := le_BS.1) rfl y1
      have f5 : px_fr [] [76] hp4 (hp4.set na_packed (.inl (nr_packed, 2, .inl f))) := px_fr_arr hf4 (by decide)
      generalize hh5 : hp4.set na_packed (.inl (nr_packed, 2, .inl f)) = hp5 at hG5 hf5 hlv5 f5
      unfold le_eS at t3
      split at t3
      rotate_left
      · cases t3
      rename_i os hos
      obtain ⟨r, hp6, q, k1, k2, k3, k4⟩ := ex_goOn (List.forall_mem_cons.mpr ⟨kp_M_comesBack_0, fun _ h => absurd h List.not_mem_nil⟩) hos (xs := ac_xs av) (γ := fun _ => 0) (lv := lv2) (st := []) (hp := hp5) ⟨hlv5, trivial, hG5, fun q hq => (by cases hq), fun j q hq => (by simp [le_AS] at hq), fun i hi => (by cases hi), fun q hq => (by cases hq)⟩
      have hq := List.all_eq_true.mp t3 q k1
      have hf6 : hp6[na_packed]? = some (.inl (nr_packed, 2, .inl f)) := k4.1 _ _ (by decide) hf5
      refine ⟨r, hp6, _, List.mem_cons_self, m4 _ _ ?_, k3.2.1, ?_, fun q hq => (by cases hq), fun i hi => (by cases hi), ?_⟩
      · refine px_q_iald (len := 1) rfl hf rfl (nm_ixR _ 2 p0 (by omega)) ?_
        refine px_q_putf (len := 3) (ci := 9) (k := nf_wasPacked) (fs := fs) rfl rfl hx hk rfl rfl rfl rfl ?_
        rw [hh1]
        refine px_q_aln (pc := 14) (len := 1) (j := 0) rfl l0 ?_
        refine px_q_get (len := 3) (ci := 9) (k := nf_packed) (fs := fs.set nf_wasPacked (.int (f (ac_xs av 1).toNatClampNeg))) (v := .ref na_packed) rfl rfl hx2 (nm_f hG2 hx2 rfl) ?_
        refine px_q_iln (len := 1) (j := 1) rfl l1 ?_
        refine px_q_iln (len := 1) (j := 2) rfl l2 ?_
        refine px_q_iast (len := 1) rfl hf2 rfl (nm_ixR _ 2 p0 (by omega)) ?_
        rw [hh2]
        refine n4 _ _ ?_
        refine px_q_iast (len := 1) rfl hf4 rfl (nm_ixR _ 2 p0 (by omega)) ?_
        rw [hup, hh5]
        exact k2
      · have g := k3.1
        cases hq1 : q.1 with
        | none => rw [hq1] at hq; cases hq
        | some a =>
          rw [hq1] at hq g
          cases r with
          | none => exact absurd g (by simp)
          | some v => exact ab_le_ok hq g.1
      · refine px_fr_delA (c := 76) ?_ (by rw [hf0]; exact hf6)
        exact px_fr_tr (px_fr_mono m3 (by decide) (fun q hq => (by cases hq))) (px_fr_tr (px_fr_mono f2 (by decide) (fun q hq => (by cases hq))) (px_fr_tr (px_fr_mono f3 (fun q hq => (by cases hq)) (by decide)) (px_fr_tr (px_fr_mono n3 (by decide) (by decide)) (px_fr_tr (px_fr_mono f5 (fun q hq => (by cases hq)) (by decide)) (px_fr_mono k4 (by decide) (by decide))))))
theorem kp_M_lets_0 : nm_ok kc_M_lets_0 := rs_and kw_M_lets_0 ku_M_lets_0 rfl rfl
end mg_1

section mg_2
set_option maxRecDepth 1000000 in
theorem kq_M_asks_0 : ac_check nm_T nm_P nm_GH nm_FA [kc_M_reachesNow_0, kc_M_notes_0] [] 20000 kc_M_asks_0 = true := by decide +kernel
theorem kp_M_asks_0 : nm_ok kc_M_asks_0 := ac_check_ok nm_Fl nm_FG (List.forall_mem_cons.mpr ⟨kp_M_reachesNow_0, List.forall_mem_cons.mpr ⟨kp_M_notes_0, fun _ h => absurd h List.not_mem_nil⟩⟩) kq_M_asks_0
set_option maxRecDepth 1000000 in
theorem kq_M_chance_0 : ac_check nm_T nm_P nm_GH nm_FA [kc_M_asks_0, kc_M_anyOf_0] [] 20000 kc_M_chance_0 = true := by decide +kernel
theorem kp_M_chance_0 : nm_ok kc_M_chance_0 := ac_check_ok nm_Fl nm_FG (List.forall_mem_cons.mpr ⟨kp_M_asks_0, List.forall_mem_cons.mpr ⟨kp_M_anyOf_0, fun _ h => absurd h List.not_mem_nil⟩⟩) kq_M_chance_0
set_option maxRecDepth 1000000 in
theorem kq_M_each_0 : ac_check nm_T nm_P nm_GH nm_FA [kc_M_asks_0, kc_M_anyOf_0] [] 20000 kc_M_each_0 = true := by decide +kernel
theorem kp_M_each_0 : nm_ok kc_M_each_0 := ac_check_ok nm_Fl nm_FG (List.forall_mem_cons.mpr ⟨kp_M_asks_0, List.forall_mem_cons.mpr ⟨kp_M_anyOf_0, fun _ h => absurd h List.not_mem_nil⟩⟩) kq_M_each_0
set_option maxRecDepth 1000000 in
theorem kq_M_empty_0 : ac_check nm_T nm_P nm_GH nm_FA [kc_M_asks_0, kc_M_filled_0] [] 20000 kc_M_empty_0 = true := by decide +kernel
theorem kp_M_empty_0 : nm_ok kc_M_empty_0 := ac_check_ok nm_Fl nm_FG (List.forall_mem_cons.mpr ⟨kp_M_asks_0, List.forall_mem_cons.mpr ⟨kp_M_filled_0, fun _ h => absurd h List.not_mem_nil⟩⟩) kq_M_empty_0
set_option maxRecDepth 1000000 in
theorem kq_M_vain_0 : ac_check nm_T nm_P nm_GH nm_FA [kc_M_asks_0] [] 20000 kc_M_vain_0 = true := by decide +kernel
theorem kp_M_vain_0 : nm_ok kc_M_vain_0 := ac_check_ok nm_Fl nm_FG (List.forall_mem_cons.mpr ⟨kp_M_asks_0, fun _ h => absurd h List.not_mem_nil⟩) kq_M_vain_0
set_option maxRecDepth 1000000 in
theorem kq_M_house_0 : ac_check nm_T nm_P nm_GH nm_FA [kc_M_asks_0, kc_M_housed_0, kc_M_anyOf_0] [kl_M_house_43] 20000 kc_M_house_0 = true := by decide +kernel
theorem kp_M_house_0 : nm_ok kc_M_house_0 := ac_check_ok nm_Fl nm_FG (List.forall_mem_cons.mpr ⟨kp_M_asks_0, List.forall_mem_cons.mpr ⟨kp_M_housed_0, List.forall_mem_cons.mpr ⟨kp_M_anyOf_0, fun _ h => absurd h List.not_mem_nil⟩⟩⟩) kq_M_house_0
set_option maxRecDepth 1000000 in
theorem kq_M_ways_0 : ac_check nm_T nm_P nm_GH nm_FA [kc_M_reachesNow_0] [] 20000 kc_M_ways_0 = true := by decide +kernel
theorem kp_M_ways_0 : nm_ok kc_M_ways_0 := ac_check_ok nm_Fl nm_FG (List.forall_mem_cons.mpr ⟨kp_M_reachesNow_0, fun _ h => absurd h List.not_mem_nil⟩) kq_M_ways_0
set_option maxRecDepth 1000000 in
theorem kq_M_sure_0 : ac_check nm_T nm_P nm_GH nm_FA [kc_M_asks_0, kc_M_someBits_0, kc_M_sureBits_0] [] 20000 kc_M_sure_0 = true := by decide +kernel
theorem kp_M_sure_0 : nm_ok kc_M_sure_0 := ac_check_ok nm_Fl nm_FG (List.forall_mem_cons.mpr ⟨kp_M_asks_0, List.forall_mem_cons.mpr ⟨kp_M_someBits_0, List.forall_mem_cons.mpr ⟨kp_M_sureBits_0, fun _ h => absurd h List.not_mem_nil⟩⟩⟩) kq_M_sure_0
set_option maxRecDepth 1000000 in
theorem kq_M_sit_0 : ac_check nm_T nm_P nm_GH nm_FA [kc_M_asks_0] [kl_M_sit_42] 20000 kc_M_sit_0 = true := by decide +kernel
theorem kp_M_sit_0 : nm_ok kc_M_sit_0 := ac_check_ok nm_Fl nm_FG (List.forall_mem_cons.mpr ⟨kp_M_asks_0, fun _ h => absurd h List.not_mem_nil⟩) kq_M_sit_0
set_option maxRecDepth 1000000 in
theorem kq_M_known_0 : ac_check nm_T nm_P nm_GH nm_FA [kc_M_asks_0, kc_M_sureBits_0] [kl_M_known_23] 20000 kc_M_known_0 = true := by decide +kernel
theorem kp_M_known_0 : nm_ok kc_M_known_0 := ac_check_ok nm_Fl nm_FG (List.forall_mem_cons.mpr ⟨kp_M_asks_0, List.forall_mem_cons.mpr ⟨kp_M_sureBits_0, fun _ h => absurd h List.not_mem_nil⟩⟩) kq_M_known_0
set_option maxRecDepth 1000000 in
theorem kq_M_best_0 : ac_check nm_T nm_P nm_GH nm_FA [kc_I_bitCount_0, kc_M_tries_0, kc_M_anyOf_0, kc_I_bitCount_1] [kl_M_best_46] 20000 kc_M_best_0 = true := by decide +kernel
theorem kp_M_best_0 : nm_ok kc_M_best_0 := ac_check_ok nm_Fl nm_FG (List.forall_mem_cons.mpr ⟨kp_I_bitCount_0, List.forall_mem_cons.mpr ⟨kp_M_tries_0, List.forall_mem_cons.mpr ⟨kp_M_anyOf_0, List.forall_mem_cons.mpr ⟨kp_I_bitCount_1, fun _ h => absurd h List.not_mem_nil⟩⟩⟩⟩) kq_M_best_0
set_option maxRecDepth 1000000 in
theorem kq_M_never_0 : ac_check nm_T nm_P nm_GH nm_FA [kc_I_bitCount_0, kc_M_tries_0, kc_M_someBits_0, kc_M_housed_0, kc_I_bitCount_1] [kl_M_never_39, kl_M_never_88] 20000 kc_M_never_0 = true := by decide +kernel
theorem kp_M_never_0 : nm_ok kc_M_never_0 := ac_check_ok nm_Fl nm_FG (List.forall_mem_cons.mpr ⟨kp_I_bitCount_0, List.forall_mem_cons.mpr ⟨kp_M_tries_0, List.forall_mem_cons.mpr ⟨kp_M_someBits_0, List.forall_mem_cons.mpr ⟨kp_M_housed_0, List.forall_mem_cons.mpr ⟨kp_I_bitCount_1, fun _ h => absurd h List.not_mem_nil⟩⟩⟩⟩⟩) kq_M_never_0
set_option maxRecDepth 1000000 in
theorem kq_M_even_0 : ac_check nm_T nm_P nm_GH nm_FA [kc_I_bitCount_0, kc_M_tries_0, kc_M_unlike_0, kc_I_bitCount_1] [kl_M_even_39] 20000 kc_M_even_0 = true := by decide +kernel
theorem kp_M_even_0 : nm_ok kc_M_even_0 := ac_check_ok nm_Fl nm_FG (List.forall_mem_cons.mpr ⟨kp_I_bitCount_0, List.forall_mem_cons.mpr ⟨kp_M_tries_0, List.forall_mem_cons.mpr ⟨kp_M_unlike_0, List.forall_mem_cons.mpr ⟨kp_I_bitCount_1, fun _ h => absurd h List.not_mem_nil⟩⟩⟩⟩) kq_M_even_0
set_option maxRecDepth 1000000 in
theorem kq_M_fair_0 : ac_check nm_T nm_P nm_GH nm_FA [kc_M_asks_0, kc_M_unlike_0] [kl_M_fair_68] 20000 kc_M_fair_0 = true := by decide +kernel
theorem kp_M_fair_0 : nm_ok kc_M_fair_0 := ac_check_ok nm_Fl nm_FG (List.forall_mem_cons.mpr ⟨kp_M_asks_0, List.forall_mem_cons.mpr ⟨kp_M_unlike_0, fun _ h => absurd h List.not_mem_nil⟩⟩) kq_M_fair_0
set_option maxRecDepth 1000000 in
theorem kq_M_war_0 : ac_check nm_T nm_P nm_GH nm_FA [kc_M_asks_0, kc_M_sumBelow_0] [] 20000 kc_M_war_0 = true := by decide +kernel
theorem kp_M_war_0 : nm_ok kc_M_war_0 := ac_check_ok nm_Fl nm_FG (List.forall_mem_cons.mpr ⟨kp_M_asks_0, List.forall_mem_cons.mpr ⟨kp_M_sumBelow_0, fun _ h => absurd h List.not_mem_nil⟩⟩) kq_M_war_0
set_option maxRecDepth 1000000 in
theorem kq_M_old_0 : ac_check nm_T nm_P nm_GH nm_FA [kc_I_bitCount_0, kc_M_lets_0] [kl_M_old_53] 20000 kc_M_old_0 = true := by decide +kernel
theorem kp_M_old_0 : nm_ok kc_M_old_0 := ac_check_ok nm_Fl nm_FG (List.forall_mem_cons.mpr ⟨kp_I_bitCount_0, List.forall_mem_cons.mpr ⟨kp_M_lets_0, fun _ h => absurd h List.not_mem_nil⟩⟩) kq_M_old_0
set_option maxRecDepth 1000000 in
theorem kq_M_seldom_0 : ac_check nm_T nm_P nm_GH nm_FA [kc_M_lets_0] [] 20000 kc_M_seldom_0 = true := by decide +kernel
theorem kp_M_seldom_0 : nm_ok kc_M_seldom_0 := ac_check_ok nm_Fl nm_FG (List.forall_mem_cons.mpr ⟨kp_M_lets_0, fun _ h => absurd h List.not_mem_nil⟩) kq_M_seldom_0
end mg_2
