/-! QUESTIONS THAT LEAVE THE CHEST AS IT WAS: up to remembers by the interpreter, remembers exactly, on to comesBack by the interpreter, comesBack exactly, on to the end by the interpreter -/
theorem px_fr_delA {ws : List (Nat × Nat)} {wa : List Nat} {c : Nat} {hp hp' : px_H} (h : px_fr ws (c :: wa) hp hp') (he : hp'[c]? = hp[c]?) : px_fr ws wa hp hp' := by
  refine ⟨fun c' q hc hq => ?_, h.2⟩
  by_cases e : c' = c
  · rw [e] at hq ⊢
    rw [he]
    exact hq
  · exact h.1 c' q (fun hm => by
      rcases List.mem_cons.mp hm with h9 | h9
      · exact e h9
      · exact hc h9) hq
theorem px_fr_delF {ws : List (Nat × Nat)} {wa : List Nat} {c k : Nat} {hp hp' : px_H} (h : px_fr ((c, k) :: ws) wa hp hp') (he : ac_fv hp' c k = ac_fv hp c k) : px_fr ws wa hp hp' := by
  refine ⟨h.1, fun c' ci vs hx => ?_⟩
  obtain ⟨vs', e1, e2, e3⟩ := h.2 c' ci vs hx
  refine ⟨vs', e1, e2, fun k' hk => ?_⟩
  by_cases e : c' = c ∧ k' = k
  · obtain ⟨ea, eb⟩ := e
    rw [ea] at hx e1
    rw [eb]
    unfold ac_fv at he
    rw [hx, e1] at he
    exact he
  · exact e3 k' (fun hm => by
      rcases List.mem_cons.mp hm with h9 | h9
      · exact e (Prod.mk.inj h9)
      · exact hk h9)
theorem px_fr_and {ws ws' ws2 : List (Nat × Nat)} {wa wa' wa2 : List Nat} {hp hp' : px_H} (a : px_fr ws wa hp hp') (b : px_fr ws' wa' hp hp') (e1 : ∀ q, q ∈ ws → q ∈ ws' → q ∈ ws2) (e2 : ∀ q, q ∈ wa → q ∈ wa' → q ∈ wa2) : px_fr ws2 wa2 hp hp' := by
  refine ⟨fun c q hc hq => ?_, fun c ci vs hx => ?_⟩
  · by_cases h1 : c ∈ wa
    · exact b.1 c q (fun h2 => hc (e2 c h1 h2)) hq
    · exact a.1 c q h1 hq
  · obtain ⟨vs', f1, f2, f3⟩ := a.2 c ci vs hx
    obtain ⟨vs2, g1, g2, g3⟩ := b.2 c ci vs hx
    rw [f1] at g1
    cases g1
    refine ⟨vs', f1, f2, fun k hk => ?_⟩
    by_cases h1 : (c, k) ∈ ws
    · exact g3 k (fun h2 => hk (e1 _ h1 h2))
    · exact f3 k h1
theorem rs_fv {h h' : px_H} {k : Nat} (hb : bF [69] 9 k 0 = true) (hS : oS h) (hS' : oS h') (e : gI h' 69 k = gI h 69 k) : ac_fv h' 69 k = ac_fv h 69 k := by
  obtain ⟨fs, a1, a2⟩ := bI_ok hb List.mem_cons_self hS
  obtain ⟨fs', b1, b2⟩ := bI_ok hb List.mem_cons_self hS'
  have x1 : ac_fv h 69 k = some (.int (gI h 69 k)) := by
    unfold ac_fv
    rw [a1]
    exact a2
  have x2 : ac_fv h' 69 k = some (.int (gI h' 69 k)) := by
    unfold ac_fv
    rw [b1]
    exact b2
  rw [x1, x2, e]
theorem rs_rok {fs : List ab_F} {oc : ac_Out} {q : Option ab_F × List (Nat × ab_B) × List Nat} {r : Option Value} {hp : px_H} {xs : Nat → Int32} (h : ac_rok fs oc q = true) (ho : ac_o' nm_GH nm_Φ xs oc r hp) : ac_rv q.1 r := by
  simp only [ac_rok, Bool.and_eq_true] at h
  have w1 := h.1
  have g1 := ho.1
  unfold ac_rv
  cases h8 : oc.1 with
  | none =>
    rw [h8] at w1 g1
    cases h9 : q.1 with
    | none => cases r <;> first | trivial | exact absurd g1 (by simp)
    | some f => rw [h9] at w1; cases w1
  | some a =>
    rw [h8] at w1 g1
    cases h9 : q.1 with
    | none => rw [h9] at w1; cases w1
    | some f =>
      rw [h9] at w1
      cases r with
      | none => exact absurd g1 (by simp)
      | some v => exact ab_le_ok w1 g1.1
theorem rs_one {xs : Nat → Int32} {lv : List (Nat × Value)} {hp : px_H} {st : List Value} (h : ab_st xs lv hp [((2, 0, 0, [69]), none)] st) : st = [.ref 69] := by
  cases st with
  | nil => exact h.elim
  | cons w t =>
    cases t with
    | cons _ _ => exact h.2.elim
    | nil =>
      obtain ⟨c1, e, e1⟩ := ab_f2 h.1.1
      rw [e, List.mem_singleton.mp e1]
theorem s3_in {x : Int32} (h0 : 0 ≤ x.toInt) (h1 : x.toInt ≤ 7) : s3 x := by
  intro i hi
  unfold ib
  rw [← BitVec.testBit_toNat]
  have e : x.toBitVec.toNat < 2 ^ 3 := by
    have h2 : x.toInt = x.toBitVec.toInt := rfl
    rw [h2, BitVec.toInt_eq_toNat_cond] at h0 h1
    split at h0
    · split at h1 <;> omega
    · omega
  exact Nat.testBit_lt_two_pow (Nat.lt_of_lt_of_le e (Nat.pow_le_pow_right (by decide) hi))
theorem rs_bd {h : px_H} (hG : ab_h nm_GH h) : (sm (aI h 88 0) ∧ sm (aI h 88 1) ∧ sm (aI h 89 0) ∧ sm (aI h 89 1) ∧ sm (gI h 69 32) ∧ sm (gI h 69 33)) ∧ ∀ p, p < 10 → s3 (aI h 90 p) := by
  obtain ⟨g8, e8, b8⟩ := ac_arrI hG (c := 88) (t := nr_inBag) (n := 2) (lo := 0) (hi := 1023) (Nat.le_of_ble_eq_true rfl) rfl
  obtain ⟨g9, e9, b9⟩ := ac_arrI hG (c := 89) (t := nr_aside) (n := 2) (lo := 0) (hi := 1023) (Nat.le_of_ble_eq_true rfl) rfl
  obtain ⟨g0, e0, b0⟩ := ac_arrI hG (c := 90) (t := nr_satLast) (n := 10) (lo := 0) (hi := 7) (Nat.le_of_ble_eq_true rfl) rfl
  obtain ⟨fs, hx, -, -⟩ := ac_obj hG (c := 69) rfl
  obtain ⟨x2, f2, p2, q2⟩ := nm_fI hG hx (k := 32) (a := 0) (b := 1023) rfl
  obtain ⟨x3, f3, p3, q3⟩ := nm_fI hG hx (k := 33) (a := 0) (b := 1023) rfl
  have a8 : aI h 88 = g8 := by unfold aI; rw [e8]
  have a9 : aI h 89 = g9 := by unfold aI; rw [e9]
  have a0 : aI h 90 = g0 := by unfold aI; rw [e0]
  have v2 : ac_fv h 69 32 = some (.int x2) := by unfold ac_fv; rw [hx]; exact f2
  have v3 : ac_fv h 69 33 = some (.int x3) := by unfold ac_fv; rw [hx]; exact f3
  have i2 : gI h 69 32 = x2 := by unfold gI; rw [v2]
  have i3 : gI h 69 33 = x3 := by unfold gI; rw [v3]
  rw [a8, a9, a0, i2, i3]
  exact ⟨⟨sm_of (b8 0 (by omega)).1 (b8 0 (by omega)).2, sm_of (b8 1 (by omega)).1 (b8 1 (by omega)).2, sm_of (b9 0 (by omega)).1 (b9 0 (by omega)).2, sm_of (b9 1 (by omega)).1 (b9 1 (by omega)).2, sm_of p2 q2, sm_of p3 q3⟩, fun p hp => s3_in (b0 p hp).1 (b0 p hp).2⟩
/-- locals, and the bounds of the arguments -/
abbrev rs_L : Type := List (Nat × ab_V) × List (Int × Int)
def rs_st (L : rs_L) : ac_S := (L.1, [((2, 0, 0, [69]), none)], [], L.2, [], [])
def rs_go (L : rs_L) : ac_S := (L.1, [], [], L.2, [], [])
def rs_no (L : rs_L) : Bool := L.1.all (fun q => match q.2.2 with | none => true | some l => Nat.beq l.1 2)
abbrev rs_Q : Type := List (Option ab_F × List (Nat × ab_B) × List Nat)
def rs_e1 (K : List ac_K) (lps : List ac_L) (ws : List (Nat × Nat)) (wa : List Nat) (mi : Nat) (N : px_M) (fs : List ab_F) (outs : rs_Q) (r : Nat) (L : rs_L) : Bool := match ex_runS K lps ws wa mi N fs [] [r] with
  | some o => o.1.all (fun q => outs.any (ac_rok fs q)) && o.2.all (fun q => Nat.beq q.1 r && ac_le nm_GH none q.2 (rs_st L))
  | none => false
def rs_e2 (K : List ac_K) (lps : List ac_L) (ws : List (Nat × Nat)) (wa : List Nat) (mi : Nat) (N : px_M) (pc c : Nat) (A L : rs_L) : Bool := match ac_run nm_T nm_P nm_GH nm_FA K lps ws wa 20000 false [c] mi N pc (rs_go A) with
  | some o => o.1.isEmpty && o.2.all (fun q => Nat.beq q.1 c && ac_le nm_GH none q.2 (rs_st L))
  | none => false
def rs_e3 (K : List ac_K) (lps : List ac_L) (ws : List (Nat × Nat)) (wa : List Nat) (mi : Nat) (N : px_M) (fs : List ab_F) (outs : rs_Q) (pc : Nat) (A : rs_L) : Bool := match ac_run nm_T nm_P nm_GH nm_FA K lps ws wa 20000 false [] mi N pc (rs_go A) with
  | some (os, []) => os.all (fun q => outs.any (ac_rok fs q))
  | _ => false
def rs_w (ws w : List (Nat × Nat)) : Bool := w.all (fun q => ac_has ws q.1 q.2)
def rs_a (wa a : List Nat) : Bool := a.all (fun c => ac_in c wa)
theorem rs_w_ok {ws w : List (Nat × Nat)} (h : rs_w ws w = true) : ∀ q ∈ w, q ∈ ws := by
  intro q hq
  obtain ⟨p, p1, p2⟩ := List.any_eq_true.mp (List.all_eq_true.mp h q hq)
  simp only [Bool.and_eq_true] at p2
  have e : p = q := Prod.ext (Nat.eq_of_beq_eq_true p2.1) (Nat.eq_of_beq_eq_true p2.2)
  rw [← e]
  exact p1
theorem rs_a_ok {wa a : List Nat} (h : rs_a wa a = true) : ∀ q ∈ a, q ∈ wa := fun q hq => ac_in_ok (List.all_eq_true.mp h q hq)
def rs_cw (ws : List (Nat × Nat)) : List (Nat × Nat) := (69, 31) :: (69, 32) :: (69, 33) :: ws
def rs_ca (wa : List Nat) : List Nat := 88 :: 89 :: 90 :: wa
/-- neither a field nor an array of the chest -/
def rs_n (w : List (Nat × Nat)) (a : List Nat) : Bool := (!ac_has w 69 31 && (!ac_has w 69 32 && !ac_has w 69 33)) && (!ac_in 88 a && (!ac_in 89 a && !ac_in 90 a))
def rs_u (ws : List (Nat × Nat)) (wa : List Nat) (w1 : List (Nat × Nat)) (a1 : List Nat) (w2 : List (Nat × Nat)) (a2 : List Nat) (w3 : List (Nat × Nat)) (a3 : List Nat) : Bool :=
  (rs_n w1 a1 && rs_n w3 a3) && ((rs_w ws w1 && rs_a wa a1) && ((rs_w (rs_cw ws) w2 && rs_a (rs_ca wa) a2) && ((rs_w ws w3 && rs_a wa a3) && ((rs_w ws kc_M_remembers_0.2.2.2.2.1 && rs_a wa kc_M_remembers_0.2.2.2.2.2) && ((rs_w (rs_cw ws) kc_M_comesBack_0.2.2.2.2.1 && rs_a (rs_ca wa) kc_M_comesBack_0.2.2.2.2.2) && (!ac_has w2 69 34 && (!ac_has w2 69 35 && !ac_has w2 69 36)))))))
theorem rs_cw_in {ws : List (Nat × Nat)} : ∀ q ∈ ws, q ∈ rs_cw ws := fun _ h => List.mem_cons_of_mem _ (List.mem_cons_of_mem _ (List.mem_cons_of_mem _ h))
theorem rs_ca_in {wa : List Nat} : ∀ q ∈ wa, q ∈ rs_ca wa := fun _ h => List.mem_cons_of_mem _ (List.mem_cons_of_mem _ (List.mem_cons_of_mem _ h))
/-- the same chest, cell by cell -/
def rs_same (hp hp' : px_H) : Prop := (hp'[88]? = hp[88]? ∧ hp'[89]? = hp[89]? ∧ hp'[90]? = hp[90]?) ∧ ac_fv hp' 69 31 = ac_fv hp 69 31 ∧ ac_fv hp' 69 32 = ac_fv hp 69 32 ∧ ac_fv hp' 69 33 = ac_fv hp 69 33
theorem rs_SM {hp hp' : px_H} (t : tl hp hp') (hS : oS hp) (hS' : oS hp') (s : SM hp hp') : rs_same hp hp' := by
  obtain ⟨⟨a0, a1, a2, a3, a4, a5⟩, a6, a7⟩ := s
  refine ⟨⟨tl_eq (t := nr_inBag) (n := 2) t hS rfl (fun j hj => ?_), tl_eq (t := nr_aside) (n := 2) t hS rfl (fun j hj => ?_), tl_eq (t := nr_satLast) (n := 10) t hS rfl a6⟩, rs_fv rfl hS hS' a7, rs_fv rfl hS hS' a4, rs_fv rfl hS hS' a5⟩
  · match j, hj with
    | 0, _ => exact a0
    | 1, _ => exact a1
    | j + 2, h => omega
  · match j, hj with
    | 0, _ => exact a2
    | 1, _ => exact a3
    | j + 2, h => omega
theorem SM_fz {W : Nat → Nat → Bool} {V : Nat → Bool} {h h' : px_H} (a : fz W V h h') (e1 : W 69 31 = false) (e2 : W 69 32 = false) (e3 : W 69 33 = false) (v8 : V 88 = false) (v9 : V 89 = false) (v0 : V 90 = false) : SM h h' := by
  refine ⟨⟨?_, ?_, ?_, ?_, fz_gI a e2, fz_gI a e3⟩, fun p _ => ?_, fz_gI a e1⟩
  · rw [(a.2 88 v8).1]
  · rw [(a.2 88 v8).1]
  · rw [(a.2 89 v9).1]
  · rw [(a.2 89 v9).1]
  · rw [(a.2 90 v0).1]
theorem SM_tr {h1 h2 h3 : px_H} (a : SM h1 h2) (b : SM h2 h3) : SM h1 h3 := by
  obtain ⟨⟨a0, a1, a2, a3, a4, a5⟩, a6, a7⟩ := a
  obtain ⟨⟨b0, b1, b2, b3, b4, b5⟩, b6, b7⟩ := b
  exact ⟨⟨b0.trans a0, b1.trans a1, b2.trans a2, b3.trans a3, b4.trans a4, b5.trans a5⟩, fun p hp => (b6 p hp).trans (a6 p hp), b7.trans a7⟩
theorem SM_fr {w : List (Nat × Nat)} {a : List Nat} {h h' : px_H} (hS : oS h) (hS' : oS h') (f : px_fr w a h h') (hn : rs_n w a = true) : SM h h' := by
  simp only [rs_n, Bool.and_eq_true, Bool.not_eq_true'] at hn
  exact SM_fz (fz_fr hS hS' f) hn.1.1 hn.1.2.1 hn.1.2.2 hn.2.1 hn.2.2.1 hn.2.2.2
/-- an end of the interpreter as an end of the contract -/
theorem rs_end {mi : Nat} {fs : List ab_F} {outs : rs_Q} {ws : List (Nat × Nat)} {wa : List Nat} {av : List Value} {hp hp' : px_H} {xs : Nat → Int32} {q : ac_Out} {r : Option Value} (he : outs.all (fun q => q.2.1.isEmpty && q.2.2.isEmpty) = true) (hq : outs.any (ac_rok fs q) = true) (hC : px_C nm_T nm_P mi av hp r hp') (ho : ac_o' nm_GH nm_Φ xs q r hp') (hf : px_fr ws wa hp hp') :
    ∃ (r : Option Value) (hp' : px_H) (o : Option ab_F × List (Nat × ab_B) × List Nat), o ∈ outs ∧ px_C nm_T nm_P mi av hp r hp' ∧ ab_h nm_GH hp' ∧ ac_rv o.1 r ∧ (∀ q ∈ o.2.1, ∃ v z, av[q.1]? = some v ∧ ab_num v = some z ∧ ab_in q.2 z) ∧ (∀ i ∈ o.2.2, nm_Φ i hp') ∧ px_fr ws wa hp hp' := by
  obtain ⟨p, p1, p2⟩ := List.any_eq_true.mp hq
  have pe := List.all_eq_true.mp he p p1
  simp only [Bool.and_eq_true, List.isEmpty_iff] at pe
  exact ⟨r, hp', p, p1, hC, ho.2.1, rs_rok p2 ho, fun z hz => (by rw [pe.1] at hz; cases hz), fun i hi => (by rw [pe.2] at hi; cases hi), hf⟩
section rs_M
variable {mi : Nat} {N : px_M} {fs : List ab_F} {outs : rs_Q} {ws w1 w2 w3 : List (Nat × Nat)} {wa a1 a2 a3 : List Nat} {r c i1 i2 : Nat} {K1 K2 K3 : List ac_K} {l1 l2 l3 : List ac_L} {L1 L2 : rs_L}
theorem rs_nil {L : rs_L} {xs : Nat → Int32} {γ : Nat → Int} {lv : List (Nat × Value)} {hp : px_H} (hlv : ab_lv xs hp L.1 lv) (hx : ab_x L.2 xs) (hG : ab_h nm_GH hp) : ac_s nm_GH nm_Φ xs γ (rs_go L) lv [] hp :=
  ⟨hlv, trivial, hG, fun q hq => absurd hq List.not_mem_nil, hx, fun i hi => absurd hi List.not_mem_nil, fun q hq => absurd hq List.not_mem_nil⟩
set_option maxHeartbeats 2000000 in
theorem rs_ok (hK1 : ∀ κ ∈ K1, nm_ok κ) (hK2 : ∀ κ ∈ K2, nm_ok κ) (hK3 : ∀ κ ∈ K3, nm_ok κ) (hN : nm_P[mi]? = some N) (hml : ((ac_ini 0 fs).map ab_cat).sum ≤ px_ml N)
    (f1 : px_find r (px_cd N) = some (3, .invokevirtual i1)) (g1 : px_find i1 (px_cp N) = some (1, mi_M_remembers, 0, 9)) (f2 : px_find c (px_cd N) = some (3, .invokevirtual i2)) (g2 : px_find i2 (px_cp N) = some (1, mi_M_comesBack, 0, 9))
    (t1 : rs_e1 K1 l1 w1 a1 mi N fs outs r L1 = true) (t2 : rs_e2 K2 l2 w2 a2 mi N (r + 3) c L1 L2 = true) (t3 : rs_e3 K3 l3 w3 a3 mi N fs outs (c + 3) L2 = true)
    (n1 : rs_no L1 = true) (n2 : rs_no L2 = true) (he : outs.all (fun q => q.2.1.isEmpty && q.2.2.isEmpty) = true) (u : rs_u ws wa w1 a1 w2 a2 w3 a3 = true) : nm_ok (mi, fs, [], outs, ws, wa) := by
  intro av hp hG hav _
  simp only [rs_u, Bool.and_eq_true, Bool.not_eq_true'] at u
  obtain ⟨⟨uA, uC⟩, ⟨u1, u2⟩, ⟨u3, u4⟩, ⟨u5, u6⟩, ⟨u7, u8⟩, ⟨u9, u10⟩, k4, k5, k6⟩ := u
  unfold rs_e1 at t1
  split at t1
  rotate_left
  · cases t1
  rename_i o ho
  simp only [Bool.and_eq_true, List.all_eq_true] at t1
  rcases ex_runS_ok hK1 hN hml ho hG hav (fun q hq => absurd hq List.not_mem_nil) with ⟨rr, hp', q, m1, m2, m3, m4⟩ | ⟨pc', lv, st, h1, A', m1, m2, m3, m4⟩
  · exact rs_end he (t1.1 q m1) m2 m3 (px_fr_mono m4 (rs_w_ok u1) (rs_a_ok u2))
  obtain ⟨q1, q2⟩ := t1.2 _ m1
  have q1 : pc' = r := Nat.eq_of_beq_eq_true q1
  rw [q1] at m4
  obtain ⟨γ2, -, h9, -⟩ := ac_le_ok q2 m2
  obtain ⟨b1, b2, b3, -, b5, -⟩ := h9
  have est := rs_one b2
  rw [est] at m4
  have S1 := oS_of b3
  obtain ⟨h2, r1, r2, r3, r4, r5, r6⟩ := vl_remembers S1
  obtain ⟨C1, -⟩ := fx_M_remembers S1 r1
  obtain ⟨rr, h2', oo, -, c2, c3, -, -, -, c7⟩ := kp_M_remembers_0 [.ref 69] h1 b3 ⟨⟨rfl, List.mem_cons_self⟩, trivial⟩ (fun i hi => absurd hi List.not_mem_nil)
  have e2 : h2' = h2 := (px_C_fun c2 C1).2
  rw [e2] at c3 c7
  unfold rs_e2 at t2
  split at t2
  rotate_left
  · cases t2
  rename_i o2 ho2
  simp only [Bool.and_eq_true, List.all_eq_true, List.isEmpty_iff] at t2
  rcases ex_goS hK2 ho2 (xs := ac_xs av) (γ := fun _ => 0) (lv := lv) (st := []) (hp := h2) (rs_nil (ex_sG h2 (L := L1.1) n1 b1) b5 c3) with ⟨r9, hp', q, x1, -⟩ | ⟨pc2, lv2, st2, h3, A2, x1, x2, x3, x4⟩
  · rw [t2.1] at x1
    exact absurd x1 List.not_mem_nil
  obtain ⟨q3, q4⟩ := t2.2 _ x1
  have q3 : pc2 = c := Nat.eq_of_beq_eq_true q3
  rw [q3] at x4
  obtain ⟨γ3, -, h8, -⟩ := ac_le_ok q4 x2
  obtain ⟨y1, y2, y3, -, y5, -⟩ := h8
  have est2 := rs_one y2
  rw [est2] at x4
  have S3 := oS_of y3
  have z2 := fz_fr (oS_of c3) S3 x3
  obtain ⟨h4, v1, v2, v3, v4⟩ := restore (rs_bd b3).1 (rs_bd b3).2 r4 r5 r6 (fz_gL z2 k4) (fz_gL z2 k5) (fz_gI z2 k6) S3
  obtain ⟨C2, -⟩ := fx_M_comesBack S3 v1
  obtain ⟨rr2, h4', oo2, -, d2, d3, -, -, -, d7⟩ := kp_M_comesBack_0 [.ref 69] h3 y3 ⟨⟨rfl, List.mem_cons_self⟩, trivial⟩ (fun i hi => absurd hi List.not_mem_nil)
  have e4 : h4' = h4 := (px_C_fun d2 C2).2
  rw [e4] at d3 d7
  unfold rs_e3 at t3
  split at t3
  rotate_left
  · cases t3
  rename_i os hos
  obtain ⟨r6', hp6, q, j1, j2, j3, j4⟩ := ex_goOn hK3 hos (xs := ac_xs av) (γ := fun _ => 0) (lv := lv2) (st := []) (hp := h4) (rs_nil (ex_sG h4 (L := L2.1) n2 y1) y5 d3)
  obtain ⟨fs1, hx1⟩ := bO_ok (cs := [69]) (ci := 9) rfl List.mem_cons_self S1
  obtain ⟨fs3, hx3⟩ := bO_ok (cs := [69]) (ci := 9) rfl List.mem_cons_self S3
  have CC : px_C nm_T nm_P mi av hp r6' hp6 := m4 _ _ (px_q_virt (n := 0) (a := 69) (N := mm_M_remembers) (r1 := none) f1 g1 rfl hx1 rfl (Nat.le_refl _) (Nat.zero_le _) rfl rfl C1 (x4 _ _ (px_q_virt (n := 0) (a := 69) (N := mm_M_comesBack) (r1 := none) f2 g2 rfl hx3 rfl (Nat.le_refl _) (Nat.zero_le _) rfl rfl C2 j2)))
  have F : px_fr (rs_cw ws) (rs_ca wa) hp hp6 := px_fr_tr (px_fr_mono m3 (fun q h => rs_cw_in q (rs_w_ok u1 q h)) (fun q h => rs_ca_in q (rs_a_ok u2 q h))) (px_fr_tr (px_fr_mono c7 (fun q h => rs_cw_in q (rs_w_ok u7 q h)) (fun q h => rs_ca_in q (rs_a_ok u8 q h))) (px_fr_tr (px_fr_mono x3 (rs_w_ok u3) (rs_a_ok u4)) (px_fr_tr (px_fr_mono d7 (rs_w_ok u9) (rs_a_ok u10)) (px_fr_mono j4 (fun q h => rs_cw_in q (rs_w_ok u5 q h)) (fun q h => rs_ca_in q (rs_a_ok u6 q h))))))
  have S6 := oS_of j3.2.1
  obtain ⟨⟨s8, s9, s0⟩, s1, s2, s3⟩ := rs_SM (tl_C CC) (oS_of hG) S6 (SM_tr (SM_fr (oS_of hG) S1 m3 uA) (SM_tr v4 (SM_fr (oS_of d3) S6 j4 uC)))
  exact rs_end he (List.all_eq_true.mp t3 q j1) CC j3 (px_fr_delF (px_fr_delF (px_fr_delF (px_fr_delA (px_fr_delA (px_fr_delA F s8) s9) s0) s1) s2) s3)
end rs_M
/-- two contracts of the same call -/
theorem rs_and {mi : Nat} {fs : List ab_F} {outs outs' : rs_Q} {ws ws' ws2 : List (Nat × Nat)} {wa wa' wa2 : List Nat} (a : nm_ok (mi, fs, [], outs, ws, wa)) (b : nm_ok (mi, fs, [], outs', ws', wa')) (e1 : ws.all (fun q => !(ac_has ws' q.1 q.2) || ac_has ws2 q.1 q.2) = true) (e2 : wa.all (fun c => !(ac_in c wa') || ac_in c wa2) = true) : nm_ok (mi, fs, [], outs, ws2, wa2) := by
  intro av hp hG hav hfl
  obtain ⟨r, h1, o, m1, m2, m3, m4, m5, m6, m7⟩ := a av hp hG hav hfl
  obtain ⟨r', h1', o', n1, n2, n3, n4, n5, n6, n7⟩ := b av hp hG hav hfl
  have e : h1' = h1 := (px_C_fun n2 m2).2
  rw [e] at n7
  refine ⟨r, h1, o, m1, m2, m3, m4, m5, m6, px_fr_and m7 n7 (fun q hq hq' => ?_) (fun q hq hq' => ?_)⟩
  · have := List.all_eq_true.mp e1 q hq
    have t : ac_has ws' q.1 q.2 = true := List.any_eq_true.mpr ⟨q, hq', by simp only [Nat.beq_refl, Bool.and_true]⟩
    rw [t] at this
    exact rs_w_ok (w := [q]) (by unfold rs_w; simpa using this) q List.mem_cons_self
  · have := List.all_eq_true.mp e2 q hq
    have t : ac_in q wa' = true := by
      cases h : ac_in q wa' with
      | true => rfl
      | false => exact absurd hq' (ac_in_no h)
    rw [t] at this
    exact ac_in_ok (by simpa using this)
