section mg_0
/-! going on by the interpreter from a place in the middle; boolean arrays -/
section px_q9
variable {T : px_T} {X : Option (Nat × (Nat → Int32))} {P : List px_M} {M : px_M}
variable {pc len : Nat} {lv : List (Nat × Value)} {st : List Value} {hp hp' : px_H} {r : Option Value}
theorem px_q_bald {a t n : Nat} {f : Nat → Int32} {j : Int32} (hf : px_find pc (px_cd M) = some (len, .baload)) (hx : hp[a]? = some (.inl (t, n, .inl f))) (ht : T.1[t]? = some .boolean) (hj : px_inR j n = true)
    (hR : px_Z T X P M (pc + len) lv (.int (f j.toNatClampNeg) :: st) hp r hp') : px_Z T X P M pc lv (.int j :: .ref a :: st) hp r hp' :=
  px_Z_its 1 (fun call N0 nc ns => by simp only [px_its, px_step, hf, px_alu, px_ald, hx, ht, hj, Option.map_some]) hR
theorem px_q_bast {a t n : Nat} {f : Nat → Int32} {j x : Int32} (hf : px_find pc (px_cd M) = some (len, .bastore)) (hx : hp[a]? = some (.inl (t, n, .inl f))) (ht : T.1[t]? = some .boolean) (hj : px_inR j n = true) (h01 : (decide (x = 0) || decide (x = 1)) = true)
    (hR : px_Z T X P M (pc + len) lv st (hp.set a (.inl (t, n, .inl (upd f j.toNatClampNeg x)))) r hp') : px_Z T X P M pc lv (.int x :: .int j :: .ref a :: st) hp r hp' :=
  px_Z_its 1 (fun call N0 nc ns => by simp only [px_its, px_step, hf, px_alu, px_ast, hx, ht, hj, h01, Option.map_some]) hR
end px_q9
theorem ex_goOn {K : List ac_K} {lps : List ac_L} {ws : List (Nat × Nat)} {wa : List Nat} {mi pc : Nat} {N : px_M} {A : ac_S} {o : List ac_Out} (hK : ∀ κ ∈ K, nm_ok κ) (h : ac_run nm_T nm_P nm_GH nm_FA K lps ws wa 20000 false [] mi N pc A = some (o, [])) {xs : Nat → Int32} {γ : Nat → Int} {lv : List (Nat × Value)} {st : List Value} {hp : px_H} (hA : ac_s nm_GH nm_Φ xs γ A lv st hp) :
    ∃ (r : Option Value) (hp' : px_H) (q : ac_Out), q ∈ o ∧ px_Z nm_T none nm_P N pc lv st hp r hp' ∧ ac_o' nm_GH nm_Φ xs q r hp' ∧ px_fr ws wa hp hp' := by
  rcases ac_run_ok (xs := xs) nm_Fl nm_FG hK 20000 false [] mi N pc A _ none γ lv st hp h hA with ⟨r, hp', oc, m1, m2, m3, hr⟩ | ⟨pc', lv', st', hp', A', m1, -⟩
  · exact ⟨r, hp', oc, m1, hr, m2, m3⟩
  · cases m1
/-- an end that answers just this -/
def ex_rt (t : Int) (o : ac_Out) : Bool := match ex_one (o.1.map (fun a => a.1)) with
  | some a => decide (a = t)
  | none => false
theorem ex_rt_ok {t : Int} {xs : Nat → Int32} {o : ac_Out} {r : Option Value} {hp : px_H} (h : ex_rt t o = true) (ho : ac_o' nm_GH nm_Φ xs o r hp) : ∃ v : Int32, r = some (.int v) ∧ v.toInt = t := by
  have g := ho.1
  unfold ex_rt at h
  split at h
  · rename_i a ha
    have := of_decide_eq_true h
    subst this
    cases h1 : o.1 with
    | none => rw [h1] at ha; cases ha
    | some b =>
      rw [h1] at ha g
      cases r with
      | none => exact absurd g (by simp)
      | some v =>
        obtain ⟨x, rfl, e2⟩ := ex_one_ok ha g.1
        exact ⟨x, rfl, e2⟩
  · cases h
def ex_rts (t : Int) (os : Option (List ac_Out)) : Bool := match os with
  | some os => os.all (ex_rt t)
  | none => false
theorem ex_rts_ok {K : List ac_K} {lps : List ac_L} {ws : List (Nat × Nat)} {wa : List Nat} {mi : Nat} {fs : List ab_F} {ov : List ac_O} {t : Int} (hK : ∀ κ ∈ K, nm_ok κ) (h : ex_rts t (ex_run K lps ws wa mi fs ov) = true) {av : List Value} {hp : px_H} (hG : ab_h nm_GH hp) (hav : ac_argv fs av) (hov : ac_ov ov hp) :
    ∃ (v : Int32) (hp' : px_H) (o : ac_Out), px_C nm_T nm_P mi av hp (some (.int v)) hp' ∧ v.toInt = t ∧ ac_o' nm_GH nm_Φ (ac_xs av) o (some (.int v)) hp' ∧ px_fr ws wa hp hp' := by
  unfold ex_rts at h
  split at h
  · rename_i os ho
    obtain ⟨r, hp', o, m1, m2, m3, m4⟩ := ex_run_ok hK ho hG hav hov
    obtain ⟨v, rfl, hv⟩ := ex_rt_ok (List.all_eq_true.mp h o m1) m3
    exact ⟨v, hp', o, m2, hv, m3, m4⟩
  · cases h
end mg_0

section mg_1
/-! two calls that end alike, or come alike to a place from where one goes on by hand -/
def ex_ps (t : Int) (SX SM : Nat) (BX BM : ac_S) (oX oM : Option (List ac_Out × List (Nat × ac_S))) : Bool := match oX, oM with
  | some x, some m => x.1.all (fun o => ex_rt t o && m.2.all (fun q => ex_djX o.2.2.1 q.2.2.2.2.1)) && (m.1.all (fun o => ex_rt t o && x.2.all (fun q => ex_djX q.2.2.2.2.1 o.2.2.1)) && (x.2.all (fun q => Nat.beq q.1 SX && ac_le nm_GH none q.2 BX) && m.2.all (fun q => Nat.beq q.1 SM && ac_le nm_GH none q.2 BM)))
  | _, _ => false
theorem ex_hyb {KX KM : List ac_K} {lX lM : List ac_L} {wsX wsM : List (Nat × Nat)} {waX waM : List Nat} {miX miM : Nat} {NX NM : px_M} {fsX fsM : List ab_F} {ovX ovM : List ac_O} {stX stM : List Nat} {t : Int} {SX SM : Nat} {BX BM : ac_S}
    (hKX : ∀ κ ∈ KX, nm_ok κ) (hKM : ∀ κ ∈ KM, nm_ok κ) (hNX : nm_P[miX]? = some NX) (hNM : nm_P[miM]? = some NM) (hlX : ((ac_ini 0 fsX).map ab_cat).sum ≤ px_ml NX) (hlM : ((ac_ini 0 fsM).map ab_cat).sum ≤ px_ml NM)
    (h : ex_ps t SX SM BX BM (ex_runS KX lX wsX waX miX NX fsX ovX stX) (ex_runS KM lM wsM waM miM NM fsM ovM stM) = true) {hp : px_H} {a a' : Nat} {tl : List Value} (hG : ab_h nm_GH hp) (hv : ac_argv fsX (.ref a :: tl)) (hv' : ac_argv fsM (.ref a' :: tl)) (hX : ac_ov ovX hp) :
    (∃ (v : Int32) (hp1 : px_H), px_C nm_T nm_P miX (.ref a :: tl) hp (some (.int v)) hp1 ∧ v.toInt = t ∧ ab_h nm_GH hp1 ∧ px_fr wsX waX hp hp1 ∧ ∀ hq : px_H, ab_h nm_GH hq → ac_ov ovM hq → ∃ (v' : Int32) (hq' : px_H), px_C nm_T nm_P miM (.ref a' :: tl) hq (some (.int v')) hq' ∧ v'.toInt = t ∧ ab_h nm_GH hq' ∧ px_fr wsM waM hq hq') ∨
    (∃ (lv : List (Nat × Value)) (st : List Value) (hp1 : px_H) (γ : Nat → Int), ac_s nm_GH nm_Φ (ac_xs (.ref a :: tl)) γ BX lv st hp1 ∧ px_fr wsX waX hp hp1 ∧ (∀ (r : Option Value) (h9 : px_H), px_Z nm_T none nm_P NX SX lv st hp1 r h9 → px_C nm_T nm_P miX (.ref a :: tl) hp r h9) ∧
      ∀ hq : px_H, ab_h nm_GH hq → ac_ov ovM hq → ∃ (lv' : List (Nat × Value)) (st' : List Value) (hq' : px_H) (γ' : Nat → Int), ac_s nm_GH nm_Φ (ac_xs (.ref a :: tl)) γ' BM lv' st' hq' ∧ px_fr wsM waM hq hq' ∧ ∀ (r : Option Value) (h9 : px_H), px_Z nm_T none nm_P NM SM lv' st' hq' r h9 → px_C nm_T nm_P miM (.ref a' :: tl) hq r h9) := by
  unfold ex_ps at h
  split at h
  rotate_left
  · cases h
  rename_i x m hx hm
  simp only [Bool.and_eq_true, List.all_eq_true] at h
  obtain ⟨h1, h2, h3, h4⟩ := h
  have hxs : ac_xs (.ref a' :: tl) = ac_xs (.ref a :: tl) := by
    funext i
    cases i with
    | zero => rfl
    | succ i => rfl
  rcases ex_runS_ok hKX hNX hlX hx hG hv hX with ⟨r, hp1, q, m1, m2, m3, m4⟩ | ⟨pc, lv, st, hp1, A, m1, m2, m3, m4⟩
  · refine Or.inl ?_
    obtain ⟨v, rfl, hv9⟩ := ex_rt_ok (h1 q m1).1 m3
    refine ⟨v, hp1, m2, hv9, m3.2.1, m4, fun hq hGq hoq => ?_⟩
    rcases ex_runS_ok hKM hNM hlM hm hGq hv' hoq with ⟨r', hq', q', n1, n2, n3, n4⟩ | ⟨pc', lv', st', hq', A', n1, n2, -⟩
    · obtain ⟨v', rfl, hv8⟩ := ex_rt_ok (h2 q' n1).1 n3
      exact ⟨v', hq', n2, hv8, n3.2.1, n4⟩
    · refine (ex_djX_no (xs := ac_xs (.ref a :: tl)) (i := 0) (fun j p hp9 => by rw [Nat.zero_add]; exact m3.2.2.2.1 j p hp9) (fun j p hp9 => ?_) ((h1 q m1).2 _ n1)).elim
      rw [Nat.zero_add, ← hxs]
      exact n2.2.2.2.2.1 j p hp9
  · refine Or.inr ?_
    obtain ⟨e1, e2⟩ := h3 _ m1
    have e1 := Nat.eq_of_beq_eq_true e1
    simp only at e1
    subst e1
    obtain ⟨γ2, -, b2, -⟩ := ac_le_ok e2 m2
    refine ⟨lv, st, hp1, γ2, b2, m3, m4, fun hq hGq hoq => ?_⟩
    rcases ex_runS_ok hKM hNM hlM hm hGq hv' hoq with ⟨r', hq', q', n1, n2, n3, n4⟩ | ⟨pc', lv', st', hq', A', n1, n2, n3, n4⟩
    · refine (ex_djX_no (xs := ac_xs (.ref a :: tl)) (i := 0) (fun j p hp9 => by rw [Nat.zero_add]; exact m2.2.2.2.2.1 j p hp9) (fun j p hp9 => ?_) ((h2 q' n1).2 _ m1)).elim
      rw [Nat.zero_add, ← hxs]
      exact n3.2.2.2.1 j p hp9
    · obtain ⟨e3, e4⟩ := h4 _ n1
      have e3 := Nat.eq_of_beq_eq_true e3
      simp only at e3
      subst e3
      rw [hxs] at n2
      obtain ⟨γ3, -, b3, -⟩ := ac_le_ok e4 n2
      exact ⟨lv', st', hq', γ3, b3, n3, n4⟩
/-- a value that is an argument's -/
theorem ex_org {xs : Nat → Int32} {lv : List (Nat × Value)} {hp : px_H} {a b : Int} {r : List Nat} {j k : Nat} {v : Value} (h : ab_v xs lv hp ((0, a, b, r), some (2, j, k)) v) : v = .int (xs j) ∧ a ≤ (xs j).toInt ∧ (xs j).toInt ≤ b := by
  obtain ⟨x, rfl, hx⟩ := ab_f0 h.1
  obtain ⟨w, w1, w2⟩ := h.2 _ rfl
  cases w1
  simp only [ab_num, Option.some.injEq] at w2
  have : xs j = x := by rw [← Int32.toInt_inj, w2]
  rw [this]
  exact ⟨rfl, hx.1, hx.2⟩
/-- locals without origins stand in any heap -/
theorem ex_sA {xs : Nat → Int32} {lv : List (Nat × Value)} {hp : px_H} (hp' : px_H) {L : List (Nat × ab_V)} (hn : L.all (fun q => q.2.2.isNone) = true) (h : ab_lv xs hp L lv) : ab_lv xs hp' L lv := by
  intro k z hz
  obtain ⟨vv, e1, e2⟩ := h k z hz
  refine ⟨vv, e1, e2.1, ?_⟩
  have := List.all_eq_true.mp hn _ hz
  obtain ⟨f, o⟩ := z
  cases o with
  | none => exact ab_o_none _ _ _ _
  | some l => cases this
theorem ex_ovA {ov : List ac_O} {hp : px_H} {c : Nat} {x y : Nat × vp_A} (hx : hp[c]? = some (.inl x)) (h : ac_ov ov hp) : ac_ov ov (hp.set c (.inl y)) := by
  intro q hq v hv
  rw [ac_fv_arr hx] at hv
  exact h q hq v hv
theorem ex_ov1 {hp : px_H} {c k : Nat} {z : Int32} (h : ac_fv hp c k = some (.int z)) {lo hi : Int} (h1 : lo ≤ z.toInt) (h2 : z.toInt ≤ hi) : ac_ov [(c, k, 0, lo, hi, [])] hp := by
  intro q hq v hv
  cases List.mem_singleton.mp hq
  simp only at hv
  rw [h] at hv
  cases hv
  exact ⟨rfl, h1, h2⟩
/-- an end that answers just this, and leaves this value in this field -/
def ex_rz (t : Int) (c k : Nat) (z : Int) (o : ac_Out) : Bool := ex_rt t o && ex_ze c k z o
end mg_1

section mg_2
/-! dies: the days of death -/
def nm_R (hp : px_H) : Prop := (∃ z : Int32, ac_fv hp 1 0 = some (.int z) ∧ ac_fv hp 69 3 = some (.int z)) ∧ ∃ f g : Nat → Int32, hp[6]? = some (.inl (16, 10, .inl f)) ∧ hp[na_dead]? = some (.inl (nr_dead, 10, .inl g)) ∧ ∀ i : Nat, i < 10 → f i = g i
def nm_Rf (ws : List (Nat × Nat)) (wa : List Nat) : Bool := !(ac_has ws 1 0) && (!(ac_has ws 69 3) && (!(ac_in 6 wa) && !(ac_in na_dead wa)))
theorem nm_R_fr {ws : List (Nat × Nat)} {wa : List Nat} {hp hp' : px_H} (h : px_fr ws wa hp hp') (hw : nm_Rf ws wa = true) (hR : nm_R hp) : nm_R hp' := by
  simp only [nm_Rf, Bool.and_eq_true, Bool.not_eq_true'] at hw
  obtain ⟨⟨z, h1, h2⟩, f, g, h3, h4, h5⟩ := hR
  exact ⟨⟨z, ex_fv_fr h hw.1 h1, ex_fv_fr h hw.2.1 h2⟩, f, g, h.1 _ _ (ac_in_no hw.2.2.1) h3, h.1 _ _ (ac_in_no hw.2.2.2) h4, h5⟩
theorem nm_R_arr {hp : px_H} {x y : Nat × vp_A} (hx : hp[105]? = some (.inl x)) (hR : nm_R hp) : nm_R (hp.set 105 (.inl y)) := by
  obtain ⟨⟨z, h1, h2⟩, f, g, h3, h4, h5⟩ := hR
  exact ⟨⟨z, by rw [ac_fv_arr hx]; exact h1, by rw [ac_fv_arr hx]; exact h2⟩, f, g, by rw [List.getElem?_set_ne (by decide)]; exact h3, by rw [List.getElem?_set_ne (by decide)]; exact h4, h5⟩
set_option maxRecDepth 1000000 in
theorem nm_R0 : nm_R nm_H1 := ⟨⟨0, rfl, rfl⟩, _, _, rfl, rfl, fun i hi => rfl⟩
/-- what two calls leave -/
def ex_twoR (X M : Nat) (cmp : Bool) (a a' : Nat) (t : List Value) (hp : px_H) : Prop :=
  ∃ (v v' : Int32) (hp1 hp2 : px_H), px_C nm_T nm_P X (.ref a :: t) hp (some (.int v)) hp1 ∧ ab_h nm_GH hp1 ∧ px_C nm_T nm_P M (.ref a' :: t) hp1 (some (.int v')) hp2 ∧ ab_h nm_GH hp2 ∧ (cmp = true → v = v') ∧ nm_R hp2
theorem di_no : ∀ κ ∈ ([] : List ac_K), nm_ok κ := fun _ h => absurd h List.not_mem_nil
def di_B (c d : Nat) : ac_S := ([(0, ((2, 0, 0, [c]), none)), (1, ((0, -2147483648, 2147483647, []), some (2, 1, 0))), (2, ((0, -2147483648, 2147483647, []), some (2, 2, 0)))], [((0, 0, 9, []), some (2, 1, 0)), ((2, 0, 0, [d]), none)], [], [], [], [])
set_option maxRecDepth 1000000 in
theorem di_t : (List.range 11).all (fun z => ex_ps (-1) 32 32 (di_B 0 6) (di_B 69 75) (ex_runS [] [] [] [] mi_X_dies mm_X_dies kc_X_dies_0.2.1 [(1, 0, 0, (z : Nat), (z : Nat), [])] [32]) (ex_runS [] [] [(69, 0)] [] mi_M_dies mm_M_dies kc_M_dies_0.2.1 [(69, 3, 0, (z : Nat), (z : Nat), [])] [32])) = true := by decide +kernel
theorem di_bd {hp : px_H} (hG : ab_h nm_GH hp) {z : Int32} (h : ac_fv hp 1 0 = some (.int z)) : 0 ≤ z.toInt ∧ z.toInt ≤ 10 := by
  obtain ⟨w, w1, w2, w3⟩ := ex_fv (c := 1) (k := 0) (by decide +kernel) hG
  rw [h] at w1
  cases w1
  exact ⟨w2, w3⟩
theorem ex_dies {hp : px_H} {a1 a2 : Int32} (hG : ab_h nm_GH hp) (hR : nm_R hp) : ex_twoR mi_X_dies mi_M_dies true 0 69 [.int a1, .int a2] hp := by
  have hR0 := hR
  obtain ⟨⟨z, h1, h2⟩, f, g, h3, h4, h5⟩ := hR
  obtain ⟨z0, z9⟩ := di_bd hG h1
  have t := List.all_eq_true.mp di_t z.toInt.toNat (List.mem_range.mpr (by omega))
  have e1 : ((z.toInt.toNat : Nat) : Int) ≤ z.toInt := by omega
  have e2 : z.toInt ≤ ((z.toInt.toNat : Nat) : Int) := by omega
  rcases ex_hyb di_no di_no rfl rfl (Nat.le_of_ble_eq_true rfl) (Nat.le_of_ble_eq_true rfl) t hG (a := 0) (a' := 69) (tl := [.int a1, .int a2]) ⟨⟨rfl, List.mem_cons_self⟩, ⟨rfl, ab_i32 _⟩, ⟨rfl, ab_i32 _⟩, trivial⟩ ⟨⟨rfl, List.mem_cons_self⟩, ⟨rfl, ab_i32 _⟩, ⟨rfl, ab_i32 _⟩, trivial⟩ (ex_ov1 h1 e1 e2) with ⟨v, hp1, c1, v1, g1, f1, hM⟩ | ⟨lv, st, hp1, γ, s1, f1, hX, hM⟩
  · have hR1 := nm_R_fr f1 (by decide) hR0
    obtain ⟨v', hp2, c2, v2, g2, f2⟩ := hM hp1 g1 (ex_ov1 (ex_fv_fr f1 (by decide) h2) e1 e2)
    exact ⟨v, v', hp1, hp2, c1, g1, c2, g2, fun _ => by rw [← Int32.toInt_inj, v1, v2], nm_R_fr f2 (by decide) hR1⟩
  · obtain ⟨b1, b2, b3, -⟩ := s1
    obtain ⟨u0, l0, o0⟩ := b1 0 _ (List.mem_cons_self)
    obtain ⟨u1, l1, o1⟩ := b1 1 _ (List.mem_cons_of_mem _ List.mem_cons_self)
    obtain ⟨u2, l2, o2⟩ := b1 2 _ (List.mem_cons_of_mem _ (List.mem_cons_of_mem _ List.mem_cons_self))
    obtain ⟨c0, rfl, e0⟩ := ab_f2 o0.1
    cases List.mem_singleton.mp e0
    obtain ⟨rfl, -, -⟩ := ex_org o1
    obtain ⟨rfl, -, -⟩ := ex_org o2
    have x1 : ac_xs [.ref 0, .int a1, .int a2] 1 = a1 := rfl
    have x2 : ac_xs [.ref 0, .int a1, .int a2] 2 = a2 := rfl
    rw [x1] at l1
    rw [x2] at l2
    match st, b2, hX with
    | [w1, w2], ⟨s1, s2, _⟩, hX =>
      obtain ⟨rfl, p0, p9⟩ := ex_org s1
      obtain ⟨c6, rfl, e6⟩ := ab_f2 s2.1
      cases List.mem_singleton.mp e6
      rw [x1] at hX p0 p9
      obtain ⟨fs0, hx0, -, -⟩ := ac_obj b3 (c := 0) rfl
      obtain ⟨fs1, hx1, -, -⟩ := ac_obj b3 (c := 1) rfl
      have h3' : hp1[6]? = some (.inl (16, 10, .inl f)) := f1.1 _ _ (by decide) h3
      have h4' : hp1[na_dead]? = some (.inl (nr_dead, 10, .inl g)) := f1.1 _ _ (by decide) h4
      have h1' := ex_fv_fr f1 (by decide) h1
      have h2' := ex_fv_fr f1 (by decide) h2
      have hgX : ab_h nm_GH (hp1.set 6 (.inl (16, 10, .inl (upd f a1.toNatClampNeg a2)))) := ac_h_arr b3 h3' rfl ⟨rfl, rfl, fun j _ => ⟨rfl, ab_i32 _⟩⟩
      have cX : px_C nm_T nm_P mi_X_dies [.ref 0, .int a1, .int a2] hp (some (.int (f a1.toNatClampNeg))) (hp1.set 6 (.inl (16, 10, .inl (upd f a1.toNatClampNeg a2)))) := by
        refine hX _ _ ?_
        refine px_q_iald (len := 1) rfl h3' rfl (nm_ixR a1 10 p0 (by omega)) ?_
        refine px_Z_its (pc1 := 34) (lv1 := px_st1 lv 3 (.int (f a1.toNatClampNeg))) (st1 := []) (hp1 := hp1) 1 (fun _ _ _ _ => rfl) ?_
        refine px_q_aln (len := 1) (j := 0) rfl (px_st1_nr l0) ?_
        refine px_q_get (len := 3) (ci := 8) (k := 0) (fs := fs0) (v := .ref 1) rfl rfl hx0 (ac_refF b3 (ci := 8) (k := 0) (c := 0) (d := 1) rfl hx0) ?_
        refine px_q_get (len := 3) (ci := 6) (k := 5) (fs := fs1) (v := .ref 6) rfl rfl hx1 (ac_refF b3 (ci := 6) (k := 5) (c := 1) (d := 6) rfl hx1) ?_
        refine px_q_iln (len := 1) (j := 1) rfl (px_st1_ne l1) ?_
        refine px_q_iln (len := 1) (j := 2) rfl (ab_sto1_find l2 (by decide) (fun _ hc => by cases hc)) ?_
        refine px_q_iast (len := 1) rfl h3' rfl (nm_ixR a1 10 p0 (by omega)) ?_
        refine px_q_iln (pc := 44) (len := 1) (j := 3) rfl (px_st1_at _ _ _) ?_
        exact px_q_iret (len := 1) (ty := .int) rfl rfl rfl
      have h2q : ac_fv (hp1.set 6 (.inl (16, 10, .inl (upd f a1.toNatClampNeg a2)))) 69 3 = some (.int z) := by rw [ac_fv_arr h3']; exact h2'
      have h1q : ac_fv (hp1.set 6 (.inl (16, 10, .inl (upd f a1.toNatClampNeg a2)))) 1 0 = some (.int z) := by rw [ac_fv_arr h3']; exact h1'
      have h4q : (hp1.set 6 (.inl (16, 10, .inl (upd f a1.toNatClampNeg a2))))[na_dead]? = some (.inl (nr_dead, 10, .inl g)) := by rw [List.getElem?_set_ne (by decide)]; exact h4'
      have h3q : (hp1.set 6 (.inl (16, 10, .inl (upd f a1.toNatClampNeg a2))))[6]? = some (.inl (16, 10, .inl (upd f a1.toNatClampNeg a2))) := List.getElem?_set_self (List.getElem?_eq_some_iff.mp h3').1
      generalize hp1.set 6 (.inl (16, 10, .inl (upd f a1.toNatClampNeg a2))) = hq at hgX cX h1q h2q h3q h4q
      obtain ⟨lv2, st2, hq1, γ2, s9, f2, hMc⟩ := hM hq hgX (ex_ov1 h2q e1 e2)
      obtain ⟨y1, y2, y3, -⟩ := s9
      obtain ⟨t0, k0, i0⟩ := y1 0 _ (List.mem_cons_self)
      obtain ⟨t1, k1, i1⟩ := y1 1 _ (List.mem_cons_of_mem _ List.mem_cons_self)
      obtain ⟨t2, k2, i2⟩ := y1 2 _ (List.mem_cons_of_mem _ (List.mem_cons_of_mem _ List.mem_cons_self))
      obtain ⟨c1, rfl, e1'⟩ := ab_f2 i0.1
      cases List.mem_singleton.mp e1'
      obtain ⟨rfl, -, -⟩ := ex_org i1
      obtain ⟨rfl, -, -⟩ := ex_org i2
      rw [x1] at k1
      rw [x2] at k2
      match st2, y2, hMc with
      | [w3, w4], ⟨s3, s4, _⟩, hMc =>
        obtain ⟨rfl, -, -⟩ := ex_org s3
        obtain ⟨c75, rfl, e75⟩ := ab_f2 s4.1
        cases List.mem_singleton.mp e75
        rw [x1] at hMc
        obtain ⟨fs, hx, -, -⟩ := ac_obj y3 (c := 69) rfl
        have h4r : hq1[na_dead]? = some (.inl (nr_dead, 10, .inl g)) := f2.1 _ _ (by decide) h4q
        have h3r := f2.1 6 _ (by decide) h3q
        have h1r := ex_fv_fr f2 (by decide) h1q
        have h2r := ex_fv_fr f2 (by decide) h2q
        have hn : a1.toNatClampNeg < 10 := by unfold Int32.toNatClampNeg; omega
        refine ⟨f a1.toNatClampNeg, g a1.toNatClampNeg, hq, hq1.set na_dead (.inl (nr_dead, 10, .inl (upd g a1.toNatClampNeg a2))), cX, hgX, ?_, ac_h_arr y3 h4r rfl ⟨rfl, rfl, fun j _ => ⟨rfl, ab_i32 _⟩⟩, fun _ => h5 _ hn, ⟨z, by rw [ac_fv_arr h4r]; exact h1r, by rw [ac_fv_arr h4r]; exact h2r⟩, _, _, by rw [List.getElem?_set_ne (by decide)]; exact h3r, List.getElem?_set_self (List.getElem?_eq_some_iff.mp h4r).1, fun i hi => ?_⟩
        · refine hMc _ _ ?_
          refine px_q_iald (len := 1) rfl h4r rfl (nm_ixR a1 10 p0 (by omega)) ?_
          refine px_Z_its (pc1 := 34) (lv1 := px_st1 lv2 3 (.int (g a1.toNatClampNeg))) (st1 := []) (hp1 := hq1) 1 (fun _ _ _ _ => rfl) ?_
          refine px_q_aln (len := 1) (j := 0) rfl (px_st1_nr k0) ?_
          refine px_q_get (len := 3) (ci := 9) (k := nf_dead) (fs := fs) (v := .ref na_dead) rfl rfl hx (nm_f y3 hx rfl) ?_
          refine px_q_iln (len := 1) (j := 1) rfl (px_st1_ne k1) ?_
          refine px_q_iln (len := 1) (j := 2) rfl (ab_sto1_find k2 (by decide) (fun _ hc => by cases hc)) ?_
          refine px_q_iast (len := 1) rfl h4r rfl (nm_ixR a1 10 p0 (by omega)) ?_
          refine px_q_iln (pc := 41) (len := 1) (j := 3) rfl (px_st1_at _ _ _) ?_
          exact px_q_iret (len := 1) (ty := .int) rfl rfl rfl
        · simp only [upd]
          split
          · rfl
          · exact h5 i hi
/-! person -/
def dp_B (z : Int) : ac_S := ([], [((0, 0, 5, []), none), ((2, 0, 0, [1]), none)], [(1, 0, 0, z, min z 9, [])], [], [], [])
def dp_C (z : Int) : ac_S := ([(0, ((2, 0, 0, [1]), none)), (2, ((0, z, z, []), none))], [((0, 1000, 1000, []), none), ((0, z, z, []), none), ((2, 0, 0, [6]), none)], [(1, 0, 0, z, z, [])], [], [], [])
def dp_D (z : Int) : ac_S := ([(0, ((2, 0, 0, [1]), none)), (2, ((0, z, z, []), none))], [], [(1, 0, 0, z, z, [])], [], [], [])
def dp_M (z : Int) : ac_S := ([(0, ((2, 0, 0, [69]), none))], [((0, 1000, 1000, []), none), ((0, z, z, []), none), ((2, 0, 0, [75]), none)], [(69, 3, 0, z, z, [])], [], [], [])
def dp_N (z : Int) : ac_S := ([(0, ((2, 0, 0, [69]), none))], [], [(69, 3, 0, z, z, [])], [], [], [])
abbrev dp_wM : List Nat := [na_home, na_owes, na_goneFrom, na_goneTo]
set_option maxRecDepth 1000000 in
theorem dp_t : (List.range 11).all (fun z => ex_ps (-1) 29 79 (dp_B (z : Nat)) (dp_M (z : Nat)) (ex_runS [] [] [] [] mi_X_person mm_X_person kc_X_person_0.2.1 [(1, 0, 0, (z : Nat), (z : Nat), [])] [29]) (ex_runS [] [] [(69, 0)] dp_wM mi_M_person mm_M_person kc_M_person_0.2.1 [(69, 3, 0, (z : Nat), (z : Nat), [])] [79])) = true := by decide +kernel
def dp_f : List ab_F := [(2, 0, 0, [1]), (0, 0, 5, [])]
def dp_e (z : Int) : Bool := match ex_runS [] [] [] [2, 4, 5] mi_Town_addPerson mm_Town_addPerson dp_f [(1, 0, 0, z, z, [])] [34] with
  | some o => o.1.isEmpty && o.2.all (fun q => Nat.beq q.1 34 && ac_le nm_GH none q.2 (dp_C z))
  | none => false
def dp_g (z : Int) : Bool := match ac_run nm_T nm_P nm_GH nm_FA [] [] [(1, 0)] [] 20000 false [] mi_Town_addPerson mm_Town_addPerson 35 (dp_D z) with
  | some (os, []) => os.all (ex_rz z 1 0 (z + 1))
  | _ => false
def dp_h (z : Int) : Bool := match ac_run nm_T nm_P nm_GH nm_FA [] [] [(69, 3)] [] 20000 false [] mi_M_person mm_M_person 80 (dp_N z) with
  | some (os, []) => os.all (ex_rz z 69 3 (z + 1))
  | _ => false
set_option maxRecDepth 1000000 in
theorem dp_u : (List.range 10).all (fun z => dp_e (z : Nat) && (dp_g (z : Nat) && dp_h (z : Nat))) = true := by decide +kernel
/-- a store of 1000 at a place of an array, and on by the interpreter -/
theorem dp_st {mi : Nat} {N : px_M} {pc c t : Nat} {z : Int} {cF kF : Nat} {C D : ac_S} {ws : List (Nat × Nat)} (hsplit : C = (D.1, [((0, 1000, 1000, []), none), ((0, z, z, []), none), ((2, 0, 0, [c]), none)], D.2.2)) (hD1 : D.1.all (fun q => q.2.2.isNone) = true) (hD2 : D.2.1 = []) (hD3 : D.2.2.2.1 = []) (hD4 : D.2.2.2.2.1 = []) (hD5 : D.2.2.2.2.2 = [])
    (hgo : (match ac_run nm_T nm_P nm_GH nm_FA [] [] ws [] 20000 false [] mi N (pc + 1) D with
      | some (os, []) => os.all (ex_rz z cF kF (z + 1))
      | _ => false) = true) (hI : ex_isI cF kF = true) (hf : px_find pc (px_cd N) = some (1, .iastore)) (ht : nm_T.1[t]? = some .int) (hc : nm_GH[c]? = some (.inr (t, 10, (0, (-2147483648), 2147483647, []))))
    {xs : Nat → Int32} {γ : Nat → Int} {lv : List (Nat × Value)} {st : List Value} {hp : px_H} {f : Nat → Int32} (hs : ac_s nm_GH nm_Φ xs γ C lv st hp) (hx : hp[c]? = some (.inl (t, 10, .inl f))) (z0 : 0 ≤ z) (z9 : z < 10) :
    ∃ (v w : Int32) (hp' : px_H), px_Z nm_T none nm_P N pc lv st hp (some (.int v)) hp' ∧ v.toInt = z ∧ ac_fv hp' cF kF = some (.int w) ∧ w.toInt = z + 1 ∧ ab_h nm_GH hp' ∧ px_fr ws [] (hp.set c (.inl (t, 10, .inl (upd f z.toNat 1000)))) hp' ∧ hp'[c]? = some (.inl (t, 10, .inl (upd f z.toNat 1000))) := by
  subst hsplit
  obtain ⟨b1, b2, b3, b4, -⟩ := hs
  match st, b2 with
  | [w1, w2, w3], ⟨s1, s2, s3, _⟩ =>
    obtain ⟨k, rfl, hk⟩ := ab_f0 s1.1
    obtain ⟨j, rfl, hj⟩ := ab_f0 s2.1
    obtain ⟨c', rfl, e⟩ := ab_f2 s3.1
    cases List.mem_singleton.mp e
    have k1 : (1000 : Int) ≤ k.toInt := hk.1
    have k2 : k.toInt ≤ (1000 : Int) := hk.2
    have hk9 : k = 1000 := by
      rw [← Int32.toInt_inj, show (1000 : Int32).toInt = 1000 from rfl]
      omega
    subst hk9
    have j1 : z ≤ j.toInt := hj.1
    have j2 : j.toInt ≤ z := hj.2
    have hjn : j.toNatClampNeg = z.toNat := by unfold Int32.toNatClampNeg; omega
    have hG2 : ab_h nm_GH (hp.set c (.inl (t, 10, .inl (upd f z.toNat 1000)))) := ac_h_arr b3 hx hc ⟨rfl, rfl, fun j _ => ⟨rfl, ab_i32 _⟩⟩
    have hlv := ex_sA (hp.set c (.inl (t, 10, .inl (upd f z.toNat 1000)))) hD1 b1
    have hov : ac_ov D.2.2.1 (hp.set c (.inl (t, 10, .inl (upd f z.toNat 1000)))) := ex_ovA hx b4
    have hc9 : (hp.set c (.inl (t, 10, .inl (upd f z.toNat 1000))))[c]? = some (.inl (t, 10, .inl (upd f z.toNat 1000))) := List.getElem?_set_self (List.getElem?_eq_some_iff.mp hx).1
    split at hgo
    · rename_i os hos
      obtain ⟨r, hp', q, n1, n2, n3, n4⟩ := ex_goOn di_no hos (xs := xs) (γ := fun _ => 0) (lv := lv) (st := []) (hp := hp.set c (.inl (t, 10, .inl (upd f z.toNat 1000)))) ⟨hlv, by rw [hD2]; trivial, hG2, hov, by rw [hD3]; exact fun j q hq => (by simp at hq), by rw [hD4]; exact fun i hi => (by cases hi), by rw [hD5]; exact fun q hq => (by cases hq)⟩
      have hz := List.all_eq_true.mp hgo q n1
      simp only [ex_rz, Bool.and_eq_true] at hz
      obtain ⟨v, rfl, hv⟩ := ex_rt_ok hz.1 n3
      obtain ⟨v9, w, e9, w1, w2⟩ := ex_ze_ok hI hz.2 n3
      refine ⟨v, w, hp', ?_, hv, w1, w2, n3.2.1, n4, n4.1 _ _ (List.not_mem_nil) hc9⟩
      refine px_q_iast (len := 1) hf hx ht (nm_ixR j 10 (by omega) (by omega)) ?_
      rw [hjn]
      exact n2
    · cases hgo
theorem ex_person {hp : px_H} {a1 : Int32} (hG : ab_h nm_GH hp) (hR : nm_R hp) : ex_twoR mi_X_person mi_M_person true 0 69 [.int a1] hp := by
  have hR0 := hR
  obtain ⟨⟨z, h1, h2⟩, f, g, h3, h4, h5⟩ := hR
  obtain ⟨z0, z9⟩ := di_bd hG h1
  have t := List.all_eq_true.mp dp_t z.toInt.toNat (List.mem_range.mpr (by omega))
  have e1 : ((z.toInt.toNat : Nat) : Int) ≤ z.toInt := by omega
  have e2 : z.toInt ≤ ((z.toInt.toNat : Nat) : Int) := by omega
  rcases ex_hyb di_no di_no rfl rfl (Nat.le_of_ble_eq_true rfl) (Nat.le_of_ble_eq_true rfl) t hG (a := 0) (a' := 69) (tl := [.int a1]) ⟨⟨rfl, List.mem_cons_self⟩, ⟨rfl, ab_i32 _⟩, trivial⟩ ⟨⟨rfl, List.mem_cons_self⟩, ⟨rfl, ab_i32 _⟩, trivial⟩ (ex_ov1 h1 e1 e2) with ⟨v, hp1, c1, v1, g1, f1, hM⟩ | ⟨lv, st, hp1, γ, s1, f1, hX, hM⟩
  · have hR1 := nm_R_fr f1 (by decide) hR0
    obtain ⟨v', hp2, c2, v2, g2, f2⟩ := hM hp1 g1 (ex_ov1 (ex_fv_fr f1 (by decide) h2) e1 e2)
    exact ⟨v, v', hp1, hp2, c1, g1, c2, g2, fun _ => by rw [← Int32.toInt_inj, v1, v2], nm_R_fr f2 (by decide) hR1⟩
  · obtain ⟨b1, b2, b3, b4, -⟩ := s1
    have h1' := ex_fv_fr f1 (by decide) h1
    have zz := b4 (1, 0, 0, ((z.toInt.toNat : Nat) : Int), min ((z.toInt.toNat : Nat) : Int) 9, []) List.mem_cons_self (.int z) h1'
    have z8 : z.toInt ≤ min ((z.toInt.toNat : Nat) : Int) 9 := zz.2.2
    have z8 : z.toInt ≤ 9 := by omega
    match st, b2, hX with
    | [w1, w2], ⟨s1, s2, _⟩, hX =>
      obtain ⟨hs, rfl, hh⟩ := ab_f0 s1.1
      obtain ⟨c1, rfl, e1'⟩ := ab_f2 s2.1
      cases List.mem_singleton.mp e1'
      obtain ⟨fs1, hx1, -, -⟩ := ac_obj b3 (c := 1) rfl
      have u := List.all_eq_true.mp dp_u z.toInt.toNat (List.mem_range.mpr (by omega))
      simp only [Bool.and_eq_true] at u
      obtain ⟨u1, u2, u3⟩ := u
      unfold dp_e at u1
      split at u1
      rotate_left
      · cases u1
      rename_i o ho
      simp only [Bool.and_eq_true, List.all_eq_true, List.isEmpty_iff] at u1
      rcases ex_runS_ok di_no rfl (Nat.le_of_ble_eq_true rfl) ho b3 (av := [.ref 1, .int hs]) ⟨⟨rfl, List.mem_cons_self⟩, ⟨rfl, hh.1, hh.2⟩, trivial⟩ (ex_ov1 h1' e1 e2) with ⟨r, hp', q, m1, -⟩ | ⟨pc', lv', st', hp3, A', m1, m2, m3, m4⟩
      · rw [u1.1] at m1
        cases m1
      obtain ⟨q1, q2⟩ := u1.2 _ m1
      have q1 := Nat.eq_of_beq_eq_true q1
      simp only at q1
      subst q1
      obtain ⟨γ2, -, h9, -⟩ := ac_le_ok q2 m2
      have h3' : hp3[6]? = some (.inl (16, 10, .inl f)) := m3.1 _ _ (by decide) (f1.1 _ _ (by decide) h3)
      have h4' : hp3[na_dead]? = some (.inl (nr_dead, 10, .inl g)) := m3.1 _ _ (by decide) (f1.1 _ _ (by decide) h4)
      have h2' : ac_fv hp3 69 3 = some (.int z) := ex_fv_fr m3 (by decide) (ex_fv_fr f1 (by decide) h2)
      obtain ⟨v, w, hp4, p1, p2, p3, p4, p5, p6, p7⟩ := dp_st (mi := mi_Town_addPerson) (N := mm_Town_addPerson) (pc := 34) (c := 6) (t := 16) (z := ((z.toInt.toNat : Nat) : Int)) (cF := 1) (kF := 0) (C := dp_C ((z.toInt.toNat : Nat) : Int)) (D := dp_D ((z.toInt.toNat : Nat) : Int)) (ws := [(1, 0)]) rfl rfl rfl rfl rfl rfl (by unfold dp_g at u2; exact u2) (by decide +kernel) rfl rfl rfl h9 h3' (by omega) (by omega)
      have h4q : hp4[na_dead]? = some (.inl (nr_dead, 10, .inl g)) := p6.1 _ _ (List.not_mem_nil) (by rw [List.getElem?_set_ne (by decide)]; exact h4')
      have h2q : ac_fv hp4 69 3 = some (.int z) := ex_fv_fr p6 (by decide) (by rw [ac_fv_arr h3']; exact h2')
      have cX : px_C nm_T nm_P mi_X_person [.ref 0, .int a1] hp (some (.int v)) hp4 := by
        refine hX _ _ ?_
        refine px_q_virt (len := 3) (n := 1) (a := 1) (N := mm_Town_addPerson) (mi := mi_Town_addPerson) (ci := 6) rfl rfl rfl hx1 rfl (Nat.le_of_ble_eq_true rfl) (Nat.le_of_ble_eq_true rfl) rfl rfl (m4 _ _ p1) ?_
        exact px_q_iret (len := 1) (ty := .int) rfl rfl rfl
      obtain ⟨lv2, st2, hq1, γ3, s9, f2, hMc⟩ := hM hp4 p5 (ex_ov1 h2q e1 e2)
      have h4r : hq1[na_dead]? = some (.inl (nr_dead, 10, .inl g)) := f2.1 _ _ (by decide) h4q
      obtain ⟨v', w', hp5, r1, r2, r3, r4, r5, r6, r7⟩ := dp_st (mi := mi_M_person) (N := mm_M_person) (pc := 79) (c := 75) (t := nr_dead) (z := ((z.toInt.toNat : Nat) : Int)) (cF := 69) (kF := 3) (C := dp_M ((z.toInt.toNat : Nat) : Int)) (D := dp_N ((z.toInt.toNat : Nat) : Int)) (ws := [(69, 3)]) rfl rfl rfl rfl rfl rfl (by unfold dp_h at u3; exact u3) (by decide +kernel) rfl rfl rfl s9 h4r (by omega) (by omega)
      have hw : w = w' := by rw [← Int32.toInt_inj, p4, r4]
      subst hw
      have h6r : hp5[6]? = some (.inl (16, 10, .inl (upd f ((z.toInt.toNat : Nat) : Int).toNat 1000))) := r6.1 _ _ (List.not_mem_nil) (by rw [List.getElem?_set_ne (by decide)]; exact f2.1 _ _ (by decide) p7)
      refine ⟨v, v', hp4, hp5, cX, p5, hMc _ _ r1, r5, fun _ => by rw [← Int32.toInt_inj, p2, r2], ⟨w, ex_fv_fr r6 (by decide) (by rw [ac_fv_arr h4r]; exact ex_fv_fr f2 (by decide) p3), r3⟩, _, _, h6r, r7, fun i hi => ?_⟩
      simp only [upd]
      split
      · rfl
      · exact h5 i hi
end mg_2
