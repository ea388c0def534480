section mg_0
/-! going on by the interpreter from a place in the middle; boolean arrays -/
section px_q9
variable {T : px_T} {X : Option (Nat × (Nat → Int32))} {P : List px_M} {M : px_M}
variable {pc len : Nat} {lv : List (Nat × Value)} {st : List Value} {hp hp' : px_H} {r : Option Value}
theorem px_q_bald {a t n : Nat} {f : Nat → Int32} {j : Int32} (hf : px_find pc (px_cd M) = some (len, .baload)) (hx : hp[a]? = some (.inl (t, n, .inl f))) (ht : T.1[t]? = some .boolean) (hj : px_inR j n = true)
    (hR : px_Z T X P M (pc + len) lv (.int (f j.toNatClampNeg) :: st) hp r hp') : px_Z T X P M pc lv (.int j :: .ref a :: st) hp r hp' :=
  px_Z_its 1 (fun call N0 nc ns => by simp only [px_its, px_step, hf, px_alu, px_ald, hx, ht, hj, Option.map_some]) hR
theorem px_q_bast {a t n : Nat} {f : Nat → Int32} {j x : Int32} (hf : px_find pc (px_cd M) = some (len, .bastore)) (hx : hp[a]? = some (.inl (t, n, .inl f))) (ht : T.1[t]? = some .boolean) (hj : px_inR j n = true) (h01 : (decide (x = 0) || decide (x = 1)) = true)
    (hR : px_Z T X P M (pc + len) lv st (hp.set a (.inl (t, n, .inl (upd f j.toNatClampNeg x)))) r hp') : px_Z T X P M pc lv (.int x :: .int j :: .ref a :: st) hp r hp' :=
  px_Z_its 1 (fun call N0 nc ns => by simp only [px_its, px_step, hf, px_alu, px_ast, hx, ht, hj, h01, Option.map_some]) hR
end px_q9
theorem ex_goOn {K : List ac_K} {lps : List ac_L} {ws : List (Nat × Nat)} {wa : List Nat} {mi pc : Nat} {N : px_M} {A : ac_S} {o : List ac_Out} (hK : ∀ κ ∈ K, nm_ok κ) (h : ac_run nm_T nm_P nm_GH nm_FA K lps ws wa 20000 false [] mi N pc A = some (o, [])) {xs : Nat → Int32} {γ : Nat → Int} {lv : List (Nat × Value)} {st : List Value} {hp : px_H} (hA : ac_s nm_GH nm_Φ xs γ A lv st hp) :
    ∃ (r : Option Value) (hp' : px_H) (q : ac_Out), q ∈ o ∧ px_Z nm_T none nm_P N pc lv st hp r hp' ∧ ac_o' nm_GH nm_Φ xs q r hp' ∧ px_fr ws wa hp hp' := by
  rcases ac_run_ok (xs := xs) nm_Fl nm_FG hK 20000 false [] mi N pc A _ none γ lv st hp h hA with ⟨r, hp', oc, m1, m2, m3, hr⟩ | ⟨pc', lv', st', hp', A', m1, -⟩
  · exact ⟨r, hp', oc, m1, hr, m2, m3⟩
  · cases m1
/-- an end that answers just this -/
def ex_rt (t : Int) (o : ac_Out) : Bool := match ex_one (o.1.map (fun a => a.1)) with
  | some a => decide (a = t)
  | none => false
theorem ex_rt_ok {t : Int} {xs : Nat → Int32} {o : ac_Out} {r : Option Value} {hp : px_H} (h : ex_rt t o = true) (ho : ac_o' nm_GH nm_Φ xs o r hp) : ∃ v : Int32, r = some (.int v) ∧ v.toInt = t := by
  have g := ho.1
  unfold ex_rt at h
  split at h
  · rename_i a ha
    have := of_decide_eq_true h
    subst this
    cases h1 : o.1 with
    | none => rw [h1] at ha; cases ha
    | some b =>
      rw [h1] at ha g
      cases r with
      | none => exact absurd g (by simp)
      | some v =>
        obtain ⟨x, rfl, e2⟩ := ex_one_ok ha g.1
        exact ⟨x, rfl, e2⟩
  · cases h
def ex_rts (t : Int) (os : Option (List ac_Out)) : Bool := match os with
  | some os => os.all (ex_rt t)
  | none => false
theorem ex_rts_ok {K : List ac_K} {lps : List ac_L} {ws : List (Nat × Nat)} {wa : List Nat} {mi : Nat} {fs : List ab_F} {ov : List ac_O} {t : Int} (hK : ∀ κ ∈ K, nm_ok κ) (h : ex_rts t (ex_run K lps ws wa mi fs ov) = true) {av : List Value} {hp : px_H} (hG : ab_h nm_GH hp) (hav : ac_argv fs av) (hov : ac_ov ov hp) :
    ∃ (v : Int32) (hp' : px_H) (o : ac_Out), px_C nm_T nm_P mi av hp (some (.int v)) hp' ∧ v.toInt = t ∧ ac_o' nm_GH nm_Φ (ac_xs av) o (some (.int v)) hp' ∧ px_fr ws wa hp hp' := by
  unfold ex_rts at h
  split at h
  · rename_i os ho
    obtain ⟨r, hp', o, m1, m2, m3, m4⟩ := ex_run_ok hK ho hG hav hov
    obtain ⟨v, rfl, hv⟩ := ex_rt_ok (List.all_eq_true.mp h o m1) m3
    exact ⟨v, hp', o, m2, hv, m3, m4⟩
  · cases h
end mg_0

section mg_1
/-! two calls that end alike, or come alike to a place from where one goes on by hand -/
def ex_ps (t : Int) (SX SM : Nat) (BX BM : ac_S) (oX oM : Option (List ac_Out × List (Nat × ac_S))) : Bool := match oX, oM with
  | some x, some m => x.1.all (fun o => ex_rt t o && m.2.all (fun q => ex_djX o.2.2.1 q.2.2.2.2.1)) && (m.1.all (fun o => ex_rt t o && x.2.all (fun q => ex_djX q.2.2.2.2.1 o.2.2.1)) && (x.2.all (fun q => Nat.beq q.1 SX && ac_le nm_GH none q.2 BX) && m.2.all (fun q => Nat.beq q.1 SM && ac_le nm_GH none q.2 BM)))
  | _, _ => false
theorem ex_hyb {KX KM : List ac_K} {lX lM : List ac_L} {wsX wsM : List (Nat × Nat)} {waX waM : List Nat} {miX miM : Nat} {NX NM : px_M} {fsX fsM : List ab_F} {ovX ovM : List ac_O} {stX stM : List Nat} {t : Int} {SX SM : Nat} {BX BM : ac_S}
    (hKX : ∀ κ ∈ KX, nm_ok κ) (hKM : ∀ κ ∈ KM, nm_ok κ) (hNX : nm_P[miX]? = some NX) (hNM : nm_P[miM]? = some NM) (hlX : ((ac_ini 0 fsX).map ab_cat).sum ≤ px_ml NX) (hlM : ((ac_ini 0 fsM).map ab_cat).sum ≤ px_ml NM)
    (h : ex_ps t SX SM BX BM (ex_runS KX lX wsX waX miX NX fsX ovX stX) (ex_runS KM lM wsM waM miM NM fsM ovM stM) = true) {hp : px_H} {a a' : Nat} {tl : List Value} (hG : ab_h nm_GH hp) (hv : ac_argv fsX (.ref a :: tl)) (hv' : ac_argv fsM (.ref a' :: tl)) (hX : ac_ov ovX hp) :
    (∃ (v : Int32) (hp1 : px_H), px_C nm_T nm_P miX (.ref a :: tl) hp (some (.int v)) hp1 ∧ v.toInt = t ∧ ab_h nm_GH hp1 ∧ px_fr wsX waX hp hp1 ∧ ∀ hq : px_H, ab_h nm_GH hq → ac_ov ovM hq → ∃ (v' : Int32) (hq' : px_H), px_C nm_T nm_P miM (.ref a' :: tl) hq (some (.int v')) hq' ∧ v'.toInt = t ∧ ab_h nm_GH hq' ∧ px_fr wsM waM hq hq') ∨
    (∃ (lv : List (Nat × Value)) (st : List Value) (hp1 : px_H) (γ : Nat → Int), ac_s nm_GH nm_Φ (ac_xs (.ref a :: tl)) γ BX lv st hp1 ∧ px_fr wsX waX hp hp1 ∧ (∀ (r : Option Value) (h9 : px_H), px_Z nm_T none nm_P NX SX lv st hp1 r h9 → px_C nm_T nm_P miX (.ref a :: tl) hp r h9) ∧
      ∀ hq : px_H, ab_h nm_GH hq → ac_ov ovM hq → ∃ (lv' : List (Nat × Value)) (st' : List Value) (hq' : px_H) (γ' : Nat → Int), ac_s nm_GH nm_Φ (ac_xs (.ref a :: tl)) γ' BM lv' st' hq' ∧ px_fr wsM waM hq hq' ∧ ∀ (r : Option Value) (h9 : px_H), px_Z nm_T none nm_P NM SM lv' st' hq' r h9 → px_C nm_T nm_P miM (.ref a' :: tl) hq r h9) := by
  unfold ex_ps at h
  split at h
  rotate_left
  · cases h
  rename_i x m hx hm
  simp only [Bool.and_eq_true, List.all_eq_true] at h
  obtain ⟨h1, h2, h3, h4⟩ := h
  have hxs : ac_xs (.ref a' :: tl) = ac_xs (.ref a :: tl) := by
    funext i
    cases i with
    | zero => rfl
    | succ i => rfl
  rcases ex_runS_ok hKX hNX hlX hx hG hv hX with ⟨r, hp1, q, m1, m2, m3, m4⟩ | ⟨pc, lv, st, hp1, A, m1, m2, m3, m4⟩
  · refine Or.inl ?_
    obtain ⟨v, rfl, hv9⟩ := ex_rt_ok (h1 q m1).1 m3
    refine ⟨v, hp1, m2, hv9, m3.2.1, m4, fun hq hGq hoq => ?_⟩
    rcases ex_runS_ok hKM hNM hlM hm hGq hv' hoq with ⟨r', hq', q', n1, n2, n3, n4⟩ | ⟨pc', lv', st', hq', A', n1, n2, -⟩
    · obtain ⟨v', rfl, hv8⟩ := ex_rt_ok (h2 q' n1).1 n3
      exact ⟨v', hq', n2, hv8, n3.2.1, n4⟩
    · refine (ex_djX_no (xs := ac_xs (.ref a :: tl)) (i := 0) (fun j p hp9 => by rw [Nat.zero_add]; exact m3.2.2.2.1 j p hp9) (fun j p hp9 => ?_) ((h1 q m1).2 _ n1)).elim
      rw [Nat.zero_add, ← hxs]
      exact n2.2.2.2.2.1 j p hp9
  · refine Or.inr ?_
    obtain ⟨e1, e2⟩ := h3 _ m1
    have e1 := Nat.eq_of_beq_eq_true e1
    simp only at e1
    subst e1
    obtain ⟨γ2, -, b2, -⟩ := ac_le_ok e2 m2
    refine ⟨lv, st, hp1, γ2, b2, m3, m4, fun hq hGq hoq => ?_⟩
    rcases ex_runS_ok hKM hNM hlM hm hGq hv' hoq with ⟨r', hq', q', n1, n2, n3, n4⟩ | ⟨pc', lv', st', hq', A', n1, n2, n3, n4⟩
    · refine (ex_djX_no (xs := ac_xs (.ref a :: tl)) (i := 0) (fun j p hp9 => by rw [Nat.zero_add]; exact m2.2.2.2.2.1 j p hp9) (fun j p hp9 => ?_) ((h2 q' n1).2 _ m1)).elim
      rw [Nat.zero_add, ← hxs]
      exact n3.2.2.2.1 j p hp9
    · obtain ⟨e3, e4⟩ := h4 _ n1
      have e3 := Nat.eq_of_beq_eq_true e3
      simp only at e3
      subst e3
      rw [hxs] at n2
      obtain ⟨γ3, -, b3, -⟩ := ac_le_ok e4 n2
      exact ⟨lv', st', hq', γ3, b3, n3, n4⟩
/-- a value that is an argument's -/
theorem ex_org {xs : Nat → Int32} {lv : List (Nat × Value)} {hp : px_H} {a b : Int} {r : List Nat} {j k : Nat} {v : Value} (h : ab_v xs lv hp ((0, a, b, r), some (2, j, k)) v) : v = .int (xs j) ∧ a ≤ (xs j).toInt ∧ (xs j).toInt ≤ b := by
  obtain ⟨x, rfl, hx⟩ := ab_f0 h.1
  obtain ⟨w, w1, w2⟩ := h.2 _ rfl
  cases w1
  simp only [ab_num, Option.some.injEq] at w2
  have : xs j = x := by rw [← Int32.toInt_inj, w2]
  rw [this]
  exact ⟨rfl, hx.1, hx.2⟩
/-- locals without origins stand in any heap -/
theorem ex_sA {xs : Nat → Int32} {lv : List (Nat × Value)} {hp : px_H} (hp' : px_H) {L : List (Nat × ab_V)} (hn : L.all (fun q => q.2.2.isNone) = true) (h : ab_lv xs hp L lv) : ab_lv xs hp' L lv := by
  intro k z hz
  obtain ⟨vv, e1, e2⟩ := h k z hz
  refine ⟨vv, e1, e2.1, ?_⟩
  have := List.all_eq_true.mp hn _ hz
  obtain ⟨f, o⟩ := z
  cases o with
  | none => exact ab_o_none _ _ _ _
  | some l => cases this
theorem ex_ovA {ov : List ac_O} {hp : px_H} {c : Nat} {x y : Nat × vp_A} (hx : hp[c]? = some (.inl x)) (h : ac_ov ov hp) : ac_ov ov (hp.set c (.inl y)) := by
  intro q hq v hv
  rw [ac_fv_arr hx] at hv
  exact h q hq v hv
theorem ex_ov1 {hp : px_H} {c k : Nat} {z : Int32} (h : ac_fv hp c k = some (.int z)) {lo hi : Int} (h1 : lo ≤ z.toInt) (h2 : z.toInt ≤ hi) : ac_ov [(c, k, 0, lo, hi, [])] hp := by
  intro q hq v hv
  cases List.mem_singleton.mp hq
  simp only at hv
  rw [h] at hv
  cases hv
  exact ⟨rfl, h1, h2⟩
/-- an end that answers just this, and leaves this value in this field -/
def ex_rz (t : Int) (c k : Nat) (z : Int) (o : ac_Out) : Bool := ex_rt t o && ex_ze c k z o
end mg_1

section mg_2
/-! going on to places where it stops; a field of an object -/
theorem ex_goS {K : List ac_K} {lps : List ac_L} {ws : List (Nat × Nat)} {wa : List Nat} {mi pc : Nat} {N : px_M} {A : ac_S} {stop : List Nat} {o : List ac_Out × List (Nat × ac_S)} (hK : ∀ κ ∈ K, nm_ok κ) (h : ac_run nm_T nm_P nm_GH nm_FA K lps ws wa 20000 false stop mi N pc A = some o) {xs : Nat → Int32} {γ : Nat → Int} {lv : List (Nat × Value)} {st : List Value} {hp : px_H} (hA : ac_s nm_GH nm_Φ xs γ A lv st hp) :
    (∃ (r : Option Value) (hp' : px_H) (q : ac_Out), q ∈ o.1 ∧ px_Z nm_T none nm_P N pc lv st hp r hp' ∧ ac_o' nm_GH nm_Φ xs q r hp' ∧ px_fr ws wa hp hp') ∨
    (∃ (pc' : Nat) (lv' : List (Nat × Value)) (st' : List Value) (hp' : px_H) (A' : ac_S), (pc', A') ∈ o.2 ∧ ac_s nm_GH nm_Φ xs γ A' lv' st' hp' ∧ px_fr ws wa hp hp' ∧ ∀ (r : Option Value) (h9 : px_H), px_Z nm_T none nm_P N pc' lv' st' hp' r h9 → px_Z nm_T none nm_P N pc lv st hp r h9) := by
  rcases ac_run_ok (xs := xs) nm_Fl nm_FG hK 20000 false stop mi N pc A _ none γ lv st hp h hA with ⟨r, hp', oc, m1, m2, m3, hr⟩ | ⟨pc', lv', st', hp', A', m1, m2, m3, n1, k1, h1⟩
  · exact Or.inl ⟨r, hp', oc, m1, hr, m2, m3⟩
  · refine Or.inr ⟨pc', lv', st', hp', A', m1, m2, m3, fun r h9 hz => ?_⟩
    obtain ⟨n2, k2, h3⟩ := hz
    exact ⟨max n1 n2, k1 + k2, fun n9 hn9 N0 nc ns q1 q2 => px_its_run k1 (h1 n9 (by omega) N0 nc ns q1 q2) (h3 n9 (by omega) N0 nc ns q1 q2)⟩
/-- locals whose origins are arguments stand in any heap -/
theorem ex_sG {xs : Nat → Int32} {lv : List (Nat × Value)} {hp : px_H} (hp' : px_H) {L : List (Nat × ab_V)} (hn : L.all (fun q => match q.2.2 with | none => true | some l => Nat.beq l.1 2) = true) (h : ab_lv xs hp L lv) : ab_lv xs hp' L lv := by
  intro k z hz
  obtain ⟨vv, e1, e2⟩ := h k z hz
  refine ⟨vv, e1, e2.1, fun l hl => ?_⟩
  have := List.all_eq_true.mp hn _ hz
  obtain ⟨f, o⟩ := z
  simp only at hl
  subst hl
  obtain ⟨l0, l1, l2⟩ := l
  have e := Nat.eq_of_beq_eq_true this
  simp only at e
  subst e
  exact e2.2 _ rfl
theorem dr_fvo {hp : px_H} {c ci k : Nat} {fs : List Value} {v : Value} (hx : hp[c]? = some (.inr (ci, fs))) (h : ac_fv hp c k = some v) : fs[k]? = some v := by
  unfold ac_fv at h
  rw [hx] at h
  exact h
/-! in -/
theorem dr_in (a b c : Int64) (hp : px_H) : px_C nm_T nm_P mi_M_in [.long a, .long b, .long c] hp (some (.int (if b.toInt ≤ a.toInt ∧ a.toInt ≤ c.toInt then 1 else 0))) hp := by
  refine px_C_of (N := mm_M_in) rfl (Nat.le_of_ble_eq_true rfl) ?_
  refine px_Z_its (pc1 := 2) (lv1 := [(0, .long a), (2, .long b), (4, .long c)]) (st1 := [.long b, .long a]) (hp1 := hp) 2 (fun _ _ _ _ => rfl) ?_
  have r1 := ab_lcmp_rel .lt a b
  have r2 := ab_lcmp_rel .gt a c
  cases h1 : px_cmp .lt (lg_cmp a b) 0 with
  | true =>
    have e1 : a.toInt < b.toInt := r1.1 h1
    rw [if_neg (by omega)]
    refine px_q_lif (bb := true) (len := 1) (c := .lt) (off := 14) rfl rfl h1 ?_
    refine px_Z_its (pc1 := 18) (lv1 := [(0, .long a), (2, .long b), (4, .long c)]) (st1 := [.int 0]) (hp1 := hp) 1 (fun _ _ _ _ => rfl) ?_
    exact px_q_iret (len := 1) (ty := .boolean) rfl rfl rfl
  | false =>
    have e1 : b.toInt ≤ a.toInt := r1.2 h1
    refine px_q_lif (bb := false) (len := 1) (c := .lt) (off := 14) rfl rfl h1 ?_
    refine px_Z_its (pc1 := 9) (lv1 := [(0, .long a), (2, .long b), (4, .long c)]) (st1 := [.long c, .long a]) (hp1 := hp) 2 (fun _ _ _ _ => rfl) ?_
    cases h2 : px_cmp .gt (lg_cmp a c) 0 with
    | true =>
      have e2 : c.toInt < a.toInt := r2.1 h2
      rw [if_neg (by omega)]
      refine px_q_lif (bb := true) (len := 1) (c := .gt) (off := 7) rfl rfl h2 ?_
      refine px_Z_its (pc1 := 18) (lv1 := [(0, .long a), (2, .long b), (4, .long c)]) (st1 := [.int 0]) (hp1 := hp) 1 (fun _ _ _ _ => rfl) ?_
      exact px_q_iret (len := 1) (ty := .boolean) rfl rfl rfl
    | false =>
      have e2 : a.toInt ≤ c.toInt := r2.2 h2
      rw [if_pos (by omega)]
      refine px_q_lif (bb := false) (len := 1) (c := .gt) (off := 7) rfl rfl h2 ?_
      refine px_Z_its (pc1 := 18) (lv1 := [(0, .long a), (2, .long b), (4, .long c)]) (st1 := [.int 1]) (hp1 := hp) 2 (fun _ _ _ _ => rfl) ?_
      exact px_q_iret (len := 1) (ty := .boolean) rfl rfl rfl
end mg_2

section mg_3
/-! drawing: the days of the drawings -/
def nm_R (hp : px_H) : Prop := (∃ z : Int32, ac_fv hp 1 8 = some (.int z) ∧ ac_fv hp 69 11 = some (.int z)) ∧ ∃ f g : Nat → Int32, hp[9]? = some (.inl (19, 6, .inl f)) ∧ hp[na_dayOf]? = some (.inl (nr_dayOf, 6, .inl g)) ∧ ∀ i : Nat, i < 6 → f i = g i ∧ 0 ≤ (f i).toInt
def nm_Rf (ws : List (Nat × Nat)) (wa : List Nat) : Bool := !(ac_has ws 1 8) && (!(ac_has ws 69 11) && (!(ac_in 9 wa) && !(ac_in na_dayOf wa)))
theorem nm_R_fr {ws : List (Nat × Nat)} {wa : List Nat} {hp hp' : px_H} (h : px_fr ws wa hp hp') (hw : nm_Rf ws wa = true) (hR : nm_R hp) : nm_R hp' := by
  simp only [nm_Rf, Bool.and_eq_true, Bool.not_eq_true'] at hw
  obtain ⟨⟨z, h1, h2⟩, f, g, h3, h4, h5⟩ := hR
  exact ⟨⟨z, ex_fv_fr h hw.1 h1, ex_fv_fr h hw.2.1 h2⟩, f, g, h.1 _ _ (ac_in_no hw.2.2.1) h3, h.1 _ _ (ac_in_no hw.2.2.2) h4, h5⟩
theorem nm_R_arr {hp : px_H} {x y : Nat × vp_A} (hx : hp[105]? = some (.inl x)) (hR : nm_R hp) : nm_R (hp.set 105 (.inl y)) := by
  obtain ⟨⟨z, h1, h2⟩, f, g, h3, h4, h5⟩ := hR
  exact ⟨⟨z, by rw [ac_fv_arr hx]; exact h1, by rw [ac_fv_arr hx]; exact h2⟩, f, g, by rw [List.getElem?_set_ne (by decide)]; exact h3, by rw [List.getElem?_set_ne (by decide)]; exact h4, h5⟩
set_option maxRecDepth 1000000 in
theorem nm_R0 : nm_R nm_H1 := ⟨⟨0, rfl, rfl⟩, _, _, rfl, rfl, fun i hi => ⟨rfl, by decide⟩⟩
/-- what two calls leave -/
def ex_twoR (X M : Nat) (cmp : Bool) (a a' : Nat) (t : List Value) (hp : px_H) : Prop :=
  ∃ (v v' : Int32) (hp1 hp2 : px_H), px_C nm_T nm_P X (.ref a :: t) hp (some (.int v)) hp1 ∧ ab_h nm_GH hp1 ∧ px_C nm_T nm_P M (.ref a' :: t) hp1 (some (.int v')) hp2 ∧ ab_h nm_GH hp2 ∧ (cmp = true → v = v') ∧ nm_R hp2
theorem dr_no : ∀ κ ∈ ([] : List ac_K), nm_ok κ := fun _ h => absurd h List.not_mem_nil
/-- the day of the last drawing -/
def dr_L (z : Int32) (f : Nat → Int32) : Int32 := if z.toInt ≤ 0 then 0 else f (z.toInt.toNat - 1)
theorem dr_ix {z : Int32} (h1 : 0 < z.toInt) (h6 : z.toInt ≤ 6) : (z - Int32.ofInt 1).toInt = z.toInt - 1 ∧ (z - Int32.ofInt 1).toNatClampNeg = z.toInt.toNat - 1 := by
  have e : (z - Int32.ofInt 1).toInt = z.toInt - 1 := by
    rw [Int32.toInt_sub, show (Int32.ofInt 1).toInt = 1 from by decide]
    apply Int.bmod_eq_of_le <;> omega
  refine ⟨e, ?_⟩
  unfold Int32.toNatClampNeg
  omega
theorem dr_last {hp : px_H} {z : Int32} {f : Nat → Int32} (hG : ab_h nm_GH hp) (h1 : ac_fv hp 1 8 = some (.int z)) (h3 : hp[9]? = some (.inl (19, 6, .inl f))) (h6 : z.toInt ≤ 6) : px_C nm_T nm_P mi_Town_lastDay [.ref 1] hp (some (.int (dr_L z f))) hp := by
  obtain ⟨fs1, hx1, -, -⟩ := ac_obj hG (c := 1) rfl
  have hz := dr_fvo hx1 h1
  refine px_C_of (N := mm_Town_lastDay) rfl (Nat.le_of_ble_eq_true rfl) ?_
  refine px_Z_its (pc1 := 1) (lv1 := [(0, .ref 1)]) (st1 := [.ref 1]) (hp1 := hp) 1 (fun _ _ _ _ => rfl) ?_
  refine px_q_get (len := 3) (ci := 6) (k := 8) (fs := fs1) (v := .int z) rfl rfl hx1 hz ?_
  have r := ab_cmp_rel .le z 0
  cases hc : px_cmp .le z 0 with
  | true =>
    have e : z.toInt ≤ 0 := r.1 hc
    refine px_q_if (bb := true) (len := 3) (c := .le) (off := 17) rfl hc ?_
    unfold dr_L
    rw [if_pos e]
    refine px_Z_its (pc1 := 22) (lv1 := [(0, .ref 1)]) (st1 := [.int 0]) (hp1 := hp) 1 (fun _ _ _ _ => rfl) ?_
    exact px_q_iret (len := 1) (ty := .int) rfl rfl rfl
  | false =>
    have e : 0 < z.toInt := r.2 hc
    obtain ⟨i1, i2⟩ := dr_ix e h6
    refine px_q_if (bb := false) (len := 3) (c := .le) (off := 17) rfl hc ?_
    unfold dr_L
    rw [if_neg (by omega)]
    refine px_Z_its (pc1 := 8) (lv1 := [(0, .ref 1)]) (st1 := [.ref 1]) (hp1 := hp) 1 (fun _ _ _ _ => rfl) ?_
    refine px_q_get (len := 3) (ci := 6) (k := 9) (fs := fs1) (v := .ref 9) rfl rfl hx1 (ac_refF hG (ci := 6) (k := 9) (c := 1) (d := 9) rfl hx1) ?_
    refine px_Z_its (pc1 := 12) (lv1 := [(0, .ref 1)]) (st1 := [.ref 1, .ref 9]) (hp1 := hp) 1 (fun _ _ _ _ => rfl) ?_
    refine px_q_get (len := 3) (ci := 6) (k := 8) (fs := fs1) (v := .int z) rfl rfl hx1 hz ?_
    refine px_Z_its (pc1 := 17) (lv1 := [(0, .ref 1)]) (st1 := [.int (z - Int32.ofInt 1), .ref 9]) (hp1 := hp) 2 (fun _ _ _ _ => rfl) ?_
    refine px_q_iald (len := 1) rfl h3 rfl (nm_ixR _ 6 (by omega) (by omega)) ?_
    rw [i2]
    refine px_Z_its (pc1 := 22) (lv1 := [(0, .ref 1)]) (st1 := [.int (f (z.toInt.toNat - 1))]) (hp1 := hp) 1 (fun _ _ _ _ => rfl) ?_
    exact px_q_iret (len := 1) (ty := .int) rfl rfl rfl
/-! calls that are refused for another reason than the day of the last -/
abbrev dr_lo : Int := -2147483648
abbrev dr_hi : Int := 2147483647
def dr_fs (c : Nat) (d1 d2 b1 b2 s1 s2 : Int) : List ab_F := [(2, 0, 0, [c]), (0, d1, d2, []), (0, b1, b2, []), (0, s1, s2, [])]
def dr_bad (d1 d2 b1 b2 s1 s2 : Int) : Bool := ex_rts (-1) (ex_run [] [] [] [] mi_X_drawing (dr_fs 0 d1 d2 b1 b2 s1 s2) []) && ex_rts (-1) (ex_run [] [] [(69, 0)] [] mi_M_drawing (dr_fs 69 d1 d2 b1 b2 s1 s2) [])
set_option maxRecDepth 1000000 in
theorem dr_bad_t : (dr_bad 1000 dr_hi dr_lo dr_hi dr_lo dr_hi && (dr_bad dr_lo dr_hi dr_lo (-1) dr_lo dr_hi && (dr_bad dr_lo dr_hi 2 dr_hi dr_lo dr_hi && (dr_bad dr_lo dr_hi dr_lo dr_hi dr_lo 0 && dr_bad dr_lo dr_hi dr_lo dr_hi 4 dr_hi)))) = true := by decide +kernel
set_option maxRecDepth 1000000 in
theorem dr_neg_t : ex_rts (-1) (ex_run [] [] [] [] mi_X_drawing (dr_fs 0 dr_lo (-1) dr_lo dr_hi dr_lo dr_hi) []) = true := by decide +kernel
set_option maxRecDepth 1000000 in
theorem dr_six_t : (ex_rts (-1) (ex_run [] [] [] [] mi_X_drawing (dr_fs 0 dr_lo dr_hi dr_lo dr_hi dr_lo dr_hi) [(1, 8, 0, 6, 6, [])]) && ex_rts (-1) (ex_run [] [] [(69, 0)] [] mi_M_drawing (dr_fs 69 dr_lo dr_hi dr_lo dr_hi dr_lo dr_hi) [(69, 11, 0, 6, 6, [])])) = true := by decide +kernel
theorem dr_av {c : Nat} {a1 a2 a3 : Int32} {d1 d2 b1 b2 s1 s2 : Int} (h1 : d1 ≤ a1.toInt) (h2 : a1.toInt ≤ d2) (h3 : b1 ≤ a2.toInt) (h4 : a2.toInt ≤ b2) (h5 : s1 ≤ a3.toInt) (h6 : a3.toInt ≤ s2) : ac_argv (dr_fs c d1 d2 b1 b2 s1 s2) [.ref c, .int a1, .int a2, .int a3] := ⟨⟨rfl, List.mem_cons_self⟩, ⟨rfl, h1, h2⟩, ⟨rfl, h3, h4⟩, ⟨rfl, h5, h6⟩, trivial⟩
/-- refused on both sides -/
theorem dr_two {hp : px_H} {a1 a2 a3 : Int32} (hG : ab_h nm_GH hp) (hR : nm_R hp) (hX : ∃ (v : Int32) (hp1 : px_H), px_C nm_T nm_P mi_X_drawing [.ref 0, .int a1, .int a2, .int a3] hp (some (.int v)) hp1 ∧ v.toInt = -1 ∧ ab_h nm_GH hp1 ∧ px_fr [] [] hp hp1) (hM : ∀ hq : px_H, ab_h nm_GH hq → nm_R hq → ac_fv hq 69 11 = ac_fv hp 69 11 → hq[na_dayOf]? = hp[na_dayOf]? → ∃ (v : Int32) (hp1 : px_H), px_C nm_T nm_P mi_M_drawing [.ref 69, .int a1, .int a2, .int a3] hq (some (.int v)) hp1 ∧ v.toInt = -1 ∧ ab_h nm_GH hp1 ∧ px_fr [(69, 0)] [] hq hp1) : ex_twoR mi_X_drawing mi_M_drawing true 0 69 [.int a1, .int a2, .int a3] hp := by
  obtain ⟨v, hp1, c1, v1, g1, f1⟩ := hX
  have hR1 := nm_R_fr f1 (by decide) hR
  have hR2 := hR
  obtain ⟨⟨z, h1, h2⟩, f, g, h3, h4, h5⟩ := hR2
  obtain ⟨v', hp2, c2, v2, g2, f2⟩ := hM hp1 g1 hR1 (by rw [h2]; exact ex_fv_fr f1 (by decide) h2) (by rw [h4]; exact f1.1 _ _ (by decide) h4)
  exact ⟨v, v', hp1, hp2, c1, g1, c2, g2, fun _ => by rw [← Int32.toInt_inj, v1, v2], nm_R_fr f2 (by decide) hR1⟩
theorem dr_bad_ok {d1 d2 b1 b2 s1 s2 : Int} (h : dr_bad d1 d2 b1 b2 s1 s2 = true) {hp : px_H} {a1 a2 a3 : Int32} (hG : ab_h nm_GH hp) (hR : nm_R hp) (h1 : d1 ≤ a1.toInt) (h2 : a1.toInt ≤ d2) (h3 : b1 ≤ a2.toInt) (h4 : a2.toInt ≤ b2) (h5 : s1 ≤ a3.toInt) (h6 : a3.toInt ≤ s2) : ex_twoR mi_X_drawing mi_M_drawing true 0 69 [.int a1, .int a2, .int a3] hp := by
  simp only [dr_bad, Bool.and_eq_true] at h
  refine dr_two hG hR ?_ (fun hq gq _ _ _ => ?_)
  · obtain ⟨v, hp1, q, m1, m2, m3, m4⟩ := ex_rts_ok dr_no h.1 hG (dr_av h1 h2 h3 h4 h5 h6) (fun q hq => (by cases hq))
    exact ⟨v, hp1, m1, m2, m3.2.1, m4⟩
  · obtain ⟨v, hp1, q, m1, m2, m3, m4⟩ := ex_rts_ok dr_no h.2 gq (dr_av h1 h2 h3 h4 h5 h6) (fun q hq => (by cases hq))
    exact ⟨v, hp1, m1, m2, m3.2.1, m4⟩
/-! the model, as far as it asks whether the day is in -/
def dr_lv : List (Nat × ab_V) := [(0, ((2, 0, 0, [69]), none)), (1, ((0, dr_lo, dr_hi, []), some (2, 1, 0))), (2, ((0, dr_lo, dr_hi, []), some (2, 2, 0))), (3, ((0, dr_lo, dr_hi, []), some (2, 3, 0)))]
def dr_B28 (z : Int) : ac_S := (dr_lv, [((0, z - 1, z - 1, []), none), ((2, 0, 0, [78]), none), ((1, dr_lo, dr_hi, []), some (2, 1, 0))], [(69, 11, 0, z, z, [])], [], [], [])
def dr_B33 : ac_S := (dr_lv, [((1, 999, 999, []), none), ((1, 0, 0, []), none), ((1, dr_lo, dr_hi, []), some (2, 1, 0))], [(69, 11, 0, 0, 0, [])], [], [], [])
def dr_en (z : Int) : Bool := match ex_runS [] [] [(69, 0)] [] mi_M_drawing mm_M_drawing kc_M_drawing_0.2.1 [(69, 11, 0, z, z, [])] [28, 33] with
  | some o => o.1.isEmpty && o.2.all (fun q => (decide (0 < z) && (Nat.beq q.1 28 && ac_le nm_GH none q.2 (dr_B28 z))) || (decide (z = 0) && (Nat.beq q.1 33 && ac_le nm_GH none q.2 dr_B33)))
  | none => false
set_option maxRecDepth 1000000 in
theorem dr_en_t : (List.range 7).all (fun z => dr_en (z : Nat)) = true := by decide +kernel
/-- at the place behind the question -/
theorem dr_M36 {hp : px_H} {a1 a2 a3 z : Int32} {g : Nat → Int32} (hG : ab_h nm_GH hp) (h2 : ac_fv hp 69 11 = some (.int z)) (h4 : hp[na_dayOf]? = some (.inl (nr_dayOf, 6, .inl g))) (z0 : 0 ≤ z.toInt) (z6 : z.toInt ≤ 6) : ∃ (lv : List (Nat × Value)) (hp1 : px_H), ab_h nm_GH hp1 ∧ px_fr [(69, 0)] [] hp hp1 ∧ ab_lv (ac_xs [.ref 69, .int a1, .int a2, .int a3]) hp1 dr_lv lv ∧
    ∀ (r : Option Value) (h9 : px_H), px_Z nm_T none nm_P mm_M_drawing 36 lv [.int (if (dr_L z g).toInt ≤ a1.toInt ∧ a1.toInt ≤ 999 then 1 else 0)] hp1 r h9 → px_C nm_T nm_P mi_M_drawing [.ref 69, .int a1, .int a2, .int a3] hp r h9 := by
  have t := List.all_eq_true.mp dr_en_t z.toInt.toNat (List.mem_range.mpr (by omega))
  have e1 : ((z.toInt.toNat : Nat) : Int) ≤ z.toInt := by omega
  have e2 : z.toInt ≤ ((z.toInt.toNat : Nat) : Int) := by omega
  unfold dr_en at t
  split at t
  rotate_left
  · cases t
  rename_i o ho
  simp only [Bool.and_eq_true, List.all_eq_true, List.isEmpty_iff, Bool.or_eq_true, decide_eq_true_eq] at t
  rcases ex_runS_ok dr_no rfl (Nat.le_of_ble_eq_true rfl) ho hG (av := [.ref 69, .int a1, .int a2, .int a3]) ⟨⟨rfl, List.mem_cons_self⟩, ⟨rfl, ab_i32 _⟩, ⟨rfl, ab_i32 _⟩, ⟨rfl, ab_i32 _⟩, trivial⟩ (ex_ov1 h2 e1 e2) with ⟨r, hp', q, m1, -⟩ | ⟨pc', lv, st, hp1, A', m1, m2, m3, m4⟩
  · rw [t.1] at m1
    cases m1
  have e33 : ∀ (d L : Int64) (c9 : Int64), d.toInt = a1.toInt → L.toInt = (dr_L z g).toInt → c9.toInt = 999 → px_C nm_T nm_P mi_M_in [.long d, .long L, .long c9] hp1 (some (.int (if (dr_L z g).toInt ≤ a1.toInt ∧ a1.toInt ≤ 999 then 1 else 0))) hp1 := by
    intro d L c9 w1 w2 w3
    have := dr_in d L c9 hp1
    rw [w1, w2, w3] at this
    exact this
  have num : ∀ {v : Value} {lo hi : Int}, ab_v (ac_xs [.ref 69, .int a1, .int a2, .int a3]) lv hp1 ((1, lo, hi, []), some (2, 1, 0)) v → ∃ d : Int64, v = .long d ∧ d.toInt = a1.toInt := by
    intro v lo hi hv
    obtain ⟨d, rfl, -⟩ := ab_f1 hv.1
    obtain ⟨w, w1, w2⟩ := hv.2 _ rfl
    cases w1
    simp only [ab_num, Option.some.injEq] at w2
    exact ⟨d, rfl, w2.symm⟩
  rcases t.2 _ m1 with ⟨zp, q1, q2⟩ | ⟨zp, q1, q2⟩
  · have q1 := Nat.eq_of_beq_eq_true q1
    simp only at q1
    subst q1
    obtain ⟨γ2, -, h9, -⟩ := ac_le_ok q2 m2
    obtain ⟨b1, b2, b3, b4, -⟩ := h9
    refine ⟨lv, hp1, b3, m3, b1, fun r h9 hz => ?_⟩
    match st, b2, m4 with
    | [w1, w2, w3], ⟨s1, s2, s3, _⟩, m4 =>
      obtain ⟨j, rfl, hj⟩ := ab_f0 s1.1
      obtain ⟨c1, rfl, ec⟩ := ab_f2 s2.1
      cases List.mem_singleton.mp ec
      obtain ⟨d, rfl, hd⟩ := num s3
      have j1 : ((z.toInt.toNat : Nat) : Int) - 1 ≤ j.toInt := hj.1
      have j2 : j.toInt ≤ ((z.toInt.toNat : Nat) : Int) - 1 := hj.2
      have hjn : j.toNatClampNeg = z.toInt.toNat - 1 := by unfold Int32.toNatClampNeg; omega
      have h4' : hp1[na_dayOf]? = some (.inl (nr_dayOf, 6, .inl g)) := m3.1 _ _ (by decide) h4
      refine m4 _ _ ?_
      refine px_q_iald (len := 1) rfl h4' rfl (nm_ixR j 6 (by omega) (by omega)) ?_
      rw [hjn]
      refine px_Z_its (pc1 := 33) (lv1 := lv) (st1 := [.long (Int64.ofInt 999), .long (g (z.toInt.toNat - 1)).toInt64, .long d]) (hp1 := hp1) 2 (fun _ _ _ _ => rfl) ?_
      refine px_q_stat (len := 3) (n := 3) (N := mm_M_in) (mi := mi_M_in) rfl rfl rfl (Nat.le_of_ble_eq_true rfl) (Nat.le_of_ble_eq_true rfl) rfl rfl (e33 d _ _ hd (by rw [Int32.toInt_toInt64]; unfold dr_L; rw [if_neg (by omega)]) (by decide)) ?_
      exact hz
  · have q1 := Nat.eq_of_beq_eq_true q1
    simp only at q1
    subst q1
    obtain ⟨γ2, -, h9, -⟩ := ac_le_ok q2 m2
    obtain ⟨b1, b2, b3, b4, -⟩ := h9
    refine ⟨lv, hp1, b3, m3, b1, fun r h9 hz => ?_⟩
    match st, b2, m4 with
    | [w1, w2, w3], ⟨s1, s2, s3, _⟩, m4 =>
      obtain ⟨x9, rfl, h9⟩ := ab_f1 s1.1
      obtain ⟨x0, rfl, h0⟩ := ab_f1 s2.1
      obtain ⟨d, rfl, hd⟩ := num s3
      have k1 : (999 : Int) ≤ x9.toInt := h9.1
      have k2 : x9.toInt ≤ (999 : Int) := h9.2
      have k3 : (0 : Int) ≤ x0.toInt := h0.1
      have k4 : x0.toInt ≤ (0 : Int) := h0.2
      refine m4 _ _ ?_
      refine px_q_stat (len := 3) (n := 3) (N := mm_M_in) (mi := mi_M_in) rfl rfl rfl (Nat.le_of_ble_eq_true rfl) (Nat.le_of_ble_eq_true rfl) rfl rfl (e33 d _ _ hd (by unfold dr_L; rw [if_pos (by omega)]; show x0.toInt = 0; omega) (by omega)) ?_
      exact hz
/-! the model refuses where the day is too early -/
def dr_A36 (t : Int) (ov : List ac_O) (gh : List (Int × Int)) : ac_S := (dr_lv, [((0, t, t, []), none)], ov, gh, [], [])
def dr_n36 : Bool := match ac_run nm_T nm_P nm_GH nm_FA [] [] [] [] 20000 false [] mi_M_drawing mm_M_drawing 36 (dr_A36 0 [] []) with
  | some (os, []) => os.all (ex_rt (-1))
  | _ => false
set_option maxRecDepth 1000000 in
theorem dr_n36_t : dr_n36 = true := by decide +kernel
theorem dr_Mno {hp : px_H} {a1 a2 a3 z : Int32} {g : Nat → Int32} (hG : ab_h nm_GH hp) (h2 : ac_fv hp 69 11 = some (.int z)) (h4 : hp[na_dayOf]? = some (.inl (nr_dayOf, 6, .inl g))) (z0 : 0 ≤ z.toInt) (z6 : z.toInt ≤ 6) (hd : a1.toInt < (dr_L z g).toInt) : ∃ (v : Int32) (hp1 : px_H), px_C nm_T nm_P mi_M_drawing [.ref 69, .int a1, .int a2, .int a3] hp (some (.int v)) hp1 ∧ v.toInt = -1 ∧ ab_h nm_GH hp1 ∧ px_fr [(69, 0)] [] hp hp1 := by
  obtain ⟨lv, hp1, g1, f1, b1, hz⟩ := dr_M36 (a1 := a1) (a2 := a2) (a3 := a3) hG h2 h4 z0 z6
  rw [if_neg (by omega)] at hz
  have t := dr_n36_t
  unfold dr_n36 at t
  split at t
  · rename_i os hos
    obtain ⟨r, hp', q, n1, n2, n3, n4⟩ := ex_goOn dr_no hos (xs := ac_xs [.ref 69, .int a1, .int a2, .int a3]) (γ := fun _ => 0) (lv := lv) (st := [.int 0]) (hp := hp1) ⟨b1, ⟨⟨⟨rfl, by decide, by decide⟩, ab_o_none _ _ _ _⟩, trivial⟩, g1, fun q hq => (by cases hq), fun j q hq => (by simp [dr_A36] at hq), fun i hi => (by cases hi), fun q hq => (by cases hq)⟩
    obtain ⟨v, rfl, hv⟩ := ex_rt_ok (List.all_eq_true.mp t q n1) n3
    exact ⟨v, hp', hz _ _ n2, hv, n3.2.1, px_fr_tr f1 (px_fr_mono n4 (fun q hq => (by cases hq)) (fun q hq => (by cases hq)))⟩
  · cases t
/-! a store of the first argument at a place of an array, and on by the interpreter -/
theorem dr_st {mi : Nat} {N : px_M} {pc c t n : Nat} {z lo hi : Int} {cF kF : Nat} {C D : ac_S} {ws : List (Nat × Nat)} {wa : List Nat} (hsplit : C = (D.1, [((0, lo, hi, []), some (2, 1, 0)), ((0, z, z, []), none), ((2, 0, 0, [c]), none)], D.2.2)) (hD1 : D.1.all (fun q => match q.2.2 with | none => true | some l => Nat.beq l.1 2) = true) (hD2 : D.2.1 = []) (hD4 : D.2.2.2.2.1 = [])
    (hgo : (match ac_run nm_T nm_P nm_GH nm_FA [] [] ws wa 20000 false [] mi N (pc + 1) D with
      | some (os, []) => os.all (ex_rz z cF kF (z + 1))
      | _ => false) = true) (hI : ex_isI cF kF = true) (hf : px_find pc (px_cd N) = some (1, .iastore)) (ht : nm_T.1[t]? = some .int) (hc : nm_GH[c]? = some (.inr (t, n, (0, (-2147483648), 2147483647, [])))) (hcw : c ∉ wa)
    {xs : Nat → Int32} {γ : Nat → Int} {lv : List (Nat × Value)} {st : List Value} {hp : px_H} {f : Nat → Int32} (hs : ac_s nm_GH nm_Φ xs γ C lv st hp) (hx : hp[c]? = some (.inl (t, n, .inl f))) (z0 : 0 ≤ z) (z9 : z < n) :
    ∃ (v w : Int32) (hp' : px_H), px_Z nm_T none nm_P N pc lv st hp (some (.int v)) hp' ∧ v.toInt = z ∧ ac_fv hp' cF kF = some (.int w) ∧ w.toInt = z + 1 ∧ ab_h nm_GH hp' ∧ px_fr ws wa (hp.set c (.inl (t, n, .inl (upd f z.toNat (xs 1))))) hp' ∧ hp'[c]? = some (.inl (t, n, .inl (upd f z.toNat (xs 1)))) := by
  subst hsplit
  obtain ⟨b1, b2, b3, b4, b5, b6, b7⟩ := hs
  match st, b2 with
  | [w1, w2, w3], ⟨s1, s2, s3, _⟩ =>
    obtain ⟨rfl, -, -⟩ := ex_org s1
    obtain ⟨j, rfl, hj⟩ := ab_f0 s2.1
    obtain ⟨c', rfl, e⟩ := ab_f2 s3.1
    cases List.mem_singleton.mp e
    have j1 : z ≤ j.toInt := hj.1
    have j2 : j.toInt ≤ z := hj.2
    have hjn : j.toNatClampNeg = z.toNat := by unfold Int32.toNatClampNeg; omega
    have hG2 : ab_h nm_GH (hp.set c (.inl (t, n, .inl (upd f z.toNat (xs 1))))) := ac_h_arr b3 hx hc ⟨rfl, rfl, fun j _ => ⟨rfl, ab_i32 _⟩⟩
    have hlv := ex_sG (hp.set c (.inl (t, n, .inl (upd f z.toNat (xs 1))))) hD1 b1
    have hov : ac_ov D.2.2.1 (hp.set c (.inl (t, n, .inl (upd f z.toNat (xs 1))))) := ex_ovA hx b4
    have hc9 : (hp.set c (.inl (t, n, .inl (upd f z.toNat (xs 1)))))[c]? = some (.inl (t, n, .inl (upd f z.toNat (xs 1)))) := List.getElem?_set_self (List.getElem?_eq_some_iff.mp hx).1
    split at hgo
    · rename_i os hos
      obtain ⟨r, hp', q, n1, n2, n3, n4⟩ := ex_goOn dr_no hos (xs := xs) (γ := γ) (lv := lv) (st := []) (hp := hp.set c (.inl (t, n, .inl (upd f z.toNat (xs 1))))) ⟨hlv, by rw [hD2]; trivial, hG2, hov, b5, by rw [hD4]; exact fun i hi => (by cases hi), b7⟩
      have hz := List.all_eq_true.mp hgo q n1
      simp only [ex_rz, Bool.and_eq_true] at hz
      obtain ⟨v, rfl, hv⟩ := ex_rt_ok hz.1 n3
      obtain ⟨v9, w, e9, w1, w2⟩ := ex_ze_ok hI hz.2 n3
      refine ⟨v, w, hp', ?_, hv, w1, w2, n3.2.1, n4, n4.1 _ _ hcw hc9⟩
      refine px_q_iast (len := 1) hf hx ht (nm_ixR j n (by omega) (by omega)) ?_
      rw [hjn]
      exact n2
    · cases hgo
/-! the class -/
def dr_lX : List (Nat × ab_V) := [(0, ((2, 0, 0, [0]), none)), (1, ((0, 0, 999, []), some (2, 1, 0))), (2, ((0, 0, 1, []), some (2, 2, 0))), (3, ((0, 1, 3, []), some (2, 3, 0)))]
def dr_B43 (z : Int) : ac_S := (dr_lX, [((2, 0, 0, [1]), none), ((0, 0, 999, []), some (2, 1, 0))], [(1, 8, 0, z, z, [])], [], [], [])
def dr_ex (z : Int) : Bool := match ex_runS [] [] [] [] mi_X_drawing mm_X_drawing (dr_fs 0 0 999 0 1 1 3) [(1, 8, 0, z, z, [])] [43] with
  | some o => o.1.isEmpty && o.2.all (fun q => Nat.beq q.1 43 && ac_le nm_GH none q.2 (dr_B43 z))
  | none => false
set_option maxRecDepth 1000000 in
theorem dr_ex_t : (List.range 6).all (fun z => dr_ex (z : Nat)) = true := by decide +kernel
theorem dr_X46 {hp : px_H} {a1 a2 a3 z : Int32} {f : Nat → Int32} (hG : ab_h nm_GH hp) (h1 : ac_fv hp 1 8 = some (.int z)) (h3 : hp[9]? = some (.inl (19, 6, .inl f))) (z0 : 0 ≤ z.toInt) (z5 : z.toInt ≤ 5) (d0 : 0 ≤ a1.toInt) (d9 : a1.toInt ≤ 999) (p0 : 0 ≤ a2.toInt) (p1 : a2.toInt ≤ 1) (s1 : 1 ≤ a3.toInt) (s3 : a3.toInt ≤ 3) : ∃ (lv : List (Nat × Value)) (hp1 : px_H), ab_h nm_GH hp1 ∧ px_fr [] [] hp hp1 ∧ ab_lv (ac_xs [.ref 0, .int a1, .int a2, .int a3]) hp1 dr_lX lv ∧
    ∀ (r : Option Value) (h9 : px_H), px_Z nm_T none nm_P mm_X_drawing 46 lv [.int (dr_L z f), .int a1] hp1 r h9 → px_C nm_T nm_P mi_X_drawing [.ref 0, .int a1, .int a2, .int a3] hp r h9 := by
  have t := List.all_eq_true.mp dr_ex_t z.toInt.toNat (List.mem_range.mpr (by omega))
  have e1 : ((z.toInt.toNat : Nat) : Int) ≤ z.toInt := by omega
  have e2 : z.toInt ≤ ((z.toInt.toNat : Nat) : Int) := by omega
  unfold dr_ex at t
  split at t
  rotate_left
  · cases t
  rename_i o ho
  simp only [Bool.and_eq_true, List.all_eq_true, List.isEmpty_iff] at t
  rcases ex_runS_ok dr_no rfl (Nat.le_of_ble_eq_true rfl) ho hG (dr_av d0 d9 p0 p1 s1 s3) (ex_ov1 h1 e1 e2) with ⟨r, hp', q, m1, -⟩ | ⟨pc', lv, st, hp1, A', m1, m2, m3, m4⟩
  · rw [t.1] at m1
    cases m1
  obtain ⟨q1, q2⟩ := t.2 _ m1
  have q1 := Nat.eq_of_beq_eq_true q1
  simp only at q1
  subst q1
  obtain ⟨γ2, -, h9, -⟩ := ac_le_ok q2 m2
  obtain ⟨b1, b2, b3, b4, -⟩ := h9
  refine ⟨lv, hp1, b3, m3, b1, fun r h9 hz => ?_⟩
  match st, b2, m4 with
  | [w1, w2], ⟨t1, t2, _⟩, m4 =>
    obtain ⟨c1, rfl, ec⟩ := ab_f2 t1.1
    cases List.mem_singleton.mp ec
    obtain ⟨rfl, -, -⟩ := ex_org t2
    obtain ⟨fs1, hx1, -, -⟩ := ac_obj b3 (c := 1) rfl
    refine m4 _ _ ?_
    exact px_q_virt (len := 3) (n := 0) (a := 1) (N := mm_Town_lastDay) (mi := mi_Town_lastDay) (ci := 6) rfl rfl rfl hx1 rfl (Nat.le_of_ble_eq_true rfl) (Nat.le_of_ble_eq_true rfl) rfl rfl (dr_last b3 (ex_fv_fr m3 (by decide) h1) (m3.1 _ _ (by decide) h3) (by omega)) hz
theorem dr_Xno {hp : px_H} {a1 a2 a3 z : Int32} {f : Nat → Int32} (hG : ab_h nm_GH hp) (h1 : ac_fv hp 1 8 = some (.int z)) (h3 : hp[9]? = some (.inl (19, 6, .inl f))) (z0 : 0 ≤ z.toInt) (z5 : z.toInt ≤ 5) (d0 : 0 ≤ a1.toInt) (d9 : a1.toInt ≤ 999) (p0 : 0 ≤ a2.toInt) (p1 : a2.toInt ≤ 1) (s1 : 1 ≤ a3.toInt) (s3 : a3.toInt ≤ 3) (hd : a1.toInt < (dr_L z f).toInt) : ∃ (v : Int32) (hp1 : px_H), px_C nm_T nm_P mi_X_drawing [.ref 0, .int a1, .int a2, .int a3] hp (some (.int v)) hp1 ∧ v.toInt = -1 ∧ ab_h nm_GH hp1 ∧ px_fr [] [] hp hp1 := by
  obtain ⟨lv, hp1, g1, f1, -, hz⟩ := dr_X46 hG h1 h3 z0 z5 d0 d9 p0 p1 s1 s3
  refine ⟨Int32.ofInt (-1), hp1, hz _ _ ?_, by decide, g1, f1⟩
  have r := ab_cmp_rel .ge a1 (dr_L z f)
  cases hc : px_cmp .ge a1 (dr_L z f) with
  | true => have : (dr_L z f).toInt ≤ a1.toInt := r.1 hc; omega
  | false =>
    refine px_q_icmp (bb := false) (len := 3) (c := .ge) (off := 5) rfl hc ?_
    refine px_Z_its (pc1 := 50) (lv1 := lv) (st1 := [.int (Int32.ofInt (-1))]) (hp1 := hp1) 1 (fun _ _ _ _ => rfl) ?_
    exact px_q_iret (len := 1) (ty := .int) rfl rfl rfl
def dr_D14 (z : Int) : ac_S := ([(0, ((2, 0, 0, [1]), none)), (2, ((0, 0, 1, []), none)), (3, ((0, 1, 3, []), none)), (4, ((0, z, z, []), none))], [], [(1, 8, 0, z, z, [])], [], [], [])
def dr_C13 (z : Int) : ac_S := ((dr_D14 z).1, [((0, 0, 999, []), some (2, 1, 0)), ((0, z, z, []), none), ((2, 0, 0, [9]), none)], (dr_D14 z).2.2)
def dr_e13 (z : Int) : Bool := match ex_runS [] [] [] [] mi_Town_addDrawing mm_Town_addDrawing (dr_fs 1 0 999 0 1 1 3) [(1, 8, 0, z, z, [])] [13] with
  | some o => o.1.isEmpty && o.2.all (fun q => Nat.beq q.1 13 && ac_le nm_GH none q.2 (dr_C13 z))
  | none => false
def dr_g14 (z : Int) : Bool := match ac_run nm_T nm_P nm_GH nm_FA [] [] [(1, 8)] [10, 11] 20000 false [] mi_Town_addDrawing mm_Town_addDrawing 14 (dr_D14 z) with
  | some (os, []) => os.all (ex_rz z 1 8 (z + 1))
  | _ => false
set_option maxRecDepth 1000000 in
theorem dr_13_t : (List.range 6).all (fun z => dr_e13 (z : Nat) && dr_g14 (z : Nat)) = true := by decide +kernel
theorem dr_Xok {hp : px_H} {a1 a2 a3 z : Int32} {f : Nat → Int32} (hG : ab_h nm_GH hp) (h1 : ac_fv hp 1 8 = some (.int z)) (h3 : hp[9]? = some (.inl (19, 6, .inl f))) (z0 : 0 ≤ z.toInt) (z5 : z.toInt ≤ 5) (d0 : 0 ≤ a1.toInt) (d9 : a1.toInt ≤ 999) (p0 : 0 ≤ a2.toInt) (p1 : a2.toInt ≤ 1) (s1 : 1 ≤ a3.toInt) (s3 : a3.toInt ≤ 3) (hd : (dr_L z f).toInt ≤ a1.toInt) : ∃ (v w : Int32) (hp1 : px_H), px_C nm_T nm_P mi_X_drawing [.ref 0, .int a1, .int a2, .int a3] hp (some (.int v)) hp1 ∧ v.toInt = z.toInt ∧ ab_h nm_GH hp1 ∧ ac_fv hp1 1 8 = some (.int w) ∧ w.toInt = z.toInt + 1 ∧ hp1[9]? = some (.inl (19, 6, .inl (upd f z.toInt.toNat a1))) ∧ px_fr [(1, 8)] [9, 10, 11] hp hp1 := by
  obtain ⟨lv, hp1, g1, f1, b1, hz⟩ := dr_X46 hG h1 h3 z0 z5 d0 d9 p0 p1 s1 s3
  have e1 : ((z.toInt.toNat : Nat) : Int) ≤ z.toInt := by omega
  have e2 : z.toInt ≤ ((z.toInt.toNat : Nat) : Int) := by omega
  have t := List.all_eq_true.mp dr_13_t z.toInt.toNat (List.mem_range.mpr (by omega))
  simp only [Bool.and_eq_true] at t
  obtain ⟨t1, t2⟩ := t
  unfold dr_e13 at t1
  split at t1
  rotate_left
  · cases t1
  rename_i o ho
  simp only [Bool.and_eq_true, List.all_eq_true, List.isEmpty_iff] at t1
  rcases ex_runS_ok dr_no rfl (Nat.le_of_ble_eq_true rfl) ho g1 (av := [.ref 1, .int a1, .int a2, .int a3]) (dr_av d0 d9 p0 p1 s1 s3) (ex_ov1 (ex_fv_fr f1 (by decide) h1) e1 e2) with ⟨r, hp', q, m1, -⟩ | ⟨pc', lv', st', hp3, A', m1, m2, m3, m4⟩
  · rw [t1.1] at m1
    cases m1
  obtain ⟨q1, q2⟩ := t1.2 _ m1
  have q1 := Nat.eq_of_beq_eq_true q1
  simp only at q1
  subst q1
  obtain ⟨γ2, -, h9, -⟩ := ac_le_ok q2 m2
  have h3' : hp3[9]? = some (.inl (19, 6, .inl f)) := m3.1 _ _ (by decide) (f1.1 _ _ (by decide) h3)
  obtain ⟨v, w, hp4, y1, y2, y3, y4, y5, y6, y7⟩ := dr_st (mi := mi_Town_addDrawing) (N := mm_Town_addDrawing) (pc := 13) (c := 9) (t := 19) (n := 6) (z := ((z.toInt.toNat : Nat) : Int)) (lo := 0) (hi := 999) (cF := 1) (kF := 8) (C := dr_C13 ((z.toInt.toNat : Nat) : Int)) (D := dr_D14 ((z.toInt.toNat : Nat) : Int)) (ws := [(1, 8)]) (wa := [10, 11]) rfl rfl rfl rfl (by unfold dr_g14 at t2; exact t2) (by decide +kernel) rfl rfl rfl (by decide) h9 h3' (by omega) (by omega)
  obtain ⟨fs0, hx0, -, -⟩ := ac_obj g1 (c := 0) rfl
  obtain ⟨fs1, hx1, -, -⟩ := ac_obj g1 (c := 1) rfl
  obtain ⟨u0, l0, o0⟩ := b1 0 _ (List.mem_cons_self)
  obtain ⟨u1, l1, o1⟩ := b1 1 _ (List.mem_cons_of_mem _ List.mem_cons_self)
  obtain ⟨u2, l2, o2⟩ := b1 2 _ (List.mem_cons_of_mem _ (List.mem_cons_of_mem _ List.mem_cons_self))
  obtain ⟨u3, l3, o3⟩ := b1 3 _ (List.mem_cons_of_mem _ (List.mem_cons_of_mem _ (List.mem_cons_of_mem _ List.mem_cons_self)))
  obtain ⟨c0, rfl, e0⟩ := ab_f2 o0.1
  cases List.mem_singleton.mp e0
  obtain ⟨rfl, -, -⟩ := ex_org o1
  obtain ⟨rfl, -, -⟩ := ex_org o2
  obtain ⟨rfl, -, -⟩ := ex_org o3
  have x1 : ac_xs [.ref 1, .int a1, .int a2, .int a3] 1 = a1 := rfl
  rw [x1] at y6 y7
  refine ⟨v, w, hp4, hz _ _ ?_, by omega, y5, y3, by omega, y7, ?_⟩
  · have r := ab_cmp_rel .ge a1 (dr_L z f)
    cases hc : px_cmp .ge a1 (dr_L z f) with
    | false => have : a1.toInt < (dr_L z f).toInt := r.2 hc; omega
    | true =>
      refine px_q_icmp (bb := true) (len := 3) (c := .ge) (off := 5) rfl hc ?_
      refine px_q_aln (pc := 51) (len := 1) (j := 0) rfl l0 ?_
      refine px_q_get (len := 3) (ci := 8) (k := 0) (fs := fs0) (v := .ref 1) rfl rfl hx0 (ac_refF g1 (ci := 8) (k := 0) (c := 0) (d := 1) rfl hx0) ?_
      refine px_q_iln (len := 1) (j := 1) rfl l1 ?_
      refine px_q_iln (len := 1) (j := 2) rfl l2 ?_
      refine px_q_iln (len := 1) (j := 3) rfl l3 ?_
      refine px_q_virt (len := 3) (n := 3) (a := 1) (N := mm_Town_addDrawing) (mi := mi_Town_addDrawing) (ci := 6) rfl rfl rfl hx1 rfl (Nat.le_of_ble_eq_true rfl) (Nat.le_of_ble_eq_true rfl) rfl rfl (m4 _ _ y1) ?_
      exact px_q_iret (len := 1) (ty := .int) rfl rfl rfl
  · refine px_fr_tr (px_fr_mono f1 (fun q hq => (by cases hq)) (fun q hq => (by cases hq))) (px_fr_tr (px_fr_mono m3 (fun q hq => (by cases hq)) (fun q hq => (by cases hq))) (px_fr_tr (px_fr_arr h3' (by decide)) (px_fr_mono y6 (by decide) (by decide))))
/-! the model takes it -/
def dr_gh : List (Int × Int) := [(dr_lo, dr_hi), (dr_lo, dr_hi), (0, 1), (1, 3)]
def dr_D91 (z : Int) : ac_S := ([(0, ((2, 0, 0, [69]), none)), (2, ((0, dr_lo, dr_hi, []), some (2, 2, 0))), (3, ((0, dr_lo, dr_hi, []), some (2, 3, 0)))], [], [(69, 11, 0, z, z, [])], dr_gh, [], [])
def dr_C90 (z : Int) : ac_S := ((dr_D91 z).1, [((0, dr_lo, dr_hi, []), some (2, 1, 0)), ((0, z, z, []), none), ((2, 0, 0, [78]), none)], (dr_D91 z).2.2)
def dr_e36 (z : Int) : Bool := match ac_run nm_T nm_P nm_GH nm_FA [] [] [] [] 20000 false [90] mi_M_drawing mm_M_drawing 36 (dr_A36 1 [(69, 11, 0, z, z, [])] dr_gh) with
  | some o => o.1.isEmpty && o.2.all (fun q => Nat.beq q.1 90 && ac_le nm_GH none q.2 (dr_C90 z))
  | none => false
def dr_g91 (z : Int) : Bool := match ac_run nm_T nm_P nm_GH nm_FA [] [] [(69, 11)] [79, 80] 20000 false [] mi_M_drawing mm_M_drawing 91 (dr_D91 z) with
  | some (os, []) => os.all (ex_rz z 69 11 (z + 1))
  | _ => false
set_option maxRecDepth 1000000 in
theorem dr_36_t : (List.range 6).all (fun z => dr_e36 (z : Nat) && dr_g91 (z : Nat)) = true := by decide +kernel
theorem dr_Mok {hp : px_H} {a1 a2 a3 z : Int32} {g : Nat → Int32} (hG : ab_h nm_GH hp) (h2 : ac_fv hp 69 11 = some (.int z)) (h4 : hp[na_dayOf]? = some (.inl (nr_dayOf, 6, .inl g))) (z0 : 0 ≤ z.toInt) (z5 : z.toInt ≤ 5) (d9 : a1.toInt ≤ 999) (p0 : 0 ≤ a2.toInt) (p1 : a2.toInt ≤ 1) (s1 : 1 ≤ a3.toInt) (s3 : a3.toInt ≤ 3) (hd : (dr_L z g).toInt ≤ a1.toInt) : ∃ (v w : Int32) (hp1 : px_H), px_C nm_T nm_P mi_M_drawing [.ref 69, .int a1, .int a2, .int a3] hp (some (.int v)) hp1 ∧ v.toInt = z.toInt ∧ ab_h nm_GH hp1 ∧ ac_fv hp1 69 11 = some (.int w) ∧ w.toInt = z.toInt + 1 ∧ hp1[na_dayOf]? = some (.inl (nr_dayOf, 6, .inl (upd g z.toInt.toNat a1))) ∧ px_fr [(69, 0), (69, 11)] [78, 79, 80] hp hp1 := by
  obtain ⟨lv, hp1, g1, f1, b1, hz⟩ := dr_M36 (a1 := a1) (a2 := a2) (a3 := a3) hG h2 h4 z0 (by omega)
  rw [if_pos (by omega)] at hz
  have e1 : ((z.toInt.toNat : Nat) : Int) ≤ z.toInt := by omega
  have e2 : z.toInt ≤ ((z.toInt.toNat : Nat) : Int) := by omega
  have t := List.all_eq_true.mp dr_36_t z.toInt.toNat (List.mem_range.mpr (by omega))
  simp only [Bool.and_eq_true] at t
  obtain ⟨t1, t2⟩ := t
  unfold dr_e36 at t1
  split at t1
  rotate_left
  · cases t1
  rename_i o ho
  simp only [Bool.and_eq_true, List.all_eq_true, List.isEmpty_iff] at t1
  have hgh : ab_x dr_gh (ac_xs [.ref 69, .int a1, .int a2, .int a3]) := by
    intro j q hq
    match j, hq with
    | 0, hq => cases hq; exact ab_i32 _
    | 1, hq => cases hq; exact ab_i32 _
    | 2, hq => cases hq; exact ⟨p0, p1⟩
    | 3, hq => cases hq; exact ⟨s1, s3⟩
    | j + 4, hq => simp [dr_gh] at hq
  rcases ex_goS dr_no ho (xs := ac_xs [.ref 69, .int a1, .int a2, .int a3]) (γ := fun _ => 0) (lv := lv) (st := [.int 1]) (hp := hp1) ⟨b1, ⟨⟨⟨rfl, by decide, by decide⟩, ab_o_none _ _ _ _⟩, trivial⟩, g1, ex_ov1 (ex_fv_fr f1 (by decide) h2) e1 e2, hgh, fun i hi => (by cases hi), fun q hq => (by cases hq)⟩ with ⟨r, hp', q, m1, -⟩ | ⟨pc', lv', st', hp3, A', m1, m2, m3, m4⟩
  · rw [t1.1] at m1
    cases m1
  obtain ⟨q1, q2⟩ := t1.2 _ m1
  have q1 := Nat.eq_of_beq_eq_true q1
  simp only at q1
  subst q1
  obtain ⟨γ2, -, h9, -⟩ := ac_le_ok q2 m2
  have h4' : hp3[na_dayOf]? = some (.inl (nr_dayOf, 6, .inl g)) := m3.1 _ _ (by decide) (f1.1 _ _ (by decide) h4)
  obtain ⟨v, w, hp4, y1, y2, y3, y4, y5, y6, y7⟩ := dr_st (mi := mi_M_drawing) (N := mm_M_drawing) (pc := 90) (c := 78) (t := nr_dayOf) (n := 6) (z := ((z.toInt.toNat : Nat) : Int)) (lo := dr_lo) (hi := dr_hi) (cF := 69) (kF := 11) (C := dr_C90 ((z.toInt.toNat : Nat) : Int)) (D := dr_D91 ((z.toInt.toNat : Nat) : Int)) (ws := [(69, 11)]) (wa := [79, 80]) rfl rfl rfl rfl (by unfold dr_g91 at t2; exact t2) (by decide +kernel) rfl rfl rfl (by decide) h9 h4' (by omega) (by omega)
  have x1 : ac_xs [.ref 69, .int a1, .int a2, .int a3] 1 = a1 := rfl
  rw [x1] at y6 y7
  refine ⟨v, w, hp4, hz _ _ (m4 _ _ y1), by omega, y5, y3, by omega, y7, ?_⟩
  exact px_fr_tr (px_fr_mono f1 (by decide) (fun q hq => (by cases hq))) (px_fr_tr (px_fr_mono m3 (fun q hq => (by cases hq)) (fun q hq => (by cases hq))) (px_fr_tr (px_fr_arr h4' (by decide)) (px_fr_mono y6 (by decide) (by decide))))
theorem ex_drawing {hp : px_H} {a1 a2 a3 : Int32} (hG : ab_h nm_GH hp) (hR : nm_R hp) : ex_twoR mi_X_drawing mi_M_drawing true 0 69 [.int a1, .int a2, .int a3] hp := by
  have hR0 := hR
  obtain ⟨⟨z, h1, h2⟩, f, g, h3, h4, h5⟩ := hR
  obtain ⟨w9, w1, w2, w3⟩ := ex_fv (c := 1) (k := 8) (by decide +kernel) hG
  rw [h1] at w1
  cases w1
  have z0 : 0 ≤ z.toInt := w2
  have z6 : z.toInt ≤ 6 := w3
  have T := dr_bad_t
  simp only [Bool.and_eq_true] at T
  obtain ⟨T1, T2, T3, T4, T5⟩ := T
  have i1 := ab_i32 a1
  have i2 := ab_i32 a2
  have i3 := ab_i32 a3
  have hLf : ∀ (y : Int32), y.toInt ≤ 6 → 0 ≤ (dr_L y f).toInt ∧ dr_L y f = dr_L y g := by
    intro y hy
    unfold dr_L
    split
    · exact ⟨by decide, rfl⟩
    · have := h5 (y.toInt.toNat - 1) (by omega)
      exact ⟨this.2, this.1⟩
  obtain ⟨L0, Leq⟩ := hLf z z6
  by_cases c1 : 999 < a1.toInt
  · exact dr_bad_ok T1 hG hR0 (by omega) i1.2 i2.1 i2.2 i3.1 i3.2
  by_cases c2 : a2.toInt < 0
  · exact dr_bad_ok T2 hG hR0 i1.1 i1.2 i2.1 (by omega) i3.1 i3.2
  by_cases c3 : 1 < a2.toInt
  · exact dr_bad_ok T3 hG hR0 i1.1 i1.2 (by omega) i2.2 i3.1 i3.2
  by_cases c4 : a3.toInt < 1
  · exact dr_bad_ok T4 hG hR0 i1.1 i1.2 i2.1 i2.2 i3.1 (by omega)
  by_cases c5 : 3 < a3.toInt
  · exact dr_bad_ok T5 hG hR0 i1.1 i1.2 i2.1 i2.2 (by omega) i3.2
  by_cases c6 : z.toInt = 6
  · have S := dr_six_t
    simp only [Bool.and_eq_true] at S
    refine dr_two hG hR0 ?_ (fun hq gq _ e9 _ => ?_)
    · obtain ⟨v, hp1, q, m1, m2, m3, m4⟩ := ex_rts_ok dr_no S.1 hG (dr_av i1.1 i1.2 i2.1 i2.2 i3.1 i3.2) (ex_ov1 h1 (by omega) (by omega))
      exact ⟨v, hp1, m1, m2, m3.2.1, m4⟩
    · obtain ⟨v, hp1, q, m1, m2, m3, m4⟩ := ex_rts_ok dr_no S.2 gq (dr_av i1.1 i1.2 i2.1 i2.2 i3.1 i3.2) (ex_ov1 (z := z) (by rw [e9]; exact h2) (by omega) (by omega))
      exact ⟨v, hp1, m1, m2, m3.2.1, m4⟩
  by_cases c7 : a1.toInt < (dr_L z g).toInt
  · refine dr_two hG hR0 ?_ (fun hq gq _ e9 e8 => dr_Mno gq (by rw [e9]; exact h2) (by rw [e8]; exact h4) z0 z6 c7)
    by_cases c8 : a1.toInt < 0
    · obtain ⟨v, hp1, q, m1, m2, m3, m4⟩ := ex_rts_ok dr_no dr_neg_t hG (dr_av i1.1 (show a1.toInt ≤ -1 by omega) i2.1 i2.2 i3.1 i3.2) (fun q hq => (by cases hq))
      exact ⟨v, hp1, m1, m2, m3.2.1, m4⟩
    · exact dr_Xno hG h1 h3 z0 (by omega) (by omega) (by omega) (by omega) (by omega) (by omega) (by omega) (by rw [Leq]; exact c7)
  · obtain ⟨v, w, hp1, x1, x2, x3, x4, x5, x6, x7⟩ := dr_Xok (a2 := a2) (a3 := a3) hG h1 h3 z0 (by omega) (show 0 ≤ a1.toInt by rw [Leq] at L0; omega) (by omega) (by omega) (by omega) (by omega) (by omega) (by rw [Leq]; omega)
    obtain ⟨v', w', hp2, y1, y2, y3, y4, y5, y6, y7⟩ := dr_Mok (a1 := a1) (a2 := a2) (a3 := a3) (z := z) (g := g) x3 (ex_fv_fr x7 (by decide) h2) (x7.1 _ _ (by decide) h4) z0 (by omega) (by omega) (by omega) (by omega) (by omega) (by omega) (by omega)
    have hw : w = w' := by rw [← Int32.toInt_inj, x5, y5]
    subst hw
    refine ⟨v, v', hp1, hp2, x1, x3, y1, y3, fun _ => by rw [← Int32.toInt_inj, x2, y2], ⟨w, ex_fv_fr y7 (by decide) x4, y4⟩, _, _, y7.1 _ _ (by decide) x6, y6, fun i hi => ?_⟩
    simp only [upd]
    split
    · exact ⟨rfl, by rw [Leq] at L0; omega⟩
    · exact h5 i hi
end mg_3
