section mg_0
/-! going on by the interpreter from a place in the middle; boolean arrays -/
section px_q9
variable {T : px_T} {X : Option (Nat × (Nat → Int32))} {P : List px_M} {M : px_M}
variable {pc len : Nat} {lv : List (Nat × Value)} {st : List Value} {hp hp' : px_H} {r : Option Value}
theorem px_q_bald {a t n : Nat} {f : Nat → Int32} {j : Int32} (hf : px_find pc (px_cd M) = some (len, .baload)) (hx : hp[a]? = some (.inl (t, n, .inl f))) (ht : T.1[t]? = some .boolean) (hj : px_inR j n = true)
    (hR : px_Z T X P M (pc + len) lv (.int (f j.toNatClampNeg) :: st) hp r hp') : px_Z T X P M pc lv (.int j :: .ref a :: st) hp r hp' :=
  px_Z_its 1 (fun call N0 nc ns => by simp only [px_its, px_step, hf, px_alu, px_ald, hx, ht, hj, Option.map_some]) hR
theorem px_q_bast {a t n : Nat} {f : Nat → Int32} {j x : Int32} (hf : px_find pc (px_cd M) = some (len, .bastore)) (hx : hp[a]? = some (.inl (t, n, .inl f))) (ht : T.1[t]? = some .boolean) (hj : px_inR j n = true) (h01 : (decide (x = 0) || decide (x = 1)) = true)
    (hR : px_Z T X P M (pc + len) lv st (hp.set a (.inl (t, n, .inl (upd f j.toNatClampNeg x)))) r hp') : px_Z T X P M pc lv (.int x :: .int j :: .ref a :: st) hp r hp' :=
  px_Z_its 1 (fun call N0 nc ns => by simp only [px_its, px_step, hf, px_alu, px_ast, hx, ht, hj, h01, Option.map_some]) hR
end px_q9
theorem ex_goOn {K : List ac_K} {lps : List ac_L} {ws : List (Nat × Nat)} {wa : List Nat} {mi pc : Nat} {N : px_M} {A : ac_S} {o : List ac_Out} (hK : ∀ κ ∈ K, nm_ok κ) (h : ac_run nm_T nm_P nm_GH nm_FA K lps ws wa 20000 false [] mi N pc A = some (o, [])) {xs : Nat → Int32} {γ : Nat → Int} {lv : List (Nat × Value)} {st : List Value} {hp : px_H} (hA : ac_s nm_GH nm_Φ xs γ A lv st hp) :
    ∃ (r : Option Value) (hp' : px_H) (q : ac_Out), q ∈ o ∧ px_Z nm_T none nm_P N pc lv st hp r hp' ∧ ac_o' nm_GH nm_Φ xs q r hp' ∧ px_fr ws wa hp hp' := by
  rcases ac_run_ok (xs := xs) nm_Fl nm_FG hK 20000 false [] mi N pc A _ none γ lv st hp h hA with ⟨r, hp', oc, m1, m2, m3, hr⟩ | ⟨pc', lv', st', hp', A', m1, -⟩
  · exact ⟨r, hp', oc, m1, hr, m2, m3⟩
  · cases m1
/-- an end that answers just this -/
def ex_rt (t : Int) (o : ac_Out) : Bool := match ex_one (o.1.map (fun a => a.1)) with
  | some a => decide (a = t)
  | none => false
theorem ex_rt_ok {t : Int} {xs : Nat → Int32} {o : ac_Out} {r : Option Value} {hp : px_H} (h : ex_rt t o = true) (ho : ac_o' nm_GH nm_Φ xs o r hp) : ∃ v : Int32, r = some (.int v) ∧ v.toInt = t := by
  have g := ho.1
  unfold ex_rt at h
  split at h
  · rename_i a ha
    have := of_decide_eq_true h
    subst this
    cases h1 : o.1 with
    | none => rw [h1] at ha; cases ha
    | some b =>
      rw [h1] at ha g
      cases r with
      | none => exact absurd g (by simp)
      | some v =>
        obtain ⟨x, rfl, e2⟩ := ex_one_ok ha g.1
        exact ⟨x, rfl, e2⟩
  · cases h
def ex_rts (t : Int) (os : Option (List ac_Out)) : Bool := match os with
  | some os => os.all (ex_rt t)
  | none => false
theorem ex_rts_ok {K : List ac_K} {lps : List ac_L} {ws : List (Nat × Nat)} {wa : List Nat} {mi : Nat} {fs : List ab_F} {ov : List ac_O} {t : Int} (hK : ∀ κ ∈ K, nm_ok κ) (h : ex_rts t (ex_run K lps ws wa mi fs ov) = true) {av : List Value} {hp : px_H} (hG : ab_h nm_GH hp) (hav : ac_argv fs av) (hov : ac_ov ov hp) :
    ∃ (v : Int32) (hp' : px_H) (o : ac_Out), px_C nm_T nm_P mi av hp (some (.int v)) hp' ∧ v.toInt = t ∧ ac_o' nm_GH nm_Φ (ac_xs av) o (some (.int v)) hp' ∧ px_fr ws wa hp hp' := by
  unfold ex_rts at h
  split at h
  · rename_i os ho
    obtain ⟨r, hp', o, m1, m2, m3, m4⟩ := ex_run_ok hK ho hG hav hov
    obtain ⟨v, rfl, hv⟩ := ex_rt_ok (List.all_eq_true.mp h o m1) m3
    exact ⟨v, hp', o, m2, hv, m3, m4⟩
  · cases h
end mg_0

section mg_1
/-! two calls that end alike, or come alike to a place from where one goes on by hand -/
def ex_ps (t : Int) (SX SM : Nat) (BX BM : ac_S) (oX oM : Option (List ac_Out × List (Nat × ac_S))) : Bool := match oX, oM with
  | some x, some m => x.1.all (fun o => ex_rt t o && m.2.all (fun q => ex_djX o.2.2.1 q.2.2.2.2.1)) && (m.1.all (fun o => ex_rt t o && x.2.all (fun q => ex_djX q.2.2.2.2.1 o.2.2.1)) && (x.2.all (fun q => Nat.beq q.1 SX && ac_le nm_GH none q.2 BX) && m.2.all (fun q => Nat.beq q.1 SM && ac_le nm_GH none q.2 BM)))
  | _, _ => false
theorem ex_hyb {KX KM : List ac_K} {lX lM : List ac_L} {wsX wsM : List (Nat × Nat)} {waX waM : List Nat} {miX miM : Nat} {NX NM : px_M} {fsX fsM : List ab_F} {ovX ovM : List ac_O} {stX stM : List Nat} {t : Int} {SX SM : Nat} {BX BM : ac_S}
    (hKX : ∀ κ ∈ KX, nm_ok κ) (hKM : ∀ κ ∈ KM, nm_ok κ) (hNX : nm_P[miX]? = some NX) (hNM : nm_P[miM]? = some NM) (hlX : ((ac_ini 0 fsX).map ab_cat).sum ≤ px_ml NX) (hlM : ((ac_ini 0 fsM).map ab_cat).sum ≤ px_ml NM)
    (h : ex_ps t SX SM BX BM (ex_runS KX lX wsX waX miX NX fsX ovX stX) (ex_runS KM lM wsM waM miM NM fsM ovM stM) = true) {hp : px_H} {a a' : Nat} {tl : List Value} (hG : ab_h nm_GH hp) (hv : ac_argv fsX (.ref a :: tl)) (hv' : ac_argv fsM (.ref a' :: tl)) (hX : ac_ov ovX hp) :
    (∃ (v : Int32) (hp1 : px_H), px_C nm_T nm_P miX (.ref a :: tl) hp (some (.int v)) hp1 ∧ v.toInt = t ∧ ab_h nm_GH hp1 ∧ px_fr wsX waX hp hp1 ∧ ∀ hq : px_H, ab_h nm_GH hq → ac_ov ovM hq → ∃ (v' : Int32) (hq' : px_H), px_C nm_T nm_P miM (.ref a' :: tl) hq (some (.int v')) hq' ∧ v'.toInt = t ∧ ab_h nm_GH hq' ∧ px_fr wsM waM hq hq') ∨
    (∃ (lv : List (Nat × Value)) (st : List Value) (hp1 : px_H) (γ : Nat → Int), ac_s nm_GH nm_Φ (ac_xs (.ref a :: tl)) γ BX lv st hp1 ∧ px_fr wsX waX hp hp1 ∧ (∀ (r : Option Value) (h9 : px_H), px_Z nm_T none nm_P NX SX lv st hp1 r h9 → px_C nm_T nm_P miX (.ref a :: tl) hp r h9) ∧
      ∀ hq : px_H, ab_h nm_GH hq → ac_ov ovM hq → ∃ (lv' : List (Nat × Value)) (st' : List Value) (hq' : px_H) (γ' : Nat → Int), ac_s nm_GH nm_Φ (ac_xs (.ref a :: tl)) γ' BM lv' st' hq' ∧ px_fr wsM waM hq hq' ∧ ∀ (r : Option Value) (h9 : px_H), px_Z nm_T none nm_P NM SM lv' st' hq' r h9 → px_C nm_T nm_P miM (.ref a' :: tl) hq r h9) := by
  unfold ex_ps at h
  split at h
  rotate_left
  · cases h
  rename_i x m hx hm
  simp only [Bool.and_eq_true, List.all_eq_true] at h
  obtain ⟨h1, h2, h3, h4⟩ := h
  have hxs : ac_xs (.ref a' :: tl) = ac_xs (.ref a :: tl) := by
    funext i
    cases i with
    | zero => rfl
    | succ i => rfl
  rcases ex_runS_ok hKX hNX hlX hx hG hv hX with ⟨r, hp1, q, m1, m2, m3, m4⟩ | ⟨pc, lv, st, hp1, A, m1, m2, m3, m4⟩
  · refine Or.inl ?_
    obtain ⟨v, rfl, hv9⟩ := ex_rt_ok (h1 q m1).1 m3
    refine ⟨v, hp1, m2, hv9, m3.2.1, m4, fun hq hGq hoq => ?_⟩
    rcases ex_runS_ok hKM hNM hlM hm hGq hv' hoq with ⟨r', hq', q', n1, n2, n3, n4⟩ | ⟨pc', lv', st', hq', A', n1, n2, -⟩
    · obtain ⟨v', rfl, hv8⟩ := ex_rt_ok (h2 q' n1).1 n3
      exact ⟨v', hq', n2, hv8, n3.2.1, n4⟩
    · refine (ex_djX_no (xs := ac_xs (.ref a :: tl)) (i := 0) (fun j p hp9 => by rw [Nat.zero_add]; exact m3.2.2.2.1 j p hp9) (fun j p hp9 => ?_) ((h1 q m1).2 _ n1)).elim
      rw [Nat.zero_add, ← hxs]
      exact n2.2.2.2.2.1 j p hp9
  · refine Or.inr ?_
    obtain ⟨e1, e2⟩ := h3 _ m1
    have e1 := Nat.eq_of_beq_eq_true e1
    simp only at e1
    subst e1
    obtain ⟨γ2, -, b2, -⟩ := ac_le_ok e2 m2
    refine ⟨lv, st, hp1, γ2, b2, m3, m4, fun hq hGq hoq => ?_⟩
    rcases ex_runS_ok hKM hNM hlM hm hGq hv' hoq with ⟨r', hq', q', n1, n2, n3, n4⟩ | ⟨pc', lv', st', hq', A', n1, n2, n3, n4⟩
    · refine (ex_djX_no (xs := ac_xs (.ref a :: tl)) (i := 0) (fun j p hp9 => by rw [Nat.zero_add]; exact m2.2.2.2.2.1 j p hp9) (fun j p hp9 => ?_) ((h2 q' n1).2 _ m1)).elim
      rw [Nat.zero_add, ← hxs]
      exact n3.2.2.2.1 j p hp9
    · obtain ⟨e3, e4⟩ := h4 _ n1
      have e3 := Nat.eq_of_beq_eq_true e3
      simp only at e3
      subst e3
      rw [hxs] at n2
      obtain ⟨γ3, -, b3, -⟩ := ac_le_ok e4 n2
      exact ⟨lv', st', hq', γ3, b3, n3, n4⟩
/-- a value that is an argument's -/
theorem ex_org {xs : Nat → Int32} {lv : List (Nat × Value)} {hp : px_H} {a b : Int} {r : List Nat} {j k : Nat} {v : Value} (h : ab_v xs lv hp ((0, a, b, r), some (2, j, k)) v) : v = .int (xs j) ∧ a ≤ (xs j).toInt ∧ (xs j).toInt ≤ b := by
  obtain ⟨x, rfl, hx⟩ := ab_f0 h.1
  obtain ⟨w, w1, w2⟩ := h.2 _ rfl
  cases w1
  simp only [ab_num, Option.some.injEq] at w2
  have : xs j = x := by rw [← Int32.toInt_inj, w2]
  rw [this]
  exact ⟨rfl, hx.1, hx.2⟩
/-- locals without origins stand in any heap -/
theorem ex_sA {xs : Nat → Int32} {lv : List (Nat × Value)} {hp : px_H} (hp' : px_H) {L : List (Nat × ab_V)} (hn : L.all (fun q => q.2.2.isNone) = true) (h : ab_lv xs hp L lv) : ab_lv xs hp' L lv := by
  intro k z hz
  obtain ⟨vv, e1, e2⟩ := h k z hz
  refine ⟨vv, e1, e2.1, ?_⟩
  have := List.all_eq_true.mp hn _ hz
  obtain ⟨f, o⟩ := z
  cases o with
  | none => exact ab_o_none _ _ _ _
  | some l => cases this
theorem ex_ovA {ov : List ac_O} {hp : px_H} {c : Nat} {x y : Nat × vp_A} (hx : hp[c]? = some (.inl x)) (h : ac_ov ov hp) : ac_ov ov (hp.set c (.inl y)) := by
  intro q hq v hv
  rw [ac_fv_arr hx] at hv
  exact h q hq v hv
theorem ex_ov1 {hp : px_H} {c k : Nat} {z : Int32} (h : ac_fv hp c k = some (.int z)) {lo hi : Int} (h1 : lo ≤ z.toInt) (h2 : z.toInt ≤ hi) : ac_ov [(c, k, 0, lo, hi, [])] hp := by
  intro q hq v hv
  cases List.mem_singleton.mp hq
  simp only at hv
  rw [h] at hv
  cases hv
  exact ⟨rfl, h1, h2⟩
/-- an end that answers just this, and leaves this value in this field -/
def ex_rz (t : Int) (c k : Nat) (z : Int) (o : ac_Out) : Bool := ex_rt t o && ex_ze c k z o
end mg_1

section mg_2
/-! going on to places where it stops; a field of an object -/
theorem ex_goS {K : List ac_K} {lps : List ac_L} {ws : List (Nat × Nat)} {wa : List Nat} {mi pc : Nat} {N : px_M} {A : ac_S} {stop : List Nat} {o : List ac_Out × List (Nat × ac_S)} (hK : ∀ κ ∈ K, nm_ok κ) (h : ac_run nm_T nm_P nm_GH nm_FA K lps ws wa 20000 false stop mi N pc A = some o) {xs : Nat → Int32} {γ : Nat → Int} {lv : List (Nat × Value)} {st : List Value} {hp : px_H} (hA : ac_s nm_GH nm_Φ xs γ A lv st hp) :
    (∃ (r : Option Value) (hp' : px_H) (q : ac_Out), q ∈ o.1 ∧ px_Z nm_T none nm_P N pc lv st hp r hp' ∧ ac_o' nm_GH nm_Φ xs q r hp' ∧ px_fr ws wa hp hp') ∨
    (∃ (pc' : Nat) (lv' : List (Nat × Value)) (st' : List Value) (hp' : px_H) (A' : ac_S), (pc', A') ∈ o.2 ∧ ac_s nm_GH nm_Φ xs γ A' lv' st' hp' ∧ px_fr ws wa hp hp' ∧ ∀ (r : Option Value) (h9 : px_H), px_Z nm_T none nm_P N pc' lv' st' hp' r h9 → px_Z nm_T none nm_P N pc lv st hp r h9) := by
  rcases ac_run_ok (xs := xs) nm_Fl nm_FG hK 20000 false stop mi N pc A _ none γ lv st hp h hA with ⟨r, hp', oc, m1, m2, m3, hr⟩ | ⟨pc', lv', st', hp', A', m1, m2, m3, n1, k1, h1⟩
  · exact Or.inl ⟨r, hp', oc, m1, hr, m2, m3⟩
  · refine Or.inr ⟨pc', lv', st', hp', A', m1, m2, m3, fun r h9 hz => ?_⟩
    obtain ⟨n2, k2, h3⟩ := hz
    exact ⟨max n1 n2, k1 + k2, fun n9 hn9 N0 nc ns q1 q2 => px_its_run k1 (h1 n9 (by omega) N0 nc ns q1 q2) (h3 n9 (by omega) N0 nc ns q1 q2)⟩
/-- locals whose origins are arguments stand in any heap -/
theorem ex_sG {xs : Nat → Int32} {lv : List (Nat × Value)} {hp : px_H} (hp' : px_H) {L : List (Nat × ab_V)} (hn : L.all (fun q => match q.2.2 with | none => true | some l => Nat.beq l.1 2) = true) (h : ab_lv xs hp L lv) : ab_lv xs hp' L lv := by
  intro k z hz
  obtain ⟨vv, e1, e2⟩ := h k z hz
  refine ⟨vv, e1, e2.1, fun l hl => ?_⟩
  have := List.all_eq_true.mp hn _ hz
  obtain ⟨f, o⟩ := z
  simp only at hl
  subst hl
  obtain ⟨l0, l1, l2⟩ := l
  have e := Nat.eq_of_beq_eq_true this
  simp only at e
  subst e
  exact e2.2 _ rfl
theorem dr_fvo {hp : px_H} {c ci k : Nat} {fs : List Value} {v : Value} (hx : hp[c]? = some (.inr (ci, fs))) (h : ac_fv hp c k = some v) : fs[k]? = some v := by
  unfold ac_fv at h
  rw [hx] at h
  exact h
/-! in -/
theorem dr_in (a b c : Int64) (hp : px_H) : px_C nm_T nm_P mi_M_in [.long a, .long b, .long c] hp (some (.int (if b.toInt ≤ a.toInt ∧ a.toInt ≤ c.toInt then 1 else 0))) hp := by
  refine px_C_of (N := mm_M_in) rfl (Nat.le_of_ble_eq_true rfl) ?_
  refine px_Z_its (pc1 := 2) (lv1 := [(0, .long a), (2, .long b), (4, .long c)]) (st1 := [.long b, .long a]) (hp1 := hp) 2 (fun _ _ _ _ => rfl) ?_
  have r1 := ab_lcmp_rel .lt a b
  have r2 := ab_lcmp_rel .gt a c
  cases h1 : px_cmp .lt (lg_cmp a b) 0 with
  | true =>
    have e1 : a.toInt < b.toInt := r1.1 h1
    rw [if_neg (by omega)]
    refine px_q_lif (bb := true) (len := 1) (c := .lt) (off := 14) rfl rfl h1 ?_
    refine px_Z_its (pc1 := 18) (lv1 := [(0, .long a), (2, .long b), (4, .long c)]) (st1 := [.int 0]) (hp1 := hp) 1 (fun _ _ _ _ => rfl) ?_
    exact px_q_iret (len := 1) (ty := .boolean) rfl rfl rfl
  | false =>
    have e1 : b.toInt ≤ a.toInt := r1.2 h1
    refine px_q_lif (bb := false) (len := 1) (c := .lt) (off := 14) rfl rfl h1 ?_
    refine px_Z_its (pc1 := 9) (lv1 := [(0, .long a), (2, .long b), (4, .long c)]) (st1 := [.long c, .long a]) (hp1 := hp) 2 (fun _ _ _ _ => rfl) ?_
    cases h2 : px_cmp .gt (lg_cmp a c) 0 with
    | true =>
      have e2 : c.toInt < a.toInt := r2.1 h2
      rw [if_neg (by omega)]
      refine px_q_lif (bb := true) (len := 1) (c := .gt) (off := 7) rfl rfl h2 ?_
      refine px_Z_its (pc1 := 18) (lv1 := [(0, .long a), (2, .long b), (4, .long c)]) (st1 := [.int 0]) (hp1 := hp) 1 (fun _ _ _ _ => rfl) ?_
      exact px_q_iret (len := 1) (ty := .boolean) rfl rfl rfl
    | false =>
      have e2 : a.toInt ≤ c.toInt := r2.2 h2
      rw [if_pos (by omega)]
      refine px_q_lif (bb := false) (len := 1) (c := .gt) (off := 7) rfl rfl h2 ?_
      refine px_Z_its (pc1 := 18) (lv1 := [(0, .long a), (2, .long b), (4, .long c)]) (st1 := [.int 1]) (hp1 := hp) 2 (fun _ _ _ _ => rfl) ?_
      exact px_q_iret (len := 1) (ty := .boolean) rfl rfl rfl
end mg_2
