section mg_0
/-! going on by the interpreter from a place in the middle; boolean arrays -/
section px_q9
variable {T : px_T} {X : Option (Nat × (Nat → Int32))} {P : List px_M} {M : px_M}
variable {pc len : Nat} {lv : List (Nat × Value)} {st : List Value} {hp hp' : px_H} {r : Option Value}
theorem px_q_bald {a t n : Nat} {f : Nat → Int32} {j : Int32} (hf : px_find pc (px_cd M) = some (len, .baload)) (hx : hp[a]? = some (.inl (t, n, .inl f))) (ht : T.1[t]? = some .boolean) (hj : px_inR j n = true)
    (hR : px_Z T X P M (pc + len) lv (.int (f j.toNatClampNeg) :: st) hp r hp') : px_Z T X P M pc lv (.int j :: .ref a :: st) hp r hp' :=
  px_Z_its 1 (fun call N0 nc ns => by simp only [px_its, px_step, hf, px_alu, px_ald, hx, ht, hj, Option.map_some]) hR
theorem px_q_bast {a t n : Nat} {f : Nat → Int32} {j x : Int32} (hf : px_find pc (px_cd M) = some (len, .bastore)) (hx : hp[a]? = some (.inl (t, n, .inl f))) (ht : T.1[t]? = some .boolean) (hj : px_inR j n = true) (h01 : (decide (x = 0) || decide (x = 1)) = true)
    (hR : px_Z T X P M (pc + len) lv st (hp.set a (.inl (t, n, .inl (upd f j.toNatClampNeg x)))) r hp') : px_Z T X P M pc lv (.int x :: .int j :: .ref a :: st) hp r hp' :=
  px_Z_its 1 (fun call N0 nc ns => by simp only [px_its, px_step, hf, px_alu, px_ast, hx, ht, hj, h01, Option.map_some]) hR
end px_q9
theorem ex_goOn {K : List ac_K} {lps : List ac_L} {ws : List (Nat × Nat)} {wa : List Nat} {mi pc : Nat} {N : px_M} {A : ac_S} {o : List ac_Out} (hK : ∀ κ ∈ K, nm_ok κ) (h : ac_run nm_T nm_P nm_GH nm_FA K lps ws wa 20000 false [] mi N pc A = some (o, [])) {xs : Nat → Int32} {γ : Nat → Int} {lv : List (Nat × Value)} {st : List Value} {hp : px_H} (hA : ac_s nm_GH nm_Φ xs γ A lv st hp) :
    ∃ (r : Option Value) (hp' : px_H) (q : ac_Out), q ∈ o ∧ px_Z nm_T none nm_P N pc lv st hp r hp' ∧ ac_o' nm_GH nm_Φ xs q r hp' ∧ px_fr ws wa hp hp' := by
  rcases ac_run_ok (xs := xs) nm_Fl nm_FG hK 20000 false [] mi N pc A _ none γ lv st hp h hA with ⟨r, hp', oc, m1, m2, m3, hr⟩ | ⟨pc', lv', st', hp', A', m1, -⟩
  · exact ⟨r, hp', oc, m1, hr, m2, m3⟩
  · cases m1
/-- an end that answers just this -/
def ex_rt (t : Int) (o : ac_Out) : Bool := match ex_one (o.1.map (fun a => a.1)) with
  | some a => decide (a = t)
  | none => false
theorem ex_rt_ok {t : Int} {xs : Nat → Int32} {o : ac_Out} {r : Option Value} {hp : px_H} (h : ex_rt t o = true) (ho : ac_o' nm_GH nm_Φ xs o r hp) : ∃ v : Int32, r = some (.int v) ∧ v.toInt = t := by
  have g := ho.1
  unfold ex_rt at h
  split at h
  · rename_i a ha
    have := of_decide_eq_true h
    subst this
    cases h1 : o.1 with
    | none => rw [h1] at ha; cases ha
    | some b =>
      rw [h1] at ha g
      cases r with
      | none => exact absurd g (by simp)
      | some v =>
        obtain ⟨x, rfl, e2⟩ := ex_one_ok ha g.1
        exact ⟨x, rfl, e2⟩
  · cases h
def ex_rts (t : Int) (os : Option (List ac_Out)) : Bool := match os with
  | some os => os.all (ex_rt t)
  | none => false
theorem ex_rts_ok {K : List ac_K} {lps : List ac_L} {ws : List (Nat × Nat)} {wa : List Nat} {mi : Nat} {fs : List ab_F} {ov : List ac_O} {t : Int} (hK : ∀ κ ∈ K, nm_ok κ) (h : ex_rts t (ex_run K lps ws wa mi fs ov) = true) {av : List Value} {hp : px_H} (hG : ab_h nm_GH hp) (hav : ac_argv fs av) (hov : ac_ov ov hp) :
    ∃ (v : Int32) (hp' : px_H) (o : ac_Out), px_C nm_T nm_P mi av hp (some (.int v)) hp' ∧ v.toInt = t ∧ ac_o' nm_GH nm_Φ (ac_xs av) o (some (.int v)) hp' ∧ px_fr ws wa hp hp' := by
  unfold ex_rts at h
  split at h
  · rename_i os ho
    obtain ⟨r, hp', o, m1, m2, m3, m4⟩ := ex_run_ok hK ho hG hav hov
    obtain ⟨v, rfl, hv⟩ := ex_rt_ok (List.all_eq_true.mp h o m1) m3
    exact ⟨v, hp', o, m2, hv, m3, m4⟩
  · cases h
end mg_0

section mg_1
/-! two calls that end alike, or come alike to a place from where one goes on by hand -/
def ex_ps (t : Int) (SX SM : Nat) (BX BM : ac_S) (oX oM : Option (List ac_Out × List (Nat × ac_S))) : Bool := match oX, oM with
  | some x, some m => x.1.all (fun o => ex_rt t o && m.2.all (fun q => ex_djX o.2.2.1 q.2.2.2.2.1)) && (m.1.all (fun o => ex_rt t o && x.2.all (fun q => ex_djX q.2.2.2.2.1 o.2.2.1)) && (x.2.all (fun q => Nat.beq q.1 SX && ac_le nm_GH none q.2 BX) && m.2.all (fun q => Nat.beq q.1 SM && ac_le nm_GH none q.2 BM)))
  | _, _ => false
theorem ex_hyb {KX KM : List ac_K} {lX lM : List ac_L} {wsX wsM : List (Nat × Nat)} {waX waM : List Nat} {miX miM : Nat} {NX NM : px_M} {fsX fsM : List ab_F} {ovX ovM : List ac_O} {stX stM : List Nat} {t : Int} {SX SM : Nat} {BX BM : ac_S}
    (hKX : ∀ κ ∈ KX, nm_ok κ) (hKM : ∀ κ ∈ KM, nm_ok κ) (hNX : nm_P[miX]? = some NX) (hNM : nm_P[miM]? = some NM) (hlX : ((ac_ini 0 fsX).map ab_cat).sum ≤ px_ml NX) (hlM : ((ac_ini 0 fsM).map ab_cat).sum ≤ px_ml NM)
    (h : ex_ps t SX SM BX BM (ex_runS KX lX wsX waX miX NX fsX ovX stX) (ex_runS KM lM wsM waM miM NM fsM ovM stM) = true) {hp : px_H} {a a' : Nat} {tl : List Value} (hG : ab_h nm_GH hp) (hv : ac_argv fsX (.ref a :: tl)) (hv' : ac_argv fsM (.ref a' :: tl)) (hX : ac_ov ovX hp) :
    (∃ (v : Int32) (hp1 : px_H), px_C nm_T nm_P miX (.ref a :: tl) hp (some (.int v)) hp1 ∧ v.toInt = t ∧ ab_h nm_GH hp1 ∧ px_fr wsX waX hp hp1 ∧ ∀ hq : px_H, ab_h nm_GH hq → ac_ov ovM hq → ∃ (v' : Int32) (hq' : px_H), px_C nm_T nm_P miM (.ref a' :: tl) hq (some (.int v')) hq' ∧ v'.toInt = t ∧ ab_h nm_GH hq' ∧ px_fr wsM waM hq hq') ∨
    (∃ (lv : List (Nat × Value)) (st : List Value) (hp1 : px_H) (γ : Nat → Int), ac_s nm_GH nm_Φ (ac_xs (.ref a :: tl)) γ BX lv st hp1 ∧ px_fr wsX waX hp hp1 ∧ (∀ (r : Option Value) (h9 : px_H), px_Z nm_T none nm_P NX SX lv st hp1 r h9 → px_C nm_T nm_P miX (.ref a :: tl) hp r h9) ∧
      ∀ hq : px_H, ab_h nm_GH hq → ac_ov ovM hq → ∃ (lv' : List (Nat × Value)) (st' : List Value) (hq' : px_H) (γ' : Nat → Int), ac_s nm_GH nm_Φ (ac_xs (.ref a :: tl)) γ' BM lv' st' hq' ∧ px_fr wsM waM hq hq' ∧ ∀ (r : Option Value) (h9 : px_H), px_Z nm_T none nm_P NM SM lv' st' hq' r h9 → px_C nm_T nm_P miM (.ref a' :: tl) hq r h9) := by
  unfold ex_ps at h
  split at h
  rotate_left
  · cases h
  rename_i x m hx hm
  simp only [Bool.and_eq_true, List.all_eq_true] at h
  obtain ⟨h1, h2, h3, h4⟩ := h
  have hxs : ac_xs (.ref a' :: tl) = ac_xs (.ref a :: tl) := by
    funext i
    cases i with
    | zero => rfl
    | succ i => rfl
  rcases ex_runS_ok hKX hNX hlX hx hG hv hX with ⟨r, hp1, q, m1, m2, m3, m4⟩ | ⟨pc, lv, st, hp1, A, m1, m2, m3, m4⟩
  · refine Or.inl ?_
    obtain ⟨v, rfl, hv9⟩ := ex_rt_ok (h1 q m1).1 m3
    refine ⟨v, hp1, m2, hv9, m3.2.1, m4, fun hq hGq hoq => ?_⟩
    rcases ex_runS_ok hKM hNM hlM hm hGq hv' hoq with ⟨r', hq', q', n1, n2, n3, n4⟩ | ⟨pc', lv', st', hq', A', n1, n2, -⟩
    · obtain ⟨v', rfl, hv8⟩ := ex_rt_ok (h2 q' n1).1 n3
      exact ⟨v', hq', n2, hv8, n3.2.1, n4⟩
    · refine (ex_djX_no (xs := ac_xs (.ref a :: tl)) (i := 0) (fun j p hp9 => by rw [Nat.zero_add]; exact m3.2.2.2.1 j p hp9) (fun j p hp9 => ?_) ((h1 q m1).2 _ n1)).elim
      rw [Nat.zero_add, ← hxs]
      exact n2.2.2.2.2.1 j p hp9
  · refine Or.inr ?_
    obtain ⟨e1, e2⟩ := h3 _ m1
    have e1 := Nat.eq_of_beq_eq_true e1
    simp only at e1
    subst e1
    obtain ⟨γ2, -, b2, -⟩ := ac_le_ok e2 m2
    refine ⟨lv, st, hp1, γ2, b2, m3, m4, fun hq hGq hoq => ?_⟩
    rcases ex_runS_ok hKM hNM hlM hm hGq hv' hoq with ⟨r', hq', q', n1, n2, n3, n4⟩ | ⟨pc', lv', st', hq', A', n1, n2, n3, n4⟩
    · refine (ex_djX_no (xs := ac_xs (.ref a :: tl)) (i := 0) (fun j p hp9 => by rw [Nat.zero_add]; exact m2.2.2.2.2.1 j p hp9) (fun j p hp9 => ?_) ((h2 q' n1).2 _ m1)).elim
      rw [Nat.zero_add, ← hxs]
      exact n3.2.2.2.1 j p hp9
    · obtain ⟨e3, e4⟩ := h4 _ n1
      have e3 := Nat.eq_of_beq_eq_true e3
      simp only at e3
      subst e3
      rw [hxs] at n2
      obtain ⟨γ3, -, b3, -⟩ := ac_le_ok e4 n2
      exact ⟨lv', st', hq', γ3, b3, n3, n4⟩
/-- a value that is an argument's -/
theorem ex_org {xs : Nat → Int32} {lv : List (Nat × Value)} {hp : px_H} {a b : Int} {r : List Nat} {j k : Nat} {v : Value} (h : ab_v xs lv hp ((0, a, b, r), some (2, j, k)) v) : v = .int (xs j) ∧ a ≤ (xs j).toInt ∧ (xs j).toInt ≤ b := by
  obtain ⟨x, rfl, hx⟩ := ab_f0 h.1
  obtain ⟨w, w1, w2⟩ := h.2 _ rfl
  cases w1
  simp only [ab_num, Option.some.injEq] at w2
  have : xs j = x := by rw [← Int32.toInt_inj, w2]
  rw [this]
  exact ⟨rfl, hx.1, hx.2⟩
/-- locals without origins stand in any heap -/
theorem ex_sA {xs : Nat → Int32} {lv : List (Nat × Value)} {hp : px_H} (hp' : px_H) {L : List (Nat × ab_V)} (hn : L.all (fun q => q.2.2.isNone) = true) (h : ab_lv xs hp L lv) : ab_lv xs hp' L lv := by
  intro k z hz
  obtain ⟨vv, e1, e2⟩ := h k z hz
  refine ⟨vv, e1, e2.1, ?_⟩
  have := List.all_eq_true.mp hn _ hz
  obtain ⟨f, o⟩ := z
  cases o with
  | none => exact ab_o_none _ _ _ _
  | some l => cases this
theorem ex_ovA {ov : List ac_O} {hp : px_H} {c : Nat} {x y : Nat × vp_A} (hx : hp[c]? = some (.inl x)) (h : ac_ov ov hp) : ac_ov ov (hp.set c (.inl y)) := by
  intro q hq v hv
  rw [ac_fv_arr hx] at hv
  exact h q hq v hv
theorem ex_ov1 {hp : px_H} {c k : Nat} {z : Int32} (h : ac_fv hp c k = some (.int z)) {lo hi : Int} (h1 : lo ≤ z.toInt) (h2 : z.toInt ≤ hi) : ac_ov [(c, k, 0, lo, hi, [])] hp := by
  intro q hq v hv
  cases List.mem_singleton.mp hq
  simp only at hv
  rw [h] at hv
  cases hv
  exact ⟨rfl, h1, h2⟩
/-- an end that answers just this, and leaves this value in this field -/
def ex_rz (t : Int) (c k : Nat) (z : Int) (o : ac_Out) : Bool := ex_rt t o && ex_ze c k z o
end mg_1

section mg_2
/-! going on to places where it stops; a field of an object -/
theorem ex_goS {K : List ac_K} {lps : List ac_L} {ws : List (Nat × Nat)} {wa : List Nat} {mi pc : Nat} {N : px_M} {A : ac_S} {stop : List Nat} {o : List ac_Out × List (Nat × ac_S)} (hK : ∀ κ ∈ K, nm_ok κ) (h : ac_run nm_T nm_P nm_GH nm_FA K lps ws wa 20000 false stop mi N pc A = some o) {xs : Nat → Int32} {γ : Nat → Int} {lv : List (Nat × Value)} {st : List Value} {hp : px_H} (hA : ac_s nm_GH nm_Φ xs γ A lv st hp) :
    (∃ (r : Option Value) (hp' : px_H) (q : ac_Out), q ∈ o.1 ∧ px_Z nm_T none nm_P N pc lv st hp r hp' ∧ ac_o' nm_GH nm_Φ xs q r hp' ∧ px_fr ws wa hp hp') ∨
    (∃ (pc' : Nat) (lv' : List (Nat × Value)) (st' : List Value) (hp' : px_H) (A' : ac_S), (pc', A') ∈ o.2 ∧ ac_s nm_GH nm_Φ xs γ A' lv' st' hp' ∧ px_fr ws wa hp hp' ∧ ∀ (r : Option Value) (h9 : px_H), px_Z nm_T none nm_P N pc' lv' st' hp' r h9 → px_Z nm_T none nm_P N pc lv st hp r h9) := by
  rcases ac_run_ok (xs := xs) nm_Fl nm_FG hK 20000 false stop mi N pc A _ none γ lv st hp h hA with ⟨r, hp', oc, m1, m2, m3, hr⟩ | ⟨pc', lv', st', hp', A', m1, m2, m3, n1, k1, h1⟩
  · exact Or.inl ⟨r, hp', oc, m1, hr, m2, m3⟩
  · refine Or.inr ⟨pc', lv', st', hp', A', m1, m2, m3, fun r h9 hz => ?_⟩
    obtain ⟨n2, k2, h3⟩ := hz
    exact ⟨max n1 n2, k1 + k2, fun n9 hn9 N0 nc ns q1 q2 => px_its_run k1 (h1 n9 (by omega) N0 nc ns q1 q2) (h3 n9 (by omega) N0 nc ns q1 q2)⟩
/-- locals whose origins are arguments stand in any heap -/
theorem ex_sG {xs : Nat → Int32} {lv : List (Nat × Value)} {hp : px_H} (hp' : px_H) {L : List (Nat × ab_V)} (hn : L.all (fun q => match q.2.2 with | none => true | some l => Nat.beq l.1 2) = true) (h : ab_lv xs hp L lv) : ab_lv xs hp' L lv := by
  intro k z hz
  obtain ⟨vv, e1, e2⟩ := h k z hz
  refine ⟨vv, e1, e2.1, fun l hl => ?_⟩
  have := List.all_eq_true.mp hn _ hz
  obtain ⟨f, o⟩ := z
  simp only at hl
  subst hl
  obtain ⟨l0, l1, l2⟩ := l
  have e := Nat.eq_of_beq_eq_true this
  simp only at e
  subst e
  exact e2.2 _ rfl
theorem dr_fvo {hp : px_H} {c ci k : Nat} {fs : List Value} {v : Value} (hx : hp[c]? = some (.inr (ci, fs))) (h : ac_fv hp c k = some v) : fs[k]? = some v := by
  unfold ac_fv at h
  rw [hx] at h
  exact h
/-! in -/
theorem dr_in (a b c : Int64) (hp : px_H) : px_C nm_T nm_P mi_M_in [.long a, .long b, .long c] hp (some (.int (if b.toInt ≤ a.toInt ∧ a.toInt ≤ c.toInt then 1 else 0))) hp := by
  refine px_C_of (N := mm_M_in) rfl (Nat.le_of_ble_eq_true rfl) ?_
  refine px_Z_its (pc1 := 2) (lv1 := [(0, .long a), (2, .long b), (4, .long c)]) (st1 := [.long b, .long a]) (hp1 := hp) 2 (fun _ _ _ _ => rfl) ?_
  have r1 := ab_lcmp_rel .lt a b
  have r2 := ab_lcmp_rel .gt a c
  cases h1 : px_cmp .lt (lg_cmp a b) 0 with
  | true =>
    have e1 : a.toInt < b.toInt := r1.1 h1
    rw [if_neg (by omega)]
    refine px_q_lif (bb := true) (len := 1) (c := .lt) (off := 14) rfl rfl h1 ?_
    refine px_Z_its (pc1 := 18) (lv1 := [(0, .long a), (2, .long b), (4, .long c)]) (st1 := [.int 0]) (hp1 := hp) 1 (fun _ _ _ _ => rfl) ?_
    exact px_q_iret (len := 1) (ty := .boolean) rfl rfl rfl
  | false =>
    have e1 : b.toInt ≤ a.toInt := r1.2 h1
    refine px_q_lif (bb := false) (len := 1) (c := .lt) (off := 14) rfl rfl h1 ?_
    refine px_Z_its (pc1 := 9) (lv1 := [(0, .long a), (2, .long b), (4, .long c)]) (st1 := [.long c, .long a]) (hp1 := hp) 2 (fun _ _ _ _ => rfl) ?_
    cases h2 : px_cmp .gt (lg_cmp a c) 0 with
    | true =>
      have e2 : c.toInt < a.toInt := r2.1 h2
      rw [if_neg (by omega)]
      refine px_q_lif (bb := true) (len := 1) (c := .gt) (off := 7) rfl rfl h2 ?_
      refine px_Z_its (pc1 := 18) (lv1 := [(0, .long a), (2, .long b), (4, .long c)]) (st1 := [.int 0]) (hp1 := hp) 1 (fun _ _ _ _ => rfl) ?_
      exact px_q_iret (len := 1) (ty := .boolean) rfl rfl rfl
    | false =>
      have e2 : a.toInt ≤ c.toInt := r2.2 h2
      rw [if_pos (by omega)]
      refine px_q_lif (bb := false) (len := 1) (c := .gt) (off := 7) rfl rfl h2 ?_
      refine px_Z_its (pc1 := 18) (lv1 := [(0, .long a), (2, .long b), (4, .long c)]) (st1 := [.int 1]) (hp1 := hp) 2 (fun _ _ _ _ => rfl) ?_
      exact px_q_iret (len := 1) (ty := .boolean) rfl rfl rfl
end mg_2

section mg_3
/-! the model reads a sign -/
theorem rp_fs {hp : px_H} {fs : List Value} (hx : hp[69]? = some (.inr (9, fs))) {k : Nat} {u : Value} (hk : k < fs.length) (d m : Nat) : ac_fv (hp.set 69 (.inr (9, fs.set k u))) d m = if d = 69 ∧ m = k then some u else ac_fv hp d m := ac_fv_set hx hk d m
/-- a field of the model set anew -/
theorem rp_put {hp : px_H} (hG : ab_h nm_GH hp) {k : Nat} {lo hi : Int} (hk : ac_f1 nm_GH 9 k 69 = some (0, lo, hi, [])) {u : Int32} (h1 : lo ≤ u.toInt) (h2 : u.toInt ≤ hi) : ∃ fs : List Value, hp[69]? = some (.inr (9, fs)) ∧ k < fs.length ∧ ab_h nm_GH (hp.set 69 (.inr (9, fs.set k (.int u)))) ∧ px_fr [(69, k)] [] hp (hp.set 69 (.inr (9, fs.set k (.int u)))) ∧ ac_fv (hp.set 69 (.inr (9, fs.set k (.int u)))) 69 k = some (.int u) ∧ (hp.set 69 (.inr (9, fs.set k (.int u))))[69]? = some (.inr (9, fs.set k (.int u))) := by
  obtain ⟨fs, hx, -, -⟩ := ac_obj hG (c := 69) rfl
  obtain ⟨t, ht, -⟩ := nm_fI hG hx (k := k) (a := lo) (b := hi) hk
  have hl : k < fs.length := (List.getElem?_eq_some_iff.mp ht).1
  refine ⟨fs, hx, hl, nm_h_obj hG hx (f := (0, lo, hi, [])) (fun FS h => ?_) ⟨rfl, h1, h2⟩, px_fr_obj hx List.mem_cons_self, ?_, List.getElem?_set_self (List.getElem?_eq_some_iff.mp hx).1⟩
  · unfold ac_f1 at hk
    rw [h] at hk
    exact hk
  · rw [rp_fs hx hl, if_pos ⟨rfl, rfl⟩]
theorem rp_flag (b : Int32) (hb : b = 0 ∨ b = 1) (hp : px_H) : px_C nm_T nm_P mi_M_flag [.int b] hp (some (.int b)) hp := by
  refine px_C_of (N := mm_M_flag) rfl (Nat.le_of_ble_eq_true rfl) ?_
  refine px_Z_its (pc1 := 1) (lv1 := [(0, .int b)]) (st1 := [.int b]) (hp1 := hp) 1 (fun _ _ _ _ => rfl) ?_
  rcases hb with rfl | rfl
  · refine px_q_if (bb := true) (len := 3) (c := .eq) (off := 7) rfl (by decide) ?_
    refine px_Z_its (pc1 := 9) (lv1 := [(0, .int 0)]) (st1 := [.int 0]) (hp1 := hp) 1 (fun _ _ _ _ => rfl) ?_
    exact px_q_iret (len := 1) (ty := .int) rfl rfl rfl
  · refine px_q_if (bb := false) (len := 3) (c := .eq) (off := 7) rfl (by decide) ?_
    refine px_Z_its (pc1 := 9) (lv1 := [(0, .int 1)]) (st1 := [.int 1]) (hp1 := hp) 2 (fun _ _ _ _ => rfl) ?_
    exact px_q_iret (len := 1) (ty := .int) rfl rfl rfl
/-- whether the sign comes -/
def rp_b (g : Nat → Int32) (w i : Nat) (c : Int32) : Bool := decide (i < w) && decide (g i = c)
def rp_i (b : Bool) : Int32 := bif b then 1 else 0
def rp_n (b : Bool) : Nat := bif b then 1 else 0
theorem rp_comes {hp : px_H} {c : Int32} {i w : Nat} {g : Nat → Int32} (hG : ab_h nm_GH hp) (hat : ac_fv hp 69 23 = some (.int (Int32.ofNat i))) (hto : ac_fv hp 69 24 = some (.int (Int32.ofNat w))) (ht : hp[na_tape]? = some (.inl (nr_tape, 40, .inl g))) (hi : i ≤ w) (hw : w ≤ 20) :
    ∃ hp' : px_H, px_C nm_T nm_P mi_M_comes [.ref 69, .int c] hp (some (.int (rp_i (rp_b g w i c)))) hp' ∧ ab_h nm_GH hp' ∧ ac_fv hp' 69 23 = some (.int (Int32.ofNat (i + rp_n (rp_b g w i c)))) ∧ px_fr [(69, 23)] [] hp hp' := by
  have ei := nm_ofNat_toInt i (by omega)
  have ew := nm_ofNat_toInt w (by omega)
  have hci : (Int32.ofNat i).toNatClampNeg = i := nm_ofNat_clamp i (by omega)
  have hle : i + rp_n (rp_b g w i c) ≤ 20 := by
    cases hb : rp_b g w i c with
    | false => show i + 0 ≤ 20; omega
    | true =>
      simp only [rp_b, Bool.and_eq_true, decide_eq_true_eq] at hb
      show i + 1 ≤ 20
      omega
  have en := nm_ofNat_toInt (i + rp_n (rp_b g w i c)) (by omega)
  obtain ⟨fs, hx, hk, g1, f1, v1, x1⟩ := rp_put hG (k := 23) (lo := 0) (hi := 20) rfl (u := Int32.ofNat (i + rp_n (rp_b g w i c))) (by omega) (by omega)
  have hfa := dr_fvo hx hat
  have hft := dr_fvo hx hto
  refine ⟨_, ?_, g1, v1, f1⟩
  refine px_C_of (N := mm_M_comes) rfl (Nat.le_of_ble_eq_true rfl) ?_
  -- from the place where it is known
  have tail : ∀ b : Bool, rp_b g w i c = b → px_Z nm_T none nm_P mm_M_comes 29 [(0, .ref 69), (1, .int c)] [.int (rp_i b)] hp (some (.int (rp_i (rp_b g w i c)))) (hp.set 69 (.inr (9, fs.set 23 (.int (Int32.ofNat (i + rp_n (rp_b g w i c))))))) := by
    intro b hb
    rw [hb]
    refine px_Z_its (pc1 := 32) (lv1 := [(2, .int (rp_i b)), (0, .ref 69), (1, .int c)]) (st1 := [.ref 69, .ref 69]) (hp1 := hp) 3 (fun _ _ _ _ => rfl) ?_
    refine px_q_get (len := 3) (ci := 9) (k := 23) (fs := fs) (v := .int (Int32.ofNat i)) rfl rfl hx hfa ?_
    refine px_Z_its (pc1 := 36) (lv1 := [(2, .int (rp_i b)), (0, .ref 69), (1, .int c)]) (st1 := [.int (rp_i b), .int (Int32.ofNat i), .ref 69]) (hp1 := hp) 1 (fun _ _ _ _ => rfl) ?_
    refine px_q_stat (len := 3) (n := 1) (N := mm_M_flag) (mi := mi_M_flag) rfl rfl rfl (Nat.le_of_ble_eq_true rfl) (Nat.le_of_ble_eq_true rfl) rfl rfl (rp_flag _ (by cases b; exact Or.inl rfl; exact Or.inr rfl) hp) ?_
    refine px_Z_its (pc1 := 40) (lv1 := [(2, .int (rp_i b)), (0, .ref 69), (1, .int c)]) (st1 := [.int (Int32.ofNat (i + rp_n b)), .ref 69]) (hp1 := hp) 1 (fun _ _ _ _ => by
      rw [show Int32.ofNat (i + rp_n b) = Int32.ofNat i + rp_i b from by rw [Int32.ofNat_add]; cases b <;> rfl]
      rfl) ?_
    refine px_q_putf (len := 3) (ci := 9) (k := 23) (fs := fs) rfl rfl hx hk rfl rfl rfl rfl ?_
    refine px_Z_its (pc1 := 44) (lv1 := [(2, .int (rp_i b)), (0, .ref 69), (1, .int c)]) (st1 := [.int (rp_i b)]) 1 (fun _ _ _ _ => rfl) ?_
    exact px_q_iret (len := 1) (ty := .boolean) rfl rfl (by cases b <;> rfl)
  refine px_Z_its (pc1 := 1) (lv1 := [(0, .ref 69), (1, .int c)]) (st1 := [.ref 69]) (hp1 := hp) 1 (fun _ _ _ _ => rfl) ?_
  refine px_q_get (len := 3) (ci := 9) (k := 23) (fs := fs) (v := .int (Int32.ofNat i)) rfl rfl hx hfa ?_
  refine px_Z_its (pc1 := 5) (lv1 := [(0, .ref 69), (1, .int c)]) (st1 := [.ref 69, .int (Int32.ofNat i)]) (hp1 := hp) 1 (fun _ _ _ _ => rfl) ?_
  refine px_q_get (len := 3) (ci := 9) (k := 24) (fs := fs) (v := .int (Int32.ofNat w)) rfl rfl hx hft ?_
  by_cases h1 : i < w
  · refine px_q_icmp (bb := false) (len := 3) (c := .ge) (off := 20) rfl (by simp only [px_cmp, decide_eq_false_iff_not, ge_iff_le, Int32.le_iff_toInt_le, ei, ew]; omega) ?_
    refine px_Z_its (pc1 := 12) (lv1 := [(0, .ref 69), (1, .int c)]) (st1 := [.ref 69]) (hp1 := hp) 1 (fun _ _ _ _ => rfl) ?_
    refine px_q_get (len := 3) (ci := 9) (k := nf_tape) (fs := fs) (v := .ref na_tape) rfl rfl hx (nm_f hG hx rfl) ?_
    refine px_Z_its (pc1 := 16) (lv1 := [(0, .ref 69), (1, .int c)]) (st1 := [.ref 69, .ref na_tape]) (hp1 := hp) 1 (fun _ _ _ _ => rfl) ?_
    refine px_q_get (len := 3) (ci := 9) (k := 23) (fs := fs) (v := .int (Int32.ofNat i)) rfl rfl hx hfa ?_
    refine px_q_iald (len := 1) rfl ht rfl (nm_ixR _ 40 (by omega) (by omega)) ?_
    rw [hci]
    refine px_Z_its (pc1 := 21) (lv1 := [(0, .ref 69), (1, .int c)]) (st1 := [.int c, .int (g i)]) (hp1 := hp) 1 (fun _ _ _ _ => rfl) ?_
    by_cases h2 : g i = c
    · refine px_q_icmp (bb := false) (len := 3) (c := .ne) (off := 7) rfl (by show decide (¬ g i = c) = false; simp [h2]) ?_
      refine px_Z_its (pc1 := 29) (lv1 := [(0, .ref 69), (1, .int c)]) (st1 := [.int (rp_i true)]) (hp1 := hp) 2 (fun _ _ _ _ => rfl) ?_
      exact tail true (by simp [rp_b, h1, h2])
    · refine px_q_icmp (bb := true) (len := 3) (c := .ne) (off := 7) rfl (by show decide (¬ g i = c) = true; simp [h2]) ?_
      refine px_Z_its (pc1 := 29) (lv1 := [(0, .ref 69), (1, .int c)]) (st1 := [.int (rp_i false)]) (hp1 := hp) 1 (fun _ _ _ _ => rfl) ?_
      exact tail false (by simp [rp_b, h2])
  · refine px_q_icmp (bb := true) (len := 3) (c := .ge) (off := 20) rfl (by simp only [px_cmp, decide_eq_true_eq, ge_iff_le, Int32.le_iff_toInt_le, ei, ew]; omega) ?_
    refine px_Z_its (pc1 := 29) (lv1 := [(0, .ref 69), (1, .int c)]) (st1 := [.int (rp_i false)]) (hp1 := hp) 1 (fun _ _ _ _ => rfl) ?_
    exact tail false (by simp [rp_b, h1])
end mg_3

section mg_4
/-! the model reads a line -/
/-- from here it comes to an end of which this holds -/
def rp_G (N : px_M) (pc : Nat) (lv : List (Nat × Value)) (st : List Value) (hp : px_H) (Q : Option Value → px_H → Prop) : Prop := ∃ (r : Option Value) (h9 : px_H), px_Z nm_T none nm_P N pc lv st hp r h9 ∧ Q r h9
theorem rp_z {N : px_M} {pc pc1 : Nat} {lv lv1 : List (Nat × Value)} {st st1 : List Value} {hp hp1 : px_H} {Q : Option Value → px_H → Prop} (h : ∀ (r : Option Value) (h9 : px_H), px_Z nm_T none nm_P N pc1 lv1 st1 hp1 r h9 → px_Z nm_T none nm_P N pc lv st hp r h9) (hG : rp_G N pc1 lv1 st1 hp1 Q) : rp_G N pc lv st hp Q := by
  obtain ⟨r, h9, h1, h2⟩ := hG
  exact ⟨r, h9, h _ _ h1, h2⟩
/-- where the model stands while it reads: place, end, signs, lines read so far -/
def rp_S (i w c : Nat) (g : Nat → Int32) (hp : px_H) : Prop := ab_h nm_GH hp ∧ ac_fv hp 69 23 = some (.int (Int32.ofNat i)) ∧ ac_fv hp 69 24 = some (.int (Int32.ofNat w)) ∧ hp[na_tape]? = some (.inl (nr_tape, 40, .inl g)) ∧ ac_fv hp 69 27 = some (.int (Int32.ofNat c))
abbrev rp_ws : List (Nat × Nat) := [(69, 23), (69, 27)]
abbrev rp_wa : List Nat := [na_readKind, na_readDoes]
theorem rp_c {N : px_M} {pc idx : Nat} {lv : List (Nat × Value)} {st : List Value} {hp : px_H} {Q : Option Value → px_H → Prop} {i w c : Nat} {g : Nat → Int32} {s : Int32} (hS : rp_S i w c g hp) (hi : i ≤ w) (hw : w ≤ 20) (hf : px_find pc (px_cd N) = some (3, .invokevirtual idx)) (hj : px_find idx (px_cp N) = some (1, mi_M_comes, 1, 9)) (h8 : (st.map fun v => v.category).sum ≤ 8)
    (h : ∀ hp' : px_H, rp_S (i + rp_n (rp_b g w i s)) w c g hp' → px_fr [(69, 23)] [] hp hp' → rp_G N (pc + 3) lv (.int (rp_i (rp_b g w i s)) :: st) hp' Q) : rp_G N pc lv (.int s :: .ref 69 :: st) hp Q := by
  obtain ⟨hG, h1, h2, h3, h4⟩ := hS
  obtain ⟨hp', c1, c2, c3, c4⟩ := rp_comes (c := s) hG h1 h2 h3 hi hw
  obtain ⟨fs, hx, -, -⟩ := ac_obj hG (c := 69) rfl
  refine rp_z (fun r h9 hz => ?_) (h hp' ⟨c2, c3, ex_fv_fr c4 (by decide) h2, c4.1 _ _ (by decide) h3, ex_fv_fr c4 (by decide) h4⟩ c4)
  exact px_q_virt (len := 3) (n := 1) (a := 69) (N := mm_M_comes) (mi := mi_M_comes) (ci := 9) hf hj rfl hx rfl (by simp) (by simpa using h8) rfl rfl c1 hz
/-- what a line's beginning tells: its kind, and how many signs it takes; none: it can't stand -/
def rp_k (g : Nat → Int32) (w i : Nat) : Option (Int32 × Nat) :=
  bif rp_b g w i 107 then some (0, 1) else bif rp_b g w i 100 then some (7, 1) else bif rp_b g w i 119 then some (8, 1) else
  bif rp_b g w i 115 && (decide (i + 1 < w) && (decide (49 ≤ (g (i + 1)).toInt) && decide ((g (i + 1)).toInt ≤ 54))) then some (g (i + 1) - 48, 2) else none
def rp_d (g : Nat → Int32) (w j : Nat) : Option Int32 :=
  bif rp_b g w j 98 then some 0 else bif rp_b g w j 116 then some 1 else bif rp_b g w j 108 then some 2 else none
/-- where the place is if the beginning can't stand -/
def rp_kf (g : Nat → Int32) (w i : Nat) : Nat := i + rp_n (rp_b g w i 115)
theorem rp_b_lt {g : Nat → Int32} {w i : Nat} {s : Int32} (h : rp_b g w i s = true) : i < w := by
  simp only [rp_b, Bool.and_eq_true, decide_eq_true_eq] at h
  exact h.1
theorem rp_b_ex {g : Nat → Int32} {w i : Nat} {s t : Int32} (h : rp_b g w i s = true) (hst : s ≠ t) : rp_b g w i t = false := by
  simp only [rp_b, Bool.and_eq_true, decide_eq_true_eq] at h
  simp only [rp_b, Bool.and_eq_false_iff, decide_eq_false_iff_not]
  exact Or.inr (fun e => hst (h.2.symm.trans e))
/-- the end of a line: what it does is known -/
theorem rp_lineE {hp : px_H} {j w c : Nat} {g rk rd : Nat → Int32} {k d : Int32} {b : Bool} (hS : rp_S j w c g hp) (hd : px_cmp .lt d 0 = !b) (hc : c + rp_n b ≤ 7) (h86 : hp[na_readKind]? = some (.inl (nr_readKind, 8, .inl rk))) (h87 : hp[na_readDoes]? = some (.inl (nr_readDoes, 8, .inl rd))) :
    rp_G mm_M_readsLine 154 [(1, .int k), (0, .ref 69)] [.int d] hp (fun r h9 => r = some (.int (rp_i b)) ∧ rp_S j w (c + rp_n b) g h9 ∧ h9[na_readKind]? = some (.inl (nr_readKind, 8, .inl (upd rk c k))) ∧ h9[na_readDoes]? = some (.inl (nr_readDoes, 8, .inl (upd rd c d))) ∧ px_fr rp_ws rp_wa hp h9) := by
  obtain ⟨hG, h1, h2, h3, h4⟩ := hS
  obtain ⟨fs, hx, -, -⟩ := ac_obj hG (c := 69) rfl
  have hcl : c ≤ 7 := by omega
  have ec := nm_ofNat_toInt c (by omega)
  have hcn : (Int32.ofNat c).toNatClampNeg = c := nm_ofNat_clamp c (by omega)
  have hrd := dr_fvo hx h4
  have gA : ab_h nm_GH (hp.set na_readKind (.inl (nr_readKind, 8, .inl (upd rk c k)))) := ac_h_arr hG (c := na_readKind) h86 rfl (y := (nr_readKind, 8, .inl (upd rk c k))) ⟨rfl, rfl, fun j _ => ⟨rfl, ab_i32 _⟩⟩
  have fA : px_fr [] rp_wa hp (hp.set na_readKind (.inl (nr_readKind, 8, .inl (upd rk c k)))) := px_fr_arr h86 (by decide)
  have xA : (hp.set na_readKind (.inl (nr_readKind, 8, .inl (upd rk c k))))[69]? = some (.inr (9, fs)) := by rw [List.getElem?_set_ne (by decide)]; exact hx
  have aA : (hp.set na_readKind (.inl (nr_readKind, 8, .inl (upd rk c k))))[na_readKind]? = some (.inl (nr_readKind, 8, .inl (upd rk c k))) := List.getElem?_set_self (List.getElem?_eq_some_iff.mp h86).1
  have bA : (hp.set na_readKind (.inl (nr_readKind, 8, .inl (upd rk c k))))[na_readDoes]? = some (.inl (nr_readDoes, 8, .inl rd)) := by rw [List.getElem?_set_ne (by decide)]; exact h87
  generalize hhA : hp.set na_readKind (.inl (nr_readKind, 8, .inl (upd rk c k))) = hpA at gA fA xA aA bA
  have gB : ab_h nm_GH (hpA.set na_readDoes (.inl (nr_readDoes, 8, .inl (upd rd c d)))) := ac_h_arr gA (c := na_readDoes) bA rfl (y := (nr_readDoes, 8, .inl (upd rd c d))) ⟨rfl, rfl, fun j _ => ⟨rfl, ab_i32 _⟩⟩
  have fB : px_fr [] rp_wa hp (hpA.set na_readDoes (.inl (nr_readDoes, 8, .inl (upd rd c d)))) := px_fr_tr fA (px_fr_arr bA (by decide))
  have xB : (hpA.set na_readDoes (.inl (nr_readDoes, 8, .inl (upd rd c d))))[69]? = some (.inr (9, fs)) := by rw [List.getElem?_set_ne (by decide)]; exact xA
  have aB : (hpA.set na_readDoes (.inl (nr_readDoes, 8, .inl (upd rd c d))))[na_readKind]? = some (.inl (nr_readKind, 8, .inl (upd rk c k))) := by rw [List.getElem?_set_ne (by decide)]; exact aA
  have bB : (hpA.set na_readDoes (.inl (nr_readDoes, 8, .inl (upd rd c d))))[na_readDoes]? = some (.inl (nr_readDoes, 8, .inl (upd rd c d))) := List.getElem?_set_self (List.getElem?_eq_some_iff.mp bA).1
  generalize hhB : hpA.set na_readDoes (.inl (nr_readDoes, 8, .inl (upd rd c d))) = hpB at gB fB xB aB bB
  have en := nm_ofNat_toInt (c + rp_n b) (by omega)
  obtain ⟨fs', hx', hk, gC, fC, vC, -⟩ := rp_put gB (k := 27) (lo := 0) (hi := 7) rfl (u := Int32.ofNat (c + rp_n b)) (by omega) (by omega)
  rw [xB] at hx'
  cases hx'
  have s1 := ex_fv_fr fC (by decide) (ex_fv_fr fB (by decide) h1)
  have s2 := ex_fv_fr fC (by decide) (ex_fv_fr fB (by decide) h2)
  have s3 := fC.1 na_tape _ (by decide) (fB.1 na_tape _ (by decide) h3)
  refine ⟨some (.int (rp_i b)), _, ?_, rfl, ⟨gC, s1, s2, s3, vC⟩, fC.1 _ _ (by decide) aB, fC.1 _ _ (by decide) bB, px_fr_tr (px_fr_mono fB (fun q hq => (by cases hq)) (fun q hq => hq)) (px_fr_mono fC (by decide) (fun q hq => (by cases hq)))⟩
  refine px_Z_its (pc1 := 156) (lv1 := [(2, .int d), (1, .int k), (0, .ref 69)]) (st1 := [.ref 69]) (hp1 := hp) 2 (fun _ _ _ _ => rfl) ?_
  refine px_q_get (len := 3) (ci := 9) (k := nf_readKind) (fs := fs) (v := .ref na_readKind) rfl rfl hx (nm_f hG hx rfl) ?_
  refine px_Z_its (pc1 := 160) (lv1 := [(2, .int d), (1, .int k), (0, .ref 69)]) (st1 := [.ref 69, .ref na_readKind]) (hp1 := hp) 1 (fun _ _ _ _ => rfl) ?_
  refine px_q_get (len := 3) (ci := 9) (k := 27) (fs := fs) (v := .int (Int32.ofNat c)) rfl rfl hx hrd ?_
  refine px_Z_its (pc1 := 164) (lv1 := [(2, .int d), (1, .int k), (0, .ref 69)]) (st1 := [.int k, .int (Int32.ofNat c), .ref na_readKind]) (hp1 := hp) 1 (fun _ _ _ _ => rfl) ?_
  refine px_q_iast (len := 1) rfl h86 rfl (nm_ixR _ 8 (by omega) (by omega)) ?_
  rw [hcn, hhA]
  refine px_Z_its (pc1 := 166) (lv1 := [(2, .int d), (1, .int k), (0, .ref 69)]) (st1 := [.ref 69]) (hp1 := hpA) 1 (fun _ _ _ _ => rfl) ?_
  refine px_q_get (len := 3) (ci := 9) (k := nf_readDoes) (fs := fs) (v := .ref na_readDoes) rfl rfl xA (nm_f gA xA rfl) ?_
  refine px_Z_its (pc1 := 170) (lv1 := [(2, .int d), (1, .int k), (0, .ref 69)]) (st1 := [.ref 69, .ref na_readDoes]) (hp1 := hpA) 1 (fun _ _ _ _ => rfl) ?_
  refine px_q_get (len := 3) (ci := 9) (k := 27) (fs := fs) (v := .int (Int32.ofNat c)) rfl rfl xA hrd ?_
  refine px_Z_its (pc1 := 174) (lv1 := [(2, .int d), (1, .int k), (0, .ref 69)]) (st1 := [.int d, .int (Int32.ofNat c), .ref na_readDoes]) (hp1 := hpA) 1 (fun _ _ _ _ => rfl) ?_
  refine px_q_iast (len := 1) rfl bA rfl (nm_ixR _ 8 (by omega) (by omega)) ?_
  rw [hcn, hhB]
  refine px_Z_its (pc1 := 177) (lv1 := [(2, .int d), (1, .int k), (0, .ref 69)]) (st1 := [.ref 69, .ref 69]) (hp1 := hpB) 2 (fun _ _ _ _ => rfl) ?_
  refine px_q_get (len := 3) (ci := 9) (k := 27) (fs := fs) (v := .int (Int32.ofNat c)) rfl rfl xB hrd ?_
  refine px_Z_its (pc1 := 181) (lv1 := [(2, .int d), (1, .int k), (0, .ref 69)]) (st1 := [.int d, .int (Int32.ofNat c), .ref 69]) (hp1 := hpB) 1 (fun _ _ _ _ => rfl) ?_
  have last : px_Z nm_T none nm_P mm_M_readsLine 189 [(2, .int d), (1, .int k), (0, .ref 69)] [.int (rp_i b), .int (Int32.ofNat c), .ref 69] hpB (some (.int (rp_i b))) (hpB.set 69 (.inr (9, fs.set 27 (.int (Int32.ofNat (c + rp_n b)))))) := by
    refine px_q_stat (len := 3) (n := 1) (N := mm_M_flag) (mi := mi_M_flag) rfl rfl rfl (Nat.le_of_ble_eq_true rfl) (Nat.le_of_ble_eq_true rfl) rfl rfl (rp_flag _ (by cases b; exact Or.inl rfl; exact Or.inr rfl) hpB) ?_
    refine px_Z_its (pc1 := 193) (lv1 := [(2, .int d), (1, .int k), (0, .ref 69)]) (st1 := [.int (Int32.ofNat (c + rp_n b)), .ref 69]) (hp1 := hpB) 1 (fun _ _ _ _ => by
      rw [show Int32.ofNat (c + rp_n b) = Int32.ofNat c + rp_i b from by rw [Int32.ofNat_add]; cases b <;> rfl]
      rfl) ?_
    refine px_q_putf (len := 3) (ci := 9) (k := 27) (fs := fs) rfl rfl xB hk rfl rfl rfl rfl ?_
    refine px_Z_its (pc1 := 197) (lv1 := [(2, .int d), (1, .int k), (0, .ref 69)]) (st1 := [.int d]) 1 (fun _ _ _ _ => rfl) ?_
    cases b with
    | true =>
      refine px_q_if (bb := false) (len := 3) (c := .lt) (off := 7) rfl hd ?_
      refine px_Z_its (pc1 := 205) (lv1 := [(2, .int d), (1, .int k), (0, .ref 69)]) (st1 := [.int 1]) 2 (fun _ _ _ _ => rfl) ?_
      exact px_q_iret (len := 1) (ty := .boolean) rfl rfl rfl
    | false =>
      refine px_q_if (bb := true) (len := 3) (c := .lt) (off := 7) rfl hd ?_
      refine px_Z_its (pc1 := 205) (lv1 := [(2, .int d), (1, .int k), (0, .ref 69)]) (st1 := [.int 0]) 1 (fun _ _ _ _ => rfl) ?_
      exact px_q_iret (len := 1) (ty := .boolean) rfl rfl rfl
  cases b with
  | true =>
    refine px_q_if (bb := false) (len := 3) (c := .lt) (off := 7) rfl hd ?_
    exact px_Z_its (pc1 := 189) (lv1 := [(2, .int d), (1, .int k), (0, .ref 69)]) (st1 := [.int 1, .int (Int32.ofNat c), .ref 69]) (hp1 := hpB) 2 (fun _ _ _ _ => rfl) last
  | false =>
    refine px_q_if (bb := true) (len := 3) (c := .lt) (off := 7) rfl hd ?_
    exact px_Z_its (pc1 := 189) (lv1 := [(2, .int d), (1, .int k), (0, .ref 69)]) (st1 := [.int 0, .int (Int32.ofNat c), .ref 69]) (hp1 := hpB) 1 (fun _ _ _ _ => rfl) last
/-- the rest of a line: its kind is known -/
theorem rp_lineD {hp : px_H} {j w c : Nat} {g rk rd : Nat → Int32} {k : Int32} (hS : rp_S j w c g hp) (hj : j ≤ w) (hw : w ≤ 20) (hc : 3 * c + 1 ≤ j) (h86 : hp[na_readKind]? = some (.inl (nr_readKind, 8, .inl rk))) (h87 : hp[na_readDoes]? = some (.inl (nr_readDoes, 8, .inl rd))) :
    rp_G mm_M_readsLine 114 [(1, .int k), (0, .ref 69)] [] hp (fun r h9 => (match rp_d g w j with
      | some d => r = some (.int 1) ∧ rp_S (j + 1) w (c + 1) g h9 ∧ h9[na_readKind]? = some (.inl (nr_readKind, 8, .inl (upd rk c k))) ∧ h9[na_readDoes]? = some (.inl (nr_readDoes, 8, .inl (upd rd c d)))
      | none => r = some (.int 0) ∧ rp_S j w c g h9) ∧ px_fr rp_ws rp_wa hp h9) := by
  have E : ∀ (hp' : px_H) (j' : Nat) (d : Int32) (b : Bool), rp_S j' w c g hp' → px_fr [(69, 23)] [] hp hp' → px_cmp .lt d 0 = !b → c + rp_n b ≤ 7 → (∀ (r : Option Value) (h9 : px_H), r = some (.int (rp_i b)) ∧ rp_S j' w (c + rp_n b) g h9 ∧ h9[na_readKind]? = some (.inl (nr_readKind, 8, .inl (upd rk c k))) ∧ h9[na_readDoes]? = some (.inl (nr_readDoes, 8, .inl (upd rd c d))) ∧ px_fr rp_ws rp_wa hp' h9 → (match rp_d g w j with
      | some d => r = some (.int 1) ∧ rp_S (j + 1) w (c + 1) g h9 ∧ h9[na_readKind]? = some (.inl (nr_readKind, 8, .inl (upd rk c k))) ∧ h9[na_readDoes]? = some (.inl (nr_readDoes, 8, .inl (upd rd c d)))
      | none => r = some (.int 0) ∧ rp_S j w c g h9)) → rp_G mm_M_readsLine 154 [(1, .int k), (0, .ref 69)] [.int d] hp' (fun r h9 => (match rp_d g w j with
      | some d => r = some (.int 1) ∧ rp_S (j + 1) w (c + 1) g h9 ∧ h9[na_readKind]? = some (.inl (nr_readKind, 8, .inl (upd rk c k))) ∧ h9[na_readDoes]? = some (.inl (nr_readDoes, 8, .inl (upd rd c d)))
      | none => r = some (.int 0) ∧ rp_S j w c g h9) ∧ px_fr rp_ws rp_wa hp h9) := by
    intro hp' j' d b S' f' hd hb hQ
    obtain ⟨r, h9, z1, z2⟩ := rp_lineE (k := k) (d := d) (b := b) S' hd hb (f'.1 _ _ (by decide) h86) (f'.1 _ _ (by decide) h87)
    exact ⟨r, h9, z1, hQ r h9 z2, px_fr_tr (px_fr_mono f' (by decide) (fun q hq => (by cases hq))) z2.2.2.2.2⟩
  refine rp_z (fun r h9 h => px_Z_its (pc1 := 117) (lv1 := [(1, .int k), (0, .ref 69)]) (st1 := [.int 98, .ref 69]) (hp1 := hp) 2 (fun _ _ _ _ => rfl) h) ?_
  refine rp_c hS hj hw rfl rfl (by decide) (fun hp1 S1 f1 => ?_)
  cases hb1 : rp_b g w j 98 with
  | true =>
    rw [hb1] at S1
    have := rp_b_lt hb1
    refine rp_z (fun r h9 h => px_q_if (bb := false) (len := 3) (c := .eq) (off := 7) rfl (by decide) (px_Z_its (pc1 := 154) (lv1 := [(1, .int k), (0, .ref 69)]) (st1 := [.int 0]) (hp1 := hp1) 2 (fun _ _ _ _ => rfl) h)) ?_
    refine E hp1 (j + 1) 0 true S1 f1 (by decide) (by show c + 1 ≤ 7; omega) (fun r h9 q => ?_)
    rw [show rp_d g w j = some 0 from by unfold rp_d; rw [hb1]; rfl]
    exact ⟨q.1, q.2.1, q.2.2.1, q.2.2.2.1⟩
  | false =>
    rw [hb1] at S1
    refine rp_z (fun r h9 h => px_q_if (bb := true) (len := 3) (c := .eq) (off := 7) rfl (by decide) (px_Z_its (pc1 := 130) (lv1 := [(1, .int k), (0, .ref 69)]) (st1 := [.int 116, .ref 69]) (hp1 := hp1) 2 (fun _ _ _ _ => rfl) h)) ?_
    refine rp_c (i := j) S1 hj hw rfl rfl (by decide) (fun hp2 S2 f2 => ?_)
    have f2' : px_fr [(69, 23)] [] hp hp2 := px_fr_tr f1 f2
    cases hb2 : rp_b g w j 116 with
    | true =>
      rw [hb2] at S2
      have := rp_b_lt hb2
      refine rp_z (fun r h9 h => px_q_if (bb := false) (len := 3) (c := .eq) (off := 7) rfl (by decide) (px_Z_its (pc1 := 154) (lv1 := [(1, .int k), (0, .ref 69)]) (st1 := [.int 1]) (hp1 := hp2) 2 (fun _ _ _ _ => rfl) h)) ?_
      refine E hp2 (j + 1) 1 true S2 f2' (by decide) (by show c + 1 ≤ 7; omega) (fun r h9 q => ?_)
      rw [show rp_d g w j = some 1 from by unfold rp_d; rw [hb1, hb2]; rfl]
      exact ⟨q.1, q.2.1, q.2.2.1, q.2.2.2.1⟩
    | false =>
      rw [hb2] at S2
      refine rp_z (fun r h9 h => px_q_if (bb := true) (len := 3) (c := .eq) (off := 7) rfl (by decide) (px_Z_its (pc1 := 143) (lv1 := [(1, .int k), (0, .ref 69)]) (st1 := [.int 108, .ref 69]) (hp1 := hp2) 2 (fun _ _ _ _ => rfl) h)) ?_
      refine rp_c (i := j) S2 hj hw rfl rfl (by decide) (fun hp3 S3 f3 => ?_)
      have f3' : px_fr [(69, 23)] [] hp hp3 := px_fr_tr f2' f3
      cases hb3 : rp_b g w j 108 with
      | true =>
        rw [hb3] at S3
        have := rp_b_lt hb3
        refine rp_z (fun r h9 h => px_q_if (bb := false) (len := 3) (c := .eq) (off := 7) rfl (by decide) (px_Z_its (pc1 := 154) (lv1 := [(1, .int k), (0, .ref 69)]) (st1 := [.int 2]) (hp1 := hp3) 2 (fun _ _ _ _ => rfl) h)) ?_
        refine E hp3 (j + 1) 2 true S3 f3' (by decide) (by show c + 1 ≤ 7; omega) (fun r h9 q => ?_)
        rw [show rp_d g w j = some 2 from by unfold rp_d; rw [hb1, hb2, hb3]; rfl]
        exact ⟨q.1, q.2.1, q.2.2.1, q.2.2.2.1⟩
      | false =>
        rw [hb3] at S3
        refine rp_z (fun r h9 h => px_q_if (bb := true) (len := 3) (c := .eq) (off := 7) rfl (by decide) (px_Z_its (pc1 := 154) (lv1 := [(1, .int k), (0, .ref 69)]) (st1 := [.int (Int32.ofInt (-1))]) (hp1 := hp3) 1 (fun _ _ _ _ => rfl) h)) ?_
        refine E hp3 j (Int32.ofInt (-1)) false S3 f3' (by decide) (by show c + 0 ≤ 7; omega) (fun r h9 q => ?_)
        rw [show rp_d g w j = none from by unfold rp_d; rw [hb1, hb2, hb3]; rfl]
        exact ⟨q.1, q.2.1⟩
/-- a line: what it leaves, by what its signs are -/
def rp_Q (i w c : Nat) (g rk rd : Nat → Int32) (r : Option Value) (h9 : px_H) : Prop := match rp_k g w i with
  | none => r = some (.int 0) ∧ rp_S (rp_kf g w i) w c g h9
  | some (k, n) => match rp_d g w (i + n) with
    | some d => r = some (.int 1) ∧ rp_S (i + n + 1) w (c + 1) g h9 ∧ h9[na_readKind]? = some (.inl (nr_readKind, 8, .inl (upd rk c k))) ∧ h9[na_readDoes]? = some (.inl (nr_readDoes, 8, .inl (upd rd c d)))
    | none => r = some (.int 0) ∧ rp_S (i + n) w c g h9
theorem rp_line {hp : px_H} {i w c : Nat} {g rk rd : Nat → Int32} (hS : rp_S i w c g hp) (hi : i ≤ w) (hw : w ≤ 20) (hc : 3 * c ≤ i) (h86 : hp[na_readKind]? = some (.inl (nr_readKind, 8, .inl rk))) (h87 : hp[na_readDoes]? = some (.inl (nr_readDoes, 8, .inl rd))) :
    rp_G mm_M_readsLine 0 [(0, .ref 69)] [] hp (fun r h9 => rp_Q i w c g rk rd r h9 ∧ px_fr rp_ws rp_wa hp h9) := by
  -- from 42 on, with a kind
  have K : ∀ (hp' : px_H) (k : Int32) (n : Nat), rp_k g w i = some (k, n) → 1 ≤ n → i + n ≤ w → px_cmp .ge k 0 = true → rp_S (i + n) w c g hp' → px_fr [(69, 23)] [] hp hp' → rp_G mm_M_readsLine 42 [(0, .ref 69)] [.int k] hp' (fun r h9 => rp_Q i w c g rk rd r h9 ∧ px_fr rp_ws rp_wa hp h9) := by
    intro hp' k n hk hn hin hge S' f'
    refine rp_z (fun r h9 h => px_Z_its (pc1 := 44) (lv1 := [(1, .int k), (0, .ref 69)]) (st1 := [.int k]) (hp1 := hp') 2 (fun _ _ _ _ => rfl) (px_q_if (bb := true) (len := 3) (c := .ge) (off := 70) rfl hge h)) ?_
    obtain ⟨r, h9, z1, z2, z3⟩ := rp_lineD (k := k) S' hin hw (by omega) (f'.1 _ _ (by decide) h86) (f'.1 _ _ (by decide) h87)
    refine ⟨r, h9, z1, ?_, px_fr_tr (px_fr_mono f' (by decide) (fun q hq => (by cases hq))) z3⟩
    unfold rp_Q
    rw [hk]
    simp only
    exact z2
  -- a line that can't begin
  have no : ∀ (hp' : px_H), rp_k g w i = none → rp_S (rp_kf g w i) w c g hp' → px_fr [(69, 23)] [] hp hp' → rp_G mm_M_readsLine 89 [(1, .int (Int32.ofInt (-1))), (0, .ref 69)] [] hp' (fun r h9 => rp_Q i w c g rk rd r h9 ∧ px_fr rp_ws rp_wa hp h9) := by
    intro hp' hk S' f'
    refine ⟨some (.int 0), hp', px_Z_its (pc1 := 90) (lv1 := [(1, .int (Int32.ofInt (-1))), (0, .ref 69)]) (st1 := [.int 0]) (hp1 := hp') 1 (fun _ _ _ _ => rfl) (px_q_iret (len := 1) (ty := .boolean) rfl rfl rfl), ?_, px_fr_mono f' (by decide) (fun q hq => (by cases hq))⟩
    unfold rp_Q
    rw [hk]
    exact ⟨rfl, S'⟩
  refine rp_z (fun r h9 h => px_Z_its (pc1 := 3) (lv1 := [(0, .ref 69)]) (st1 := [.int 107, .ref 69]) (hp1 := hp) 2 (fun _ _ _ _ => rfl) h) ?_
  refine rp_c hS hi hw rfl rfl (by decide) (fun hp1 S1 f1 => ?_)
  cases hb1 : rp_b g w i 107 with
  | true =>
    rw [hb1] at S1
    have := rp_b_lt hb1
    refine rp_z (fun r h9 h => px_q_if (bb := false) (len := 3) (c := .eq) (off := 7) rfl (by decide) (px_Z_its (pc1 := 42) (lv1 := [(0, .ref 69)]) (st1 := [.int 0]) (hp1 := hp1) 2 (fun _ _ _ _ => rfl) h)) ?_
    exact K hp1 0 1 (by unfold rp_k; rw [hb1]; rfl) (by decide) (by omega) (by decide) S1 f1
  | false =>
    rw [hb1] at S1
    refine rp_z (fun r h9 h => px_q_if (bb := true) (len := 3) (c := .eq) (off := 7) rfl (by decide) (px_Z_its (pc1 := 16) (lv1 := [(0, .ref 69)]) (st1 := [.int 100, .ref 69]) (hp1 := hp1) 2 (fun _ _ _ _ => rfl) h)) ?_
    refine rp_c (i := i) S1 hi hw rfl rfl (by decide) (fun hp2 S2 f2 => ?_)
    have f2' : px_fr [(69, 23)] [] hp hp2 := px_fr_tr f1 f2
    cases hb2 : rp_b g w i 100 with
    | true =>
      rw [hb2] at S2
      have := rp_b_lt hb2
      refine rp_z (fun r h9 h => px_q_if (bb := false) (len := 3) (c := .eq) (off := 8) rfl (by decide) (px_Z_its (pc1 := 42) (lv1 := [(0, .ref 69)]) (st1 := [.int 7]) (hp1 := hp2) 2 (fun _ _ _ _ => rfl) h)) ?_
      exact K hp2 7 1 (by unfold rp_k; rw [hb1, hb2]; rfl) (by decide) (by omega) (by decide) S2 f2'
    | false =>
      rw [hb2] at S2
      refine rp_z (fun r h9 h => px_q_if (bb := true) (len := 3) (c := .eq) (off := 8) rfl (by decide) (px_Z_its (pc1 := 30) (lv1 := [(0, .ref 69)]) (st1 := [.int 119, .ref 69]) (hp1 := hp2) 2 (fun _ _ _ _ => rfl) h)) ?_
      refine rp_c (i := i) S2 hi hw rfl rfl (by decide) (fun hp3 S3 f3 => ?_)
      have f3' : px_fr [(69, 23)] [] hp hp3 := px_fr_tr f2' f3
      cases hb3 : rp_b g w i 119 with
      | true =>
        rw [hb3] at S3
        have := rp_b_lt hb3
        refine rp_z (fun r h9 h => px_q_if (bb := false) (len := 3) (c := .eq) (off := 8) rfl (by decide) (px_Z_its (pc1 := 42) (lv1 := [(0, .ref 69)]) (st1 := [.int 8]) (hp1 := hp3) 2 (fun _ _ _ _ => rfl) h)) ?_
        exact K hp3 8 1 (by unfold rp_k; rw [hb1, hb2, hb3]; rfl) (by decide) (by omega) (by decide) S3 f3'
      | false =>
        rw [hb3] at S3
        refine rp_z (fun r h9 h => px_q_if (bb := true) (len := 3) (c := .eq) (off := 8) rfl (by decide) (px_Z_its (pc1 := 44) (lv1 := [(1, .int (Int32.ofInt (-1))), (0, .ref 69)]) (st1 := [.int (Int32.ofInt (-1))]) (hp1 := hp3) 3 (fun _ _ _ _ => rfl) (px_q_if (bb := false) (len := 3) (c := .ge) (off := 70) rfl (by decide) (px_Z_its (pc1 := 50) (lv1 := [(1, .int (Int32.ofInt (-1))), (0, .ref 69)]) (st1 := [.int 115, .ref 69]) (hp1 := hp3) 2 (fun _ _ _ _ => rfl) h)))) ?_
        refine rp_c (i := i) S3 hi hw rfl rfl (by decide) (fun hp4 S4 f4 => ?_)
        have f4' : px_fr [(69, 23)] [] hp hp4 := px_fr_tr f3' f4
        cases hb4 : rp_b g w i 115 with
        | false =>
          rw [hb4] at S4
          refine rp_z (fun r h9 h => px_q_if (bb := true) (len := 3) (c := .eq) (off := 36) rfl (by decide) h) ?_
          refine no hp4 (by unfold rp_k; rw [hb1, hb2, hb3, hb4]; rfl) ?_ f4'
          unfold rp_kf
          rw [hb4]
          exact S4
        | true =>
          rw [hb4] at S4
          have hlt := rp_b_lt hb4
          have S4k : rp_S (rp_kf g w i) w c g hp4 := by
            unfold rp_kf
            rw [hb4]
            exact S4
          obtain ⟨hG, h1, h2, h3, h4⟩ := S4
          obtain ⟨fs, hx, -, -⟩ := ac_obj hG (c := 69) rfl
          have e1 := nm_ofNat_toInt (i + 1) (by omega)
          have ew := nm_ofNat_toInt w (by omega)
          have hn1 : (Int32.ofNat (i + 1)).toNatClampNeg = i + 1 := nm_ofNat_clamp (i + 1) (by omega)
          have ha := dr_fvo hx h1
          have hb := dr_fvo hx h2
          refine rp_z (fun r h9 h => px_q_if (bb := false) (len := 3) (c := .eq) (off := 36) rfl (by decide) (px_Z_its (pc1 := 57) (lv1 := [(1, .int (Int32.ofInt (-1))), (0, .ref 69)]) (st1 := [.ref 69]) (hp1 := hp4) 1 (fun _ _ _ _ => rfl) (px_q_get (len := 3) (ci := 9) (k := 23) (fs := fs) (v := .int (Int32.ofNat (i + 1))) rfl rfl hx ha (px_Z_its (pc1 := 61) (lv1 := [(1, .int (Int32.ofInt (-1))), (0, .ref 69)]) (st1 := [.ref 69, .int (Int32.ofNat (i + 1))]) (hp1 := hp4) 1 (fun _ _ _ _ => rfl) (px_q_get (len := 3) (ci := 9) (k := 24) (fs := fs) (v := .int (Int32.ofNat w)) rfl rfl hx hb h))))) ?_
          by_cases hl1 : i + 1 < w
          · refine rp_z (fun r h9 h => px_q_icmp (bb := false) (len := 3) (c := .ge) (off := 25) rfl (by simp only [px_cmp, decide_eq_false_iff_not, ge_iff_le, Int32.le_iff_toInt_le, e1, ew]; omega) (px_Z_its (pc1 := 68) (lv1 := [(1, .int (Int32.ofInt (-1))), (0, .ref 69)]) (st1 := [.ref 69]) (hp1 := hp4) 1 (fun _ _ _ _ => rfl) (px_q_get (len := 3) (ci := 9) (k := nf_tape) (fs := fs) (v := .ref na_tape) rfl rfl hx (nm_f hG hx rfl) (px_Z_its (pc1 := 72) (lv1 := [(1, .int (Int32.ofInt (-1))), (0, .ref 69)]) (st1 := [.ref 69, .ref na_tape]) (hp1 := hp4) 1 (fun _ _ _ _ => rfl) (px_q_get (len := 3) (ci := 9) (k := 23) (fs := fs) (v := .int (Int32.ofNat (i + 1))) rfl rfl hx ha (px_q_iald (len := 1) rfl h3 rfl (nm_ixR _ 40 (by omega) (by omega)) h)))))) ?_
            rw [hn1]
            refine rp_z (fun r h9 h => px_Z_its (pc1 := 83) (lv1 := [(1, .int (Int32.ofInt (-1))), (0, .ref 69)]) (st1 := [.long (Int64.ofInt 54), .long (Int64.ofInt 49), .long (g (i + 1)).toInt64]) (hp1 := hp4) 3 (fun _ _ _ _ => rfl) (px_q_stat (len := 3) (n := 3) (N := mm_M_in) (mi := mi_M_in) rfl rfl rfl (Nat.le_of_ble_eq_true rfl) (Nat.le_of_ble_eq_true rfl) rfl rfl (dr_in (g (i + 1)).toInt64 (Int64.ofInt 49) (Int64.ofInt 54) hp4) h)) ?_
            rw [Int32.toInt_toInt64, show (Int64.ofInt 49).toInt = 49 from by decide, show (Int64.ofInt 54).toInt = 54 from by decide]
            by_cases hdg : 49 ≤ (g (i + 1)).toInt ∧ (g (i + 1)).toInt ≤ 54
            · rw [if_pos hdg]
              obtain ⟨fs', hx', hk9, gC, fC, vC, -⟩ := rp_put hG (k := 23) (lo := 0) (hi := 20) rfl (u := Int32.ofNat (i + 2)) (by rw [nm_ofNat_toInt (i + 2) (by omega)]; omega) (by rw [nm_ofNat_toInt (i + 2) (by omega)]; omega)
              rw [hx] at hx'
              cases hx'
              have hkk : px_cmp .ge (g (i + 1) - 48) 0 = true := by
                have : (g (i + 1) - 48).toInt = (g (i + 1)).toInt - 48 := by
                  rw [Int32.toInt_sub, show (48 : Int32).toInt = 48 from rfl]
                  apply Int.bmod_eq_of_le <;> omega
                simp only [px_cmp, decide_eq_true_eq, ge_iff_le, Int32.le_iff_toInt_le, this, Int32.toInt_zero]
                omega
              have hkr : rp_k g w i = some (g (i + 1) - 48, 2) := by
                unfold rp_k
                rw [hb1, hb2, hb3, hb4]
                simp [hl1, hdg.1, hdg.2]
              have f5 : px_fr [(69, 23)] [] hp (hp4.set 69 (.inr (9, fs.set 23 (.int (Int32.ofNat (i + 2)))))) := px_fr_tr f4' fC
              refine rp_z (fun r h9 h => px_q_if (bb := true) (len := 3) (c := .ne) (off := 5) rfl (by decide) (px_Z_its (pc1 := 92) (lv1 := [(1, .int (Int32.ofInt (-1))), (0, .ref 69)]) (st1 := [.ref 69]) (hp1 := hp4) 1 (fun _ _ _ _ => rfl) (px_q_get (len := 3) (ci := 9) (k := nf_tape) (fs := fs) (v := .ref na_tape) rfl rfl hx (nm_f hG hx rfl) (px_Z_its (pc1 := 96) (lv1 := [(1, .int (Int32.ofInt (-1))), (0, .ref 69)]) (st1 := [.ref 69, .ref na_tape]) (hp1 := hp4) 1 (fun _ _ _ _ => rfl) (px_q_get (len := 3) (ci := 9) (k := 23) (fs := fs) (v := .int (Int32.ofNat (i + 1))) rfl rfl hx ha (px_q_iald (len := 1) rfl h3 rfl (nm_ixR _ 40 (by omega) (by omega)) h)))))) ?_
              rw [hn1]
              refine rp_z (fun r h9 h => px_Z_its (pc1 := 106) (lv1 := [(1, .int (g (i + 1) - 48)), (0, .ref 69)]) (st1 := [.ref 69, .ref 69]) (hp1 := hp4) 5 (fun _ _ _ _ => rfl) (px_q_get (len := 3) (ci := 9) (k := 23) (fs := fs) (v := .int (Int32.ofNat (i + 1))) rfl rfl hx ha (px_Z_its (pc1 := 111) (lv1 := [(1, .int (g (i + 1) - 48)), (0, .ref 69)]) (st1 := [.int (Int32.ofNat (i + 2)), .ref 69]) (hp1 := hp4) 2 (fun _ _ _ _ => by
                rw [show Int32.ofNat (i + 2) = Int32.ofNat (i + 1) + 1 from by rw [show i + 2 = (i + 1) + 1 from rfl, Int32.ofNat_add]; rfl]
                rfl) (px_q_putf (len := 3) (ci := 9) (k := 23) (fs := fs) rfl rfl hx hk9 rfl rfl rfl rfl h)))) ?_
              obtain ⟨r, h9, z1, z2, z3⟩ := rp_lineD (k := g (i + 1) - 48) (j := i + 2) ⟨gC, vC, ex_fv_fr fC (by decide) h2, fC.1 _ _ (by decide) h3, ex_fv_fr fC (by decide) h4⟩ (by omega) hw (by omega) (f5.1 _ _ (by decide) h86) (f5.1 _ _ (by decide) h87)
              refine ⟨r, h9, z1, ?_, px_fr_tr (px_fr_mono f5 (by decide) (fun q hq => (by cases hq))) z3⟩
              unfold rp_Q
              rw [hkr]
              simp only
              exact z2
            · rw [if_neg hdg]
              refine rp_z (fun r h9 h => px_q_if (bb := false) (len := 3) (c := .ne) (off := 5) rfl (by decide) h) ?_
              refine no hp4 ?_ S4k f4'
              unfold rp_k
              rw [hb1, hb2, hb3, hb4]
              have : (decide (49 ≤ (g (i + 1)).toInt) && decide ((g (i + 1)).toInt ≤ 54)) = false := by
                rw [Bool.and_eq_false_iff, decide_eq_false_iff_not, decide_eq_false_iff_not]
                omega
              rw [this]
              simp
          · refine rp_z (fun r h9 h => px_q_icmp (bb := true) (len := 3) (c := .ge) (off := 25) rfl (by simp only [px_cmp, decide_eq_true_eq, ge_iff_le, Int32.le_iff_toInt_le, e1, ew]; omega) h) ?_
            refine no hp4 ?_ S4k f4'
            unfold rp_k
            rw [hb1, hb2, hb3, hb4]
            simp [hl1]
end mg_4

section mg_5
/-! the model reads a rule -/
/-- line by line: whether all could stand, the place, how many, kinds, what they do -/
def rp_lp (g : Nat → Int32) (w : Nat) : Nat → Nat → Nat → (Nat → Int32) → (Nat → Int32) → Bool × Nat × Nat × (Nat → Int32) × (Nat → Int32)
  | 0, i, c, rk, rd => (false, i, c, rk, rd)
  | m + 1, i, c, rk, rd => match rp_k g w i with
    | none => (false, rp_kf g w i, c, rk, rd)
    | some (k, n) => match rp_d g w (i + n) with
      | none => (false, i + n, c, rk, rd)
      | some d => bif rp_b g w (i + n + 1) 59 then rp_lp g w m (i + n + 2) (c + 1) (upd rk c k) (upd rd c d) else (true, i + n + 1, c + 1, upd rk c k, upd rd c d)
theorem rp_k_le {g : Nat → Int32} {w i n : Nat} {k : Int32} (h : rp_k g w i = some (k, n)) : 1 ≤ n ∧ n ≤ 2 ∧ i + n ≤ w := by
  unfold rp_k at h
  cases h1 : rp_b g w i 107 with
  | true => rw [h1] at h; cases h; have := rp_b_lt h1; omega
  | false =>
    cases h2 : rp_b g w i 100 with
    | true => rw [h1, h2] at h; cases h; have := rp_b_lt h2; omega
    | false =>
      cases h3 : rp_b g w i 119 with
      | true => rw [h1, h2, h3] at h; cases h; have := rp_b_lt h3; omega
      | false =>
        rw [h1, h2, h3] at h
        cases h4 : (rp_b g w i 115 && (decide (i + 1 < w) && (decide (49 ≤ (g (i + 1)).toInt) && decide ((g (i + 1)).toInt ≤ 54)))) with
        | true =>
          rw [h4] at h
          cases h
          simp only [Bool.and_eq_true, decide_eq_true_eq] at h4
          omega
        | false => rw [h4] at h; cases h
theorem rp_d_lt {g : Nat → Int32} {w j : Nat} {d : Int32} (h : rp_d g w j = some d) : j < w := by
  unfold rp_d at h
  cases h1 : rp_b g w j 98 with
  | true => exact rp_b_lt h1
  | false =>
    cases h2 : rp_b g w j 116 with
    | true => exact rp_b_lt h2
    | false =>
      cases h3 : rp_b g w j 108 with
      | true => exact rp_b_lt h3
      | false => rw [h1, h2, h3] at h; cases h
theorem rp_loop {w : Nat} {g : Nat → Int32} (hw : w ≤ 20) {Q : Option Value → px_H → Prop} : ∀ (m i c : Nat) (rk rd : Nat → Int32) (lv : List (Nat × Value)) (hp : px_H), rp_S i w c g hp → i ≤ w → 3 * c ≤ i → w < i + 3 * m → hp[na_readKind]? = some (.inl (nr_readKind, 8, .inl rk)) → hp[na_readDoes]? = some (.inl (nr_readDoes, 8, .inl rd)) → px_find 0 lv = some (.ref 69) → px_find 4 lv = some (.int 1) →
    (∀ (lv' : List (Nat × Value)) (hp' : px_H), px_find 0 lv' = some (.ref 69) → (∀ v, px_find 1 lv = some (.int v) → px_find 1 lv' = some (.int v)) → (∀ v, px_find 2 lv = some (.int v) → px_find 2 lv' = some (.int v)) → px_find 3 lv' = some (.int (rp_i (rp_lp g w m i c rk rd).1)) → rp_S (rp_lp g w m i c rk rd).2.1 w (rp_lp g w m i c rk rd).2.2.1 g hp' → ((rp_lp g w m i c rk rd).1 = true → hp'[na_readKind]? = some (.inl (nr_readKind, 8, .inl (rp_lp g w m i c rk rd).2.2.2.1)) ∧ hp'[na_readDoes]? = some (.inl (nr_readDoes, 8, .inl (rp_lp g w m i c rk rd).2.2.2.2))) → px_fr rp_ws rp_wa hp hp' → rp_G mm_M_readsRule 76 lv' [] hp' Q) → rp_G mm_M_readsRule 43 lv [] hp Q := by
  intro m
  induction m with
  | zero => intro i c rk rd lv hp _ h1 _ h2; omega
  | succ m ih =>
    intro i c rk rd lv hp hS hi hc hm h86 h87 l0 l4 cont
    obtain ⟨fs, hx, -, -⟩ := ac_obj hS.1 (c := 69) rfl
    obtain ⟨r, h9, z1, z2, z3⟩ := rp_line hS hi hw hc h86 h87
    have hC : px_C nm_T nm_P mi_M_readsLine [.ref 69] hp r h9 := px_C_of (N := mm_M_readsLine) rfl (Nat.le_of_ble_eq_true rfl) z1
    refine rp_z (fun r' h' h => px_q_il (len := 2) (j := 4) rfl l4 (px_q_if (bb := false) (len := 3) (c := .eq) (off := 31) rfl (by decide) (px_q_aln (pc := 48) (len := 1) (j := 0) rfl l0 (px_q_virt (len := 3) (n := 0) (a := 69) (N := mm_M_readsLine) (mi := mi_M_readsLine) (ci := 9) rfl rfl rfl hx rfl (Nat.le_of_ble_eq_true rfl) (Nat.le_of_ble_eq_true rfl) rfl rfl hC h)))) ?_
    -- the line can't stand
    have fail : ∀ (at' : Nat), r = some (.int 0) → rp_lp g w (m + 1) i c rk rd = (false, at', c, rk, rd) → rp_S at' w c g h9 → rp_G mm_M_readsRule (49 + 3) lv (r.toList ++ List.drop (0 + 1) [Value.ref 69]) h9 Q := by
      intro at' hr hlp hS'
      subst hr
      generalize hlA : px_st1 lv 3 (.int 0) = lvA
      have a0 : px_find 0 lvA = some (.ref 69) := by rw [← hlA]; exact px_st1_nr l0
      have a3 : px_find 3 lvA = some (.int 0) := by rw [← hlA]; exact px_st1_at _ _ _
      refine rp_z (fun r' h' h => px_Z_its (pc1 := 53) (lv1 := lvA) (st1 := []) (hp1 := h9) 1 (fun _ _ _ _ => by rw [← hlA]; rfl) (px_q_iln (len := 1) (j := 3) rfl a3 (px_q_if (bb := true) (len := 3) (c := .eq) (off := 16) rfl (by decide) (px_Z_its (pc1 := 43) (lv1 := px_st1 lvA 4 (.int 0)) (st1 := []) (hp1 := h9) 3 (fun _ _ _ _ => rfl) (px_q_il (len := 2) (j := 4) rfl (px_st1_at _ _ _) (px_q_if (bb := true) (len := 3) (c := .eq) (off := 31) rfl (by decide) h)))))) ?_
      rw [hlp] at cont
      refine cont _ h9 (px_st1_nr a0) (fun v hv => ?_) (fun v hv => ?_) (ab_sto1_find a3 (by decide) (fun _ hc => by cases hc)) hS' (fun h => by cases h) z3
      · refine ab_sto1_find ?_ (by decide) (fun _ hc => by cases hc)
        rw [← hlA]
        exact ab_sto1_find hv (by decide) (fun _ hc => by cases hc)
      · refine ab_sto1_find ?_ (by decide) (fun _ hc => by cases hc)
        rw [← hlA]
        exact ab_sto1_find hv (by decide) (fun _ hc => by cases hc)
    unfold rp_Q at z2
    cases hk : rp_k g w i with
    | none =>
      rw [hk] at z2
      exact fail _ z2.1 (by simp only [rp_lp, hk]) z2.2
    | some q =>
      obtain ⟨k, n⟩ := q
      have hkl := rp_k_le hk
      rw [hk] at z2
      simp only at z2
      cases hd : rp_d g w (i + n) with
      | none =>
        rw [hd] at z2
        exact fail _ z2.1 (by simp only [rp_lp, hk, hd]) z2.2
      | some d =>
        rw [hd] at z2
        obtain ⟨rfl, hS', y86, y87⟩ := z2
        have hdl := rp_d_lt hd
        generalize hlA : px_st1 lv 3 (.int 1) = lvA
        have a0 : px_find 0 lvA = some (.ref 69) := by rw [← hlA]; exact px_st1_nr l0
        have a3 : px_find 3 lvA = some (.int 1) := by rw [← hlA]; exact px_st1_at _ _ _
        have keep1 : ∀ v, px_find 1 lv = some (.int v) → px_find 1 lvA = some (.int v) := fun v hv => by rw [← hlA]; exact ab_sto1_find hv (by decide) (fun _ hc => by cases hc)
        have keep2 : ∀ v, px_find 2 lv = some (.int v) → px_find 2 lvA = some (.int v) := fun v hv => by rw [← hlA]; exact ab_sto1_find hv (by decide) (fun _ hc => by cases hc)
        refine rp_z (fun r' h' h => px_Z_its (pc1 := 53) (lv1 := lvA) (st1 := []) (hp1 := h9) 1 (fun _ _ _ _ => by rw [← hlA]; rfl) (px_q_iln (len := 1) (j := 3) rfl a3 (px_q_if (bb := false) (len := 3) (c := .eq) (off := 16) rfl (by decide) (px_q_aln (pc := 57) (len := 1) (j := 0) rfl a0 (px_Z_its (pc1 := 60) (lv1 := lvA) (st1 := [.int 59, .ref 69]) (hp1 := h9) 1 (fun _ _ _ _ => rfl) h))))) ?_
        refine rp_c hS' (by omega) hw rfl rfl (by decide) (fun hp2 S2 f2 => ?_)
        have z3' : px_fr rp_ws rp_wa hp hp2 := px_fr_tr z3 (px_fr_mono f2 (by decide) (fun q hq => (by cases hq)))
        cases hb : rp_b g w (i + n + 1) 59 with
        | true =>
          rw [hb] at S2
          have hbl := rp_b_lt hb
          have hlp : rp_lp g w (m + 1) i c rk rd = rp_lp g w m (i + n + 2) (c + 1) (upd rk c k) (upd rd c d) := by
            simp only [rp_lp, hk, hd, hb, cond_true]
          rw [hlp] at cont
          refine rp_z (fun r' h' h => px_q_if (bb := false) (len := 3) (c := .eq) (off := 7) rfl (by decide) (px_Z_its (pc1 := 43) (lv1 := px_st1 lvA 4 (.int 1)) (st1 := []) (hp1 := hp2) 4 (fun _ _ _ _ => rfl) h)) ?_
          refine ih (i + n + 2) (c + 1) (upd rk c k) (upd rd c d) (px_st1 lvA 4 (.int 1)) hp2 S2 (by omega) (by omega) (by omega) (f2.1 _ _ (by decide) y86) (f2.1 _ _ (by decide) y87) (px_st1_nr a0) (px_st1_at _ _ _) (fun lv' hp' b0 b1 b2 b3 b4 b5 b6 => ?_)
          exact cont lv' hp' b0 (fun v hv => b1 v (ab_sto1_find (keep1 v hv) (by decide) (fun _ hc => by cases hc))) (fun v hv => b2 v (ab_sto1_find (keep2 v hv) (by decide) (fun _ hc => by cases hc))) b3 b4 b5 (px_fr_tr z3' b6)
        | false =>
          rw [hb] at S2
          have hlp : rp_lp g w (m + 1) i c rk rd = (true, i + n + 1, c + 1, upd rk c k, upd rd c d) := by
            simp only [rp_lp, hk, hd, hb, cond_false]
          rw [hlp] at cont
          refine rp_z (fun r' h' h => px_q_if (bb := true) (len := 3) (c := .eq) (off := 7) rfl (by decide) (px_Z_its (pc1 := 43) (lv1 := px_st1 lvA 4 (.int 0)) (st1 := []) (hp1 := hp2) 3 (fun _ _ _ _ => rfl) (px_q_il (len := 2) (j := 4) rfl (px_st1_at _ _ _) (px_q_if (bb := true) (len := 3) (c := .eq) (off := 31) rfl (by decide) h)))) ?_
          exact cont _ hp2 (px_st1_nr a0) (fun v hv => ab_sto1_find (keep1 v hv) (by decide) (fun _ hc => by cases hc)) (fun v hv => ab_sto1_find (keep2 v hv) (by decide) (fun _ hc => by cases hc)) (ab_sto1_find a3 (by decide) (fun _ hc => by cases hc)) S2 (fun _ => ⟨f2.1 _ _ (by decide) y86, f2.1 _ _ (by decide) y87⟩) z3'
/-- what is answered -/
def rp_ans (n w : Nat) (goes : Bool) (a c : Nat) : Int := if 20 < n ∧ ((goes = true ∧ a = w) ∨ 20 ≤ a) then -21 else if goes = true ∧ a = w then (c : Int) else -1 - (a : Int)
def rp_A133 (c : Int) : ac_S := ([(0, ((2, 0, 0, [69]), none)), (1, ((0, 0, 3, []), none))], [], [(69, 27, 0, c, c, [])], [], [], [])
def rp_e133 (c : Int) : Bool := match ac_run nm_T nm_P nm_GH nm_FA [] [kl_M_readsRule_153] [] [81, 82, 83, 84] 20000 false [] mi_M_readsRule mm_M_readsRule 133 (rp_A133 c) with
  | some (os, []) => os.all (ex_rt c)
  | _ => false
set_option maxRecDepth 1000000 in
theorem rp_133_t : (List.range 8).all (fun c => rp_e133 (c : Nat)) = true := by decide +kernel
abbrev rp_wl : List Nat := [81, 82, 83, 84]
theorem rp_end {hp : px_H} {lv : List (Nat × Value)} {n w a c : Nat} {goes : Bool} {g : Nat → Int32} {pl : Int32} (hS : rp_S a w c g hp) (hn : n ≤ 40) (hw : w = min n 20) (ha : a ≤ w) (hc : c ≤ 7) (p0 : 0 ≤ pl.toInt) (p3 : pl.toInt ≤ 3) (l0 : px_find 0 lv = some (.ref 69)) (l1 : px_find 1 lv = some (.int pl)) (l2 : px_find 2 lv = some (.int (Int32.ofNat n))) (l3 : px_find 3 lv = some (.int (rp_i goes))) :
    rp_G mm_M_readsRule 76 lv [] hp (fun r h9 => ∃ v : Int32, r = some (.int v) ∧ v.toInt = rp_ans n w goes a c ∧ ab_h nm_GH h9 ∧ px_fr [] rp_wl hp h9) := by
  obtain ⟨hG, h1, h2, h3, h4⟩ := hS
  obtain ⟨fs, hx, -, -⟩ := ac_obj hG (c := 69) rfl
  have e1 := dr_fvo hx h1
  have e2 := dr_fvo hx h2
  have ea := nm_ofNat_toInt a (by omega)
  have ew := nm_ofNat_toInt w (by omega)
  have en := nm_ofNat_toInt n (by omega)
  -- local 5
  have T : ∀ (is : Bool), (is = true ↔ (goes = true ∧ a = w)) → rp_G mm_M_readsRule 98 (px_st1 lv 5 (.int (rp_i is))) [] hp (fun r h9 => ∃ v : Int32, r = some (.int v) ∧ v.toInt = rp_ans n w goes a c ∧ ab_h nm_GH h9 ∧ px_fr [] rp_wl hp h9) := by
    intro is his
    generalize hlA : px_st1 lv 5 (.int (rp_i is)) = lvA
    have a0 : px_find 0 lvA = some (.ref 69) := by rw [← hlA]; exact px_st1_nr l0
    have a1 : px_find 1 lvA = some (.int pl) := by rw [← hlA]; exact ab_sto1_find l1 (by decide) (fun _ hc => by cases hc)
    have a2 : px_find 2 lvA = some (.int (Int32.ofNat n)) := by rw [← hlA]; exact ab_sto1_find l2 (by decide) (fun _ hc => by cases hc)
    have a5 : px_find 5 lvA = some (.int (rp_i is)) := by rw [← hlA]; exact px_st1_at _ _ _
    have s121 : ¬ (20 < n ∧ ((goes = true ∧ a = w) ∨ 20 ≤ a)) → rp_G mm_M_readsRule 121 lvA [] hp (fun r h9 => ∃ v : Int32, r = some (.int v) ∧ v.toInt = rp_ans n w goes a c ∧ ab_h nm_GH h9 ∧ px_fr [] rp_wl hp h9) := by
      intro hno
      cases is with
      | false =>
        have hg : ¬ (goes = true ∧ a = w) := fun h => by have := his.mpr h; cases this
        have hv : (Int32.ofInt (-1) - Int32.ofNat a).toInt = -1 - (a : Int) := by
          rw [Int32.toInt_sub, ea, show (Int32.ofInt (-1)).toInt = -1 from by decide]
          apply Int.bmod_eq_of_le <;> omega
        refine ⟨_, hp, px_q_il (len := 2) (j := 5) rfl a5 (px_q_if (bb := false) (len := 3) (c := .ne) (off := 10) rfl (by decide) (px_Z_its (pc1 := 127) (lv1 := lvA) (st1 := [.int (Int32.ofInt (-1))]) (hp1 := hp) 1 (fun _ _ _ _ => rfl) (px_q_aln (len := 1) (j := 0) rfl a0 (px_q_get (len := 3) (ci := 9) (k := 23) (fs := fs) (v := .int (Int32.ofNat a)) rfl rfl hx e1 (px_Z_its (pc1 := 132) (lv1 := lvA) (st1 := [.int (Int32.ofInt (-1) - Int32.ofNat a)]) (hp1 := hp) 1 (fun _ _ _ _ => rfl) (px_q_iret (len := 1) (ty := .int) rfl rfl rfl)))))), _, rfl, ?_, hG, px_fr_rf _ _ _⟩
        rw [hv]
        unfold rp_ans
        rw [if_neg hno, if_neg hg]
      | true =>
        have hg := his.mp rfl
        have t := List.all_eq_true.mp rp_133_t c (List.mem_range.mpr (by omega))
        unfold rp_e133 at t
        split at t
        rotate_left
        · cases t
        rename_i os hos
        have ec := nm_ofNat_toInt c (by omega)
        have hlv : ab_lv (fun _ => 0) hp (rp_A133 (c : Nat)).1 lvA := by
          intro k z hz
          simp only [rp_A133, List.mem_cons, Prod.mk.injEq, List.not_mem_nil, or_false] at hz
          rcases hz with ⟨rfl, rfl⟩ | ⟨rfl, rfl⟩
          · exact ⟨_, a0, ⟨rfl, List.mem_cons_self⟩, ab_o_none _ _ _ _⟩
          · exact ⟨_, a1, ⟨rfl, p0, p3⟩, ab_o_none _ _ _ _⟩
        obtain ⟨r, hp', q, n1, n2, n3, n4⟩ := ex_goOn (fun _ h => absurd h List.not_mem_nil) hos (xs := fun _ => 0) (γ := fun _ => 0) (lv := lvA) (st := []) (hp := hp) ⟨hlv, trivial, hG, ex_ov1 h4 (by omega) (by omega), fun j q hq => (by simp [rp_A133] at hq), fun i hi => (by cases hi), fun q hq => (by cases hq)⟩
        obtain ⟨v, rfl, hv⟩ := ex_rt_ok (List.all_eq_true.mp t q n1) n3
        refine ⟨_, hp', px_q_il (len := 2) (j := 5) rfl a5 (px_q_if (bb := true) (len := 3) (c := .ne) (off := 10) rfl (by decide) n2), v, rfl, ?_, n3.2.1, n4⟩
        rw [hv]
        unfold rp_ans
        rw [if_neg hno, if_pos hg]
    by_cases h20 : 20 < n
    · refine rp_z (fun r h9 h => px_q_iln (len := 1) (j := 2) rfl a2 (px_Z_its (pc1 := 101) (lv1 := lvA) (st1 := [.int 20, .int (Int32.ofNat n)]) (hp1 := hp) 1 (fun _ _ _ _ => rfl) (px_q_icmp (bb := false) (len := 3) (c := .le) (off := 20) rfl (by simp only [px_cmp, decide_eq_false_iff_not, Int32.le_iff_toInt_le, en, show (20 : Int32).toInt = 20 from rfl]; omega) (px_q_il (pc := 104) (len := 2) (j := 5) rfl a5 h)))) ?_
      have s118 : (20 < n ∧ ((goes = true ∧ a = w) ∨ 20 ≤ a)) → rp_G mm_M_readsRule 118 lvA [] hp (fun r h9 => ∃ v : Int32, r = some (.int v) ∧ v.toInt = rp_ans n w goes a c ∧ ab_h nm_GH h9 ∧ px_fr [] rp_wl hp h9) := by
        intro hy
        refine ⟨_, hp, px_Z_its (pc1 := 120) (lv1 := lvA) (st1 := [.int (Int32.ofInt (-21))]) (hp1 := hp) 1 (fun _ _ _ _ => rfl) (px_q_iret (len := 1) (ty := .int) rfl rfl rfl), _, rfl, ?_, hG, px_fr_rf _ _ _⟩
        unfold rp_ans
        rw [if_pos hy]
        decide
      cases is with
      | true =>
        refine rp_z (fun r h9 h => px_q_if (bb := true) (len := 3) (c := .ne) (off := 12) rfl (by decide) h) ?_
        exact s118 ⟨h20, Or.inl (his.mp rfl)⟩
      | false =>
        have hg : ¬ (goes = true ∧ a = w) := fun h => by have := his.mpr h; cases this
        refine rp_z (fun r h9 h => px_q_if (bb := false) (len := 3) (c := .ne) (off := 12) rfl (by decide) (px_q_aln (pc := 109) (len := 1) (j := 0) rfl a0 (px_q_get (len := 3) (ci := 9) (k := 23) (fs := fs) (v := .int (Int32.ofNat a)) rfl rfl hx e1 (px_Z_its (pc1 := 115) (lv1 := lvA) (st1 := [.int 20, .int (Int32.ofNat a)]) (hp1 := hp) 1 (fun _ _ _ _ => rfl) h)))) ?_
        by_cases ha20 : 20 ≤ a
        · refine rp_z (fun r h9 h => px_q_icmp (bb := false) (len := 3) (c := .lt) (off := 6) rfl (by simp only [px_cmp, decide_eq_false_iff_not, Int32.lt_iff_toInt_lt, ea, show (20 : Int32).toInt = 20 from rfl]; omega) h) ?_
          exact s118 ⟨h20, Or.inr ha20⟩
        · refine rp_z (fun r h9 h => px_q_icmp (bb := true) (len := 3) (c := .lt) (off := 6) rfl (by simp only [px_cmp, decide_eq_true_eq, Int32.lt_iff_toInt_lt, ea, show (20 : Int32).toInt = 20 from rfl]; omega) h) ?_
          exact s121 (fun h => by rcases h.2 with h | h; exact hg h; exact ha20 h)
    · refine rp_z (fun r h9 h => px_q_iln (len := 1) (j := 2) rfl a2 (px_Z_its (pc1 := 101) (lv1 := lvA) (st1 := [.int 20, .int (Int32.ofNat n)]) (hp1 := hp) 1 (fun _ _ _ _ => rfl) (px_q_icmp (bb := true) (len := 3) (c := .le) (off := 20) rfl (by simp only [px_cmp, decide_eq_true_eq, Int32.le_iff_toInt_le, en, show (20 : Int32).toInt = 20 from rfl]; omega) h))) ?_
      exact s121 (fun h => h20 h.1)
  have s95 : ¬ (goes = true ∧ a = w) → rp_G mm_M_readsRule 95 lv [] hp (fun r h9 => ∃ v : Int32, r = some (.int v) ∧ v.toInt = rp_ans n w goes a c ∧ ab_h nm_GH h9 ∧ px_fr [] rp_wl hp h9) := by
    intro h
    refine rp_z (fun r h9 hz => px_Z_its (pc1 := 98) (lv1 := px_st1 lv 5 (.int (rp_i false))) (st1 := []) (hp1 := hp) 2 (fun _ _ _ _ => rfl) hz) ?_
    exact T false ⟨fun e => (by cases e), fun e => absurd e h⟩
  cases goes with
  | false =>
    refine rp_z (fun r h9 h => px_q_iln (len := 1) (j := 3) rfl l3 (px_q_if (bb := true) (len := 3) (c := .eq) (off := 18) rfl (by decide) h)) ?_
    exact s95 (fun h => by cases h.1)
  | true =>
    refine rp_z (fun r h9 h => px_q_iln (len := 1) (j := 3) rfl l3 (px_q_if (bb := false) (len := 3) (c := .eq) (off := 18) rfl (by decide) (px_q_aln (pc := 80) (len := 1) (j := 0) rfl l0 (px_q_get (len := 3) (ci := 9) (k := 23) (fs := fs) (v := .int (Int32.ofNat a)) rfl rfl hx e1 (px_q_aln (len := 1) (j := 0) rfl l0 (px_q_get (len := 3) (ci := 9) (k := 24) (fs := fs) (v := .int (Int32.ofNat w)) rfl rfl hx e2 h)))))) ?_
    by_cases haw : a = w
    · refine rp_z (fun r h9 h => px_q_icmp (bb := false) (len := 3) (c := .ne) (off := 7) rfl (by show decide (¬ Int32.ofNat a = Int32.ofNat w) = false; simp [haw]) (px_Z_its (pc1 := 98) (lv1 := px_st1 lv 5 (.int (rp_i true))) (st1 := []) (hp1 := hp) 3 (fun _ _ _ _ => rfl) h)) ?_
      exact T true ⟨fun _ => ⟨rfl, haw⟩, fun _ => rfl⟩
    · refine rp_z (fun r h9 h => px_q_icmp (bb := true) (len := 3) (c := .ne) (off := 7) rfl (by
        show decide (¬ Int32.ofNat a = Int32.ofNat w) = true
        rw [decide_eq_true_eq]
        intro e
        have := congrArg Int32.toInt e
        rw [ea, ew] at this
        omega) h) ?_
      exact s95 (fun h => haw h.2)
theorem rp_lp_bd {g : Nat → Int32} {w : Nat} : ∀ (m i c : Nat) (rk rd : Nat → Int32), i ≤ w → 3 * c ≤ i → (rp_lp g w m i c rk rd).2.1 ≤ w ∧ 3 * (rp_lp g w m i c rk rd).2.2.1 ≤ (rp_lp g w m i c rk rd).2.1 + 1
  | 0, i, c, rk, rd, h1, h2 => ⟨h1, by show 3 * c ≤ i + 1; omega⟩
  | m + 1, i, c, rk, rd, h1, h2 => by
    unfold rp_lp
    cases hk : rp_k g w i with
    | none =>
      simp only
      have : rp_kf g w i ≤ w ∧ i ≤ rp_kf g w i := by
        unfold rp_kf
        cases hb : rp_b g w i 115 with
        | true => have := rp_b_lt hb; show i + 1 ≤ w ∧ i ≤ i + 1; omega
        | false => show i + 0 ≤ w ∧ i ≤ i + 0; omega
      omega
    | some q =>
      obtain ⟨k, n⟩ := q
      have hl := rp_k_le hk
      simp only
      cases hd : rp_d g w (i + n) with
      | none => simp only; omega
      | some d =>
        have hdl := rp_d_lt hd
        simp only
        cases hb : rp_b g w (i + n + 1) 59 with
        | true =>
          have hbl := rp_b_lt hb
          simp only [cond_true]
          exact rp_lp_bd m (i + n + 2) (c + 1) _ _ (by omega) (by omega)
        | false =>
          simp only [cond_false]
          omega
def rp_B43 (n : Int) : ac_S := ([(0, ((2, 0, 0, [69]), none)), (1, ((0, 0, 3, []), some (2, 1, 0))), (2, ((0, n, n, []), none)), (3, ((0, 1, 1, []), none)), (4, ((0, min n 1, min n 1, []), none))], [], [(69, 22, 0, 0, 0, []), (69, 23, 0, 0, 0, []), (69, 24, 0, min n 20, min n 20, []), (69, 27, 0, 0, 0, [])], [], [], [])
def rp_e0 (n : Int) : Bool := match ex_runS [] [] [(69, 22), (69, 23), (69, 24), (69, 27)] [] mi_M_readsRule mm_M_readsRule kc_M_readsRule_0.2.1 [(69, 22, 0, n, n, [])] [43] with
  | some o => o.1.isEmpty && o.2.all (fun q => Nat.beq q.1 43 && ac_le nm_GH none q.2 (rp_B43 n))
  | none => false
set_option maxRecDepth 1000000 in
theorem rp_0_t : (List.range 41).all (fun n => rp_e0 (n : Nat)) = true := by decide +kernel
/-- the model's answer to a text of n signs g -/
def rp_MA (n : Nat) (g rk rd : Nat → Int32) : Int := if n = 0 then 0 else rp_ans n (min n 20) (rp_lp g (min n 20) 7 0 0 rk rd).1 (rp_lp g (min n 20) 7 0 0 rk rd).2.1 (rp_lp g (min n 20) 7 0 0 rk rd).2.2.1
theorem rp_M {hp : px_H} {pl : Int32} {n : Nat} {g : Nat → Int32} (hG : ab_h nm_GH hp) (hn : ac_fv hp 69 22 = some (.int (Int32.ofNat n))) (hn4 : n ≤ 40) (ht : hp[na_tape]? = some (.inl (nr_tape, 40, .inl g))) (p0 : 0 ≤ pl.toInt) (p3 : pl.toInt ≤ 3) :
    ∃ (v w0 : Int32) (hp' : px_H) (rk rd : Nat → Int32), px_C nm_T nm_P mi_M_readsRule [.ref 69, .int pl] hp (some (.int v)) hp' ∧ v.toInt = rp_MA n g rk rd ∧ ab_h nm_GH hp' ∧ ac_fv hp' 69 22 = some (.int w0) ∧ w0.toInt = 0 ∧ px_fr kc_M_readsRule_0.2.2.2.2.1 kc_M_readsRule_0.2.2.2.2.2 hp hp' := by
  have en := nm_ofNat_toInt n (by omega)
  have t := List.all_eq_true.mp rp_0_t n (List.mem_range.mpr (by omega))
  unfold rp_e0 at t
  split at t
  rotate_left
  · cases t
  rename_i o ho
  simp only [Bool.and_eq_true, List.all_eq_true, List.isEmpty_iff] at t
  rcases ex_runS_ok (fun _ h => absurd h List.not_mem_nil) rfl (Nat.le_of_ble_eq_true rfl) ho hG (av := [.ref 69, .int pl]) ⟨⟨rfl, List.mem_cons_self⟩, ⟨rfl, p0, p3⟩, trivial⟩ (ex_ov1 hn (by omega) (by omega)) with ⟨r, hp', q, m1, -⟩ | ⟨pc', lv, st, hp1, A', m1, m2, m3, m4⟩
  · rw [t.1] at m1
    cases m1
  obtain ⟨q1, q2⟩ := t.2 _ m1
  have q1 := Nat.eq_of_beq_eq_true q1
  simp only at q1
  subst q1
  obtain ⟨γ2, -, h9, -⟩ := ac_le_ok q2 m2
  obtain ⟨b1, b2, b3, b4, -⟩ := h9
  have est : st = [] := by
    cases st with
    | nil => rfl
    | cons v s => exact absurd b2 (by simp [rp_B43, ab_st])
  subst est
  have mem5 : ∀ {a b c d e : Nat × ab_V}, a ∈ [a, b, c, d, e] ∧ b ∈ [a, b, c, d, e] ∧ c ∈ [a, b, c, d, e] ∧ d ∈ [a, b, c, d, e] ∧ e ∈ [a, b, c, d, e] := by simp
  have mem4 : ∀ {a b c d : ac_O}, a ∈ [a, b, c, d] ∧ b ∈ [a, b, c, d] ∧ c ∈ [a, b, c, d] ∧ d ∈ [a, b, c, d] := by simp
  obtain ⟨u0, l0, o0⟩ := b1 0 _ mem5.1
  obtain ⟨u1, l1, o1⟩ := b1 1 _ mem5.2.1
  obtain ⟨u2, l2, o2⟩ := b1 2 _ mem5.2.2.1
  obtain ⟨u3, l3, o3⟩ := b1 3 _ mem5.2.2.2.1
  obtain ⟨u4, l4, o4⟩ := b1 4 _ mem5.2.2.2.2
  obtain ⟨c0, rfl, e0⟩ := ab_f2 o0.1
  cases List.mem_singleton.mp e0
  obtain ⟨rfl, -, -⟩ := ex_org o1
  have xp : ac_xs [.ref 69, .int pl] 1 = pl := rfl
  rw [xp] at l1
  have ex1 : ∀ {x : Int32} {k : Nat}, k ≤ 40 → ab_in ((k : Int), (k : Int)) x.toInt → x = Int32.ofNat k := by
    intro x k hk hx
    have a1 : (k : Int) ≤ x.toInt := hx.1
    have a2 : x.toInt ≤ (k : Int) := hx.2
    rw [← Int32.toInt_inj, nm_ofNat_toInt k (by omega)]
    omega
  obtain ⟨x2, rfl, i2⟩ := ab_f0 o2.1
  obtain ⟨x3, rfl, i3⟩ := ab_f0 o3.1
  obtain ⟨x4, rfl, i4⟩ := ab_f0 o4.1
  have i2 := ex1 hn4 i2
  have i3 := ex1 (k := 1) (by decide) i3
  have i4 := ex1 (x := x4) (k := min n 1) (by omega) (by
    have a1 : min (n : Int) 1 ≤ x4.toInt := i4.1
    have a2 : x4.toInt ≤ min (n : Int) 1 := i4.2
    exact ⟨by omega, by omega⟩)
  subst i2 i3 i4
  -- the fields
  have fld : ∀ (k m : Nat) (lo hi : Int), (69, k, 0, lo, hi, []) ∈ (rp_B43 (n : Nat)).2.2.1 → ex_isI 69 k = true → m ≤ 40 → lo = (m : Int) → hi = (m : Int) → ac_fv hp1 69 k = some (.int (Int32.ofNat m)) := by
    intro k m lo hi hm hI hm4 hl hh
    obtain ⟨z, z1, -⟩ := ex_fv hI b3
    have := b4 _ hm _ z1
    subst hl hh
    rw [z1, ex1 hm4 this.2]
  have v22 := fld 22 0 0 0 mem4.1 (by decide +kernel) (by decide) rfl rfl
  have v23 := fld 23 0 0 0 mem4.2.1 (by decide +kernel) (by decide) rfl rfl
  have v24 := fld 24 (min n 20) _ _ mem4.2.2.1 (by decide +kernel) (by omega) (by omega) (by omega)
  have v27 := fld 27 0 0 0 mem4.2.2.2 (by decide +kernel) (by decide) rfl rfl
  have ht1 : hp1[na_tape]? = some (.inl (nr_tape, 40, .inl g)) := m3.1 _ _ (by decide) ht
  obtain ⟨rk, h86, -⟩ := ac_arrI b3 (c := na_readKind) (t := nr_readKind) (n := 8) (lo := -2147483648) (hi := 2147483647) (Nat.le_of_ble_eq_true rfl) rfl
  obtain ⟨rd, h87, -⟩ := ac_arrI b3 (c := na_readDoes) (t := nr_readDoes) (n := 8) (lo := -2147483648) (hi := 2147483647) (Nat.le_of_ble_eq_true rfl) rfl
  have hS : rp_S 0 (min n 20) 0 g hp1 := ⟨b3, v23, v24, ht1, v27⟩
  have fin : ∀ (lv' : List (Nat × Value)) (hp2 : px_H) (goes : Bool) (a c : Nat), px_find 0 lv' = some (.ref 69) → px_find 1 lv' = some (.int pl) → px_find 2 lv' = some (.int (Int32.ofNat n)) → px_find 3 lv' = some (.int (rp_i goes)) → rp_S a (min n 20) c g hp2 → a ≤ min n 20 → c ≤ 7 → px_fr rp_ws rp_wa hp1 hp2 → rp_ans n (min n 20) goes a c = rp_MA n g rk rd → rp_G mm_M_readsRule 76 lv' [] hp2 (fun r h9 => ∃ v w0 : Int32, r = some (.int v) ∧ v.toInt = rp_MA n g rk rd ∧ ab_h nm_GH h9 ∧ ac_fv h9 69 22 = some (.int w0) ∧ w0.toInt = 0 ∧ px_fr kc_M_readsRule_0.2.2.2.2.1 kc_M_readsRule_0.2.2.2.2.2 hp h9) := by
    intro lv' hp2 goes a c k0 k1 k2 k3 S2 ha hc f2 hans
    obtain ⟨r, h9, z1, v, rfl, z3, z4, z5⟩ := rp_end (pl := pl) S2 hn4 rfl ha hc p0 p3 k0 k1 k2 k3
    refine ⟨_, h9, z1, v, Int32.ofNat 0, rfl, by rw [z3, hans], z4, ex_fv_fr z5 (by decide) (ex_fv_fr f2 (by decide) v22), by decide, ?_⟩
    exact px_fr_tr (px_fr_mono m3 (by decide) (fun q hq => (by cases hq))) (px_fr_tr (px_fr_mono f2 (by decide) (by decide)) (px_fr_mono z5 (fun q hq => (by cases hq)) (by decide)))
  have go : rp_G mm_M_readsRule 43 lv [] hp1 (fun r h9 => ∃ v w0 : Int32, r = some (.int v) ∧ v.toInt = rp_MA n g rk rd ∧ ab_h nm_GH h9 ∧ ac_fv h9 69 22 = some (.int w0) ∧ w0.toInt = 0 ∧ px_fr kc_M_readsRule_0.2.2.2.2.1 kc_M_readsRule_0.2.2.2.2.2 hp h9) := by
    by_cases h0 : n = 0
    · subst h0
      refine rp_z (fun r h9 h => px_q_il (len := 2) (j := 4) rfl l4 (px_q_if (bb := true) (len := 3) (c := .eq) (off := 31) rfl (by decide) h)) ?_
      exact fin lv hp1 true 0 0 l0 l1 l2 l3 hS (by omega) (by omega) (px_fr_rf _ _ _) (by unfold rp_MA rp_ans; simp)
    · have l4' : px_find 4 lv = some (.int 1) := by
        rw [l4, show min n 1 = 1 from by omega]
        rfl
      refine rp_loop (by omega) 7 0 0 rk rd lv hp1 hS (by omega) (by omega) (by omega) h86 h87 l0 l4' (fun lv' hp2 k0 k1 k2 k3 S2 _ f2 => ?_)
      have bd := rp_lp_bd (g := g) (w := min n 20) 7 0 0 rk rd (by omega) (by omega)
      exact fin lv' hp2 _ _ _ k0 (k1 _ l1) (k2 _ l2) k3 S2 bd.1 (by omega) f2 (by unfold rp_MA; rw [if_neg h0])
  obtain ⟨r, h9, z1, v, w0, rfl, z3, z4, z5, z6, z7⟩ := go
  exact ⟨v, w0, h9, rk, rd, m4 _ _ z1, z3, z4, z5, z6, z7⟩
end mg_5

section mg_6
/-! the class looks a text through -/
section px_q10
variable {T : px_T} {X : Option (Nat × (Nat → Int32))} {P : List px_M} {M : px_M}
variable {pc len : Nat} {lv : List (Nat × Value)} {st : List Value} {hp hp' : px_H} {r : Option Value}
theorem px_q_tsw {dflt lo hi : Int} {offs : Array Int} {x : Int32} {k : Nat} {off : Int} (hf : px_find pc (px_cd M) = some (len, .tableswitch dflt lo hi offs)) (e1 : (decide (x.toInt < lo) || decide (hi < x.toInt)) = false) (e2 : (x.toInt - lo).toNat = k) (ho : offs[k]? = some off) (hR : px_Z T X P M (px_tgt pc off) lv st hp r hp') : px_Z T X P M pc lv (.int x :: st) hp r hp' :=
  px_Z_its 1 (fun call N0 nc ns => by simp only [px_its, px_step, hf, px_alu, e1, e2, ho]) hR
theorem px_q_tsd {dflt lo hi : Int} {offs : Array Int} {x : Int32} (hf : px_find pc (px_cd M) = some (len, .tableswitch dflt lo hi offs)) (e1 : (decide (x.toInt < lo) || decide (hi < x.toInt)) = true) (hR : px_Z T X P M (px_tgt pc dflt) lv st hp r hp') : px_Z T X P M pc lv (.int x :: st) hp r hp' :=
  px_Z_its 1 (fun call N0 nc ns => by simp only [px_its, px_step, hf, px_alu, e1]) hR
end px_q10
/-- where a rule is behind a sign -/
def rp_bh (q : Nat) (s : Int32) : Option Nat := match q with
  | 0 => if s = 115 then some 1 else if s = 107 ∨ s = 100 ∨ s = 119 then some 2 else none
  | 1 => if 49 ≤ s.toInt ∧ s.toInt ≤ 54 then some 2 else none
  | 2 => if s = 98 ∨ s = 116 ∨ s = 108 then some 3 else none
  | _ => if s = 59 then some 0 else none
theorem rp_bh0 (s : Int32) : rp_bh 0 s = if s = 115 then some 1 else if s = 107 ∨ s = 100 ∨ s = 119 then some 2 else none := rfl
theorem rp_bh1 (s : Int32) : rp_bh 1 s = if 49 ≤ s.toInt ∧ s.toInt ≤ 54 then some 2 else none := rfl
theorem rp_bh2 (s : Int32) : rp_bh 2 s = if s = 98 ∨ s = 116 ∨ s = 108 then some 3 else none := rfl
theorem rp_bh3 (s : Int32) : rp_bh 3 s = if s = 59 then some 0 else none := rfl
def rp_bi (q : Option Nat) : Int32 := match q with
  | some q => Int32.ofNat q
  | none => Int32.ofInt (-1)
theorem rp_ne {x y : Int32} {b : Bool} (h : b = decide (¬ x = y)) : px_cmp .ne x y = b := h.symm
theorem rp_eq {x y : Int32} {b : Bool} (h : b = decide (x = y)) : px_cmp .eq x y = b := h.symm
theorem rp_behind {q : Nat} (hq : q ≤ 3) (s : Int32) (hp : px_H) : px_C nm_T nm_P mi_Text_behind [.int (Int32.ofNat q), .int s] hp (some (.int (rp_bi (rp_bh q s)))) hp := by
  refine px_C_of (N := mm_Text_behind) rfl (Nat.le_of_ble_eq_true rfl) ?_
  refine px_Z_its (pc1 := 1) (lv1 := [(0, .int (Int32.ofNat q)), (1, .int s)]) (st1 := [.int (Int32.ofNat q)]) (hp1 := hp) 1 (fun _ _ _ _ => rfl) ?_
  match q, hq with
  | 0, _ =>
    refine px_q_tsw (k := 0) (off := 27) rfl (by decide) (by decide) rfl ?_
    refine px_Z_its (pc1 := 31) (lv1 := [(0, .int (Int32.ofNat 0)), (1, .int s)]) (st1 := [.int 115, .int s]) (hp1 := hp) 2 (fun _ _ _ _ => rfl) ?_
    by_cases h1 : s = 115
    · rw [show rp_bh 0 s = some 1 from by rw [rp_bh0, if_pos h1]]
      refine px_q_icmp (bb := false) (len := 3) (c := .ne) (off := 5) rfl (rp_ne (by simp [h1])) ?_
      refine px_Z_its (pc1 := 35) (lv1 := [(0, .int (Int32.ofNat 0)), (1, .int s)]) (st1 := [.int (rp_bi (some 1))]) (hp1 := hp) 1 (fun _ _ _ _ => rfl) ?_
      exact px_q_iret (len := 1) (ty := .int) rfl rfl rfl
    refine px_q_icmp (bb := true) (len := 3) (c := .ne) (off := 5) rfl (rp_ne (by simp [h1])) ?_
    refine px_Z_its (pc1 := 39) (lv1 := [(0, .int (Int32.ofNat 0)), (1, .int s)]) (st1 := [.int 107, .int s]) (hp1 := hp) 2 (fun _ _ _ _ => rfl) ?_
    have yes : (s = 107 ∨ s = 100 ∨ s = 119) → px_Z nm_T none nm_P mm_Text_behind 54 [(0, .int (Int32.ofNat 0)), (1, .int s)] [] hp (some (.int (rp_bi (rp_bh 0 s)))) hp := by
      intro h
      rw [show rp_bh 0 s = some 2 from by rw [rp_bh0, if_neg h1, if_pos h]]
      refine px_Z_its (pc1 := 59) (lv1 := [(0, .int (Int32.ofNat 0)), (1, .int s)]) (st1 := [.int (rp_bi (some 2))]) (hp1 := hp) 2 (fun _ _ _ _ => rfl) ?_
      exact px_q_iret (len := 1) (ty := .int) rfl rfl rfl
    by_cases h2 : s = 107
    · exact px_q_icmp (bb := true) (len := 3) (c := .eq) (off := 15) rfl (rp_eq (by simp [h2])) (yes (Or.inl h2))
    refine px_q_icmp (bb := false) (len := 3) (c := .eq) (off := 15) rfl (rp_eq (by simp [h2])) ?_
    refine px_Z_its (pc1 := 45) (lv1 := [(0, .int (Int32.ofNat 0)), (1, .int s)]) (st1 := [.int 100, .int s]) (hp1 := hp) 2 (fun _ _ _ _ => rfl) ?_
    by_cases h3 : s = 100
    · exact px_q_icmp (bb := true) (len := 3) (c := .eq) (off := 9) rfl (rp_eq (by simp [h3])) (yes (Or.inr (Or.inl h3)))
    refine px_q_icmp (bb := false) (len := 3) (c := .eq) (off := 9) rfl (rp_eq (by simp [h3])) ?_
    refine px_Z_its (pc1 := 51) (lv1 := [(0, .int (Int32.ofNat 0)), (1, .int s)]) (st1 := [.int 119, .int s]) (hp1 := hp) 2 (fun _ _ _ _ => rfl) ?_
    by_cases h4 : s = 119
    · exact px_q_icmp (bb := false) (len := 3) (c := .ne) (off := 7) rfl (rp_ne (by simp [h4])) (yes (Or.inr (Or.inr h4)))
    refine px_q_icmp (bb := true) (len := 3) (c := .ne) (off := 7) rfl (rp_ne (by simp [h4])) ?_
    rw [show rp_bh 0 s = none from by rw [rp_bh0, if_neg h1, if_neg (by rintro (h | h | h); exact h2 h; exact h3 h; exact h4 h)]]
    refine px_Z_its (pc1 := 59) (lv1 := [(0, .int (Int32.ofNat 0)), (1, .int s)]) (st1 := [.int (rp_bi none)]) (hp1 := hp) 1 (fun _ _ _ _ => rfl) ?_
    exact px_q_iret (len := 1) (ty := .int) rfl rfl rfl
  | 1, _ =>
    refine px_q_tsw (k := 1) (off := 59) rfl (by decide) (by decide) rfl ?_
    refine px_Z_its (pc1 := 63) (lv1 := [(0, .int (Int32.ofNat 1)), (1, .int s)]) (st1 := [.int 49, .int s]) (hp1 := hp) 2 (fun _ _ _ _ => rfl) ?_
    have no : ¬ (49 ≤ s.toInt ∧ s.toInt ≤ 54) → px_Z nm_T none nm_P mm_Text_behind 76 [(0, .int (Int32.ofNat 1)), (1, .int s)] [] hp (some (.int (rp_bi (rp_bh 1 s)))) hp := by
      intro h
      rw [show rp_bh 1 s = none from by rw [rp_bh1, if_neg h]]
      refine px_Z_its (pc1 := 77) (lv1 := [(0, .int (Int32.ofNat 1)), (1, .int s)]) (st1 := [.int (rp_bi none)]) (hp1 := hp) 1 (fun _ _ _ _ => rfl) ?_
      exact px_q_iret (len := 1) (ty := .int) rfl rfl rfl
    by_cases h1 : s.toInt < 49
    · exact px_q_icmp (bb := true) (len := 3) (c := .lt) (off := 13) rfl (by simp only [px_cmp, decide_eq_true_eq, Int32.lt_iff_toInt_lt]; exact h1) (no (fun h => by omega))
    refine px_q_icmp (bb := false) (len := 3) (c := .lt) (off := 13) rfl (by simp only [px_cmp, decide_eq_false_iff_not, Int32.lt_iff_toInt_lt]; exact h1) ?_
    refine px_Z_its (pc1 := 69) (lv1 := [(0, .int (Int32.ofNat 1)), (1, .int s)]) (st1 := [.int 54, .int s]) (hp1 := hp) 2 (fun _ _ _ _ => rfl) ?_
    by_cases h2 : 54 < s.toInt
    · exact px_q_icmp (bb := true) (len := 3) (c := .gt) (off := 7) rfl (by simp only [px_cmp, decide_eq_true_eq, gt_iff_lt, Int32.lt_iff_toInt_lt]; exact h2) (no (fun h => by omega))
    refine px_q_icmp (bb := false) (len := 3) (c := .gt) (off := 7) rfl (by simp only [px_cmp, decide_eq_false_iff_not, gt_iff_lt, Int32.lt_iff_toInt_lt]; exact h2) ?_
    rw [show rp_bh 1 s = some 2 from by rw [rp_bh1, if_pos ⟨by omega, by omega⟩]]
    refine px_Z_its (pc1 := 77) (lv1 := [(0, .int (Int32.ofNat 1)), (1, .int s)]) (st1 := [.int (rp_bi (some 2))]) (hp1 := hp) 2 (fun _ _ _ _ => rfl) ?_
    exact px_q_iret (len := 1) (ty := .int) rfl rfl rfl
  | 2, _ =>
    refine px_q_tsw (k := 2) (off := 77) rfl (by decide) (by decide) rfl ?_
    refine px_Z_its (pc1 := 81) (lv1 := [(0, .int (Int32.ofNat 2)), (1, .int s)]) (st1 := [.int 98, .int s]) (hp1 := hp) 2 (fun _ _ _ _ => rfl) ?_
    have yes : (s = 98 ∨ s = 116 ∨ s = 108) → px_Z nm_T none nm_P mm_Text_behind 96 [(0, .int (Int32.ofNat 2)), (1, .int s)] [] hp (some (.int (rp_bi (rp_bh 2 s)))) hp := by
      intro h
      rw [show rp_bh 2 s = some 3 from by rw [rp_bh2, if_pos h]]
      refine px_Z_its (pc1 := 101) (lv1 := [(0, .int (Int32.ofNat 2)), (1, .int s)]) (st1 := [.int (rp_bi (some 3))]) (hp1 := hp) 2 (fun _ _ _ _ => rfl) ?_
      exact px_q_iret (len := 1) (ty := .int) rfl rfl rfl
    by_cases h2 : s = 98
    · exact px_q_icmp (bb := true) (len := 3) (c := .eq) (off := 15) rfl (rp_eq (by simp [h2])) (yes (Or.inl h2))
    refine px_q_icmp (bb := false) (len := 3) (c := .eq) (off := 15) rfl (rp_eq (by simp [h2])) ?_
    refine px_Z_its (pc1 := 87) (lv1 := [(0, .int (Int32.ofNat 2)), (1, .int s)]) (st1 := [.int 116, .int s]) (hp1 := hp) 2 (fun _ _ _ _ => rfl) ?_
    by_cases h3 : s = 116
    · exact px_q_icmp (bb := true) (len := 3) (c := .eq) (off := 9) rfl (rp_eq (by simp [h3])) (yes (Or.inr (Or.inl h3)))
    refine px_q_icmp (bb := false) (len := 3) (c := .eq) (off := 9) rfl (rp_eq (by simp [h3])) ?_
    refine px_Z_its (pc1 := 93) (lv1 := [(0, .int (Int32.ofNat 2)), (1, .int s)]) (st1 := [.int 108, .int s]) (hp1 := hp) 2 (fun _ _ _ _ => rfl) ?_
    by_cases h4 : s = 108
    · exact px_q_icmp (bb := false) (len := 3) (c := .ne) (off := 7) rfl (rp_ne (by simp [h4])) (yes (Or.inr (Or.inr h4)))
    refine px_q_icmp (bb := true) (len := 3) (c := .ne) (off := 7) rfl (rp_ne (by simp [h4])) ?_
    rw [show rp_bh 2 s = none from by rw [rp_bh2, if_neg (by rintro (h | h | h); exact h2 h; exact h3 h; exact h4 h)]]
    refine px_Z_its (pc1 := 101) (lv1 := [(0, .int (Int32.ofNat 2)), (1, .int s)]) (st1 := [.int (rp_bi none)]) (hp1 := hp) 1 (fun _ _ _ _ => rfl) ?_
    exact px_q_iret (len := 1) (ty := .int) rfl rfl rfl
  | 3, _ =>
    refine px_q_tsd rfl (by decide) ?_
    refine px_Z_its (pc1 := 105) (lv1 := [(0, .int (Int32.ofNat 3)), (1, .int s)]) (st1 := [.int 59, .int s]) (hp1 := hp) 2 (fun _ _ _ _ => rfl) ?_
    by_cases h4 : s = 59
    · rw [show rp_bh 3 s = some 0 from by rw [rp_bh3, if_pos h4]]
      refine px_q_icmp (bb := false) (len := 3) (c := .ne) (off := 7) rfl (rp_ne (by simp [h4])) ?_
      refine px_Z_its (pc1 := 113) (lv1 := [(0, .int (Int32.ofNat 3)), (1, .int s)]) (st1 := [.int (rp_bi (some 0))]) (hp1 := hp) 2 (fun _ _ _ _ => rfl) ?_
      exact px_q_iret (len := 1) (ty := .int) rfl rfl rfl
    rw [show rp_bh 3 s = none from by rw [rp_bh3, if_neg h4]]
    refine px_q_icmp (bb := true) (len := 3) (c := .ne) (off := 7) rfl (rp_ne (by simp [h4])) ?_
    refine px_Z_its (pc1 := 113) (lv1 := [(0, .int (Int32.ofNat 3)), (1, .int s)]) (st1 := [.int (rp_bi none)]) (hp1 := hp) 1 (fun _ _ _ _ => rfl) ?_
    exact px_q_iret (len := 1) (ty := .int) rfl rfl rfl
/-- the first fault, sign by sign -/
def xf_end (n q : Nat) : Int := if 20 < n then 20 else if n = 0 ∨ q = 3 then -1 else (n : Int)
def xf (g : Nat → Int32) (w n : Nat) : Nat → Nat → Nat → Int
  | 0, q, _ => xf_end n q
  | m + 1, q, i => if i < w then (match rp_bh q (g i) with
    | some q' => xf g w n m q' (i + 1)
    | none => (i : Int)) else xf_end n q
theorem rp_bh_le {q q' : Nat} {s : Int32} (h : rp_bh q s = some q') : q' ≤ 3 := by
  unfold rp_bh at h
  split at h
  · split at h
    · cases h; decide
    · split at h
      · cases h; decide
      · cases h
  · split at h
    · cases h; decide
    · cases h
  · split at h
    · cases h; decide
    · cases h
  · split at h
    · cases h; decide
    · cases h
theorem rp_ff {hp : px_H} {n w : Nat} {g : Nat → Int32} (hG : ab_h nm_GH hp) (hn : ac_fv hp 12 1 = some (.int (Int32.ofNat n))) (hn4 : n ≤ 40) (hw : w = min n 20) (hs : hp[13]? = some (.inl (11, 40, .inl g))) : ∀ (m q i : Nat) (lv : List (Nat × Value)), q ≤ 3 → i ≤ w → w < i + m → px_find 0 lv = some (.ref 12) → px_find 1 lv = some (.int (Int32.ofNat q)) → px_find 2 lv = some (.int (Int32.ofNat i)) →
    ∃ v : Int32, px_Z nm_T none nm_P mm_Text_firstFault 4 lv [] hp (some (.int v)) hp ∧ v.toInt = xf g w n m q i := by
  intro m
  obtain ⟨fs, hx, -, -⟩ := ac_obj hG (c := 12) rfl
  have hl := dr_fvo hx hn
  have en := nm_ofNat_toInt n (by omega)
  have hsg := ac_refF hG (ci := 5) (k := 0) (c := 12) (d := 13) rfl hx
  have fin : ∀ (q : Nat) (lv : List (Nat × Value)), q ≤ 3 → px_find 0 lv = some (.ref 12) → px_find 1 lv = some (.int (Int32.ofNat q)) → ∃ v : Int32, px_Z nm_T none nm_P mm_Text_firstFault 41 lv [] hp (some (.int v)) hp ∧ v.toInt = xf_end n q := by
    intro q lv hq l0 l1
    have eq := nm_ofNat_toInt q (by omega)
    unfold xf_end
    by_cases h20 : 20 < n
    · rw [if_pos h20]
      refine ⟨20, ?_, by decide⟩
      refine px_q_aln (len := 1) (j := 0) rfl l0 ?_
      refine px_q_get (len := 3) (ci := 5) (k := 1) (fs := fs) (v := .int (Int32.ofNat n)) rfl rfl hx hl ?_
      refine px_Z_its (pc1 := 47) (lv1 := lv) (st1 := [.int 20, .int (Int32.ofNat n)]) (hp1 := hp) 1 (fun _ _ _ _ => rfl) ?_
      refine px_q_icmp (bb := false) (len := 3) (c := .le) (off := 6) rfl (by simp only [px_cmp, decide_eq_false_iff_not, Int32.le_iff_toInt_le, en, show (20 : Int32).toInt = 20 from rfl]; omega) ?_
      refine px_Z_its (pc1 := 52) (lv1 := lv) (st1 := [.int 20]) (hp1 := hp) 1 (fun _ _ _ _ => rfl) ?_
      exact px_q_iret (len := 1) (ty := .int) rfl rfl rfl
    rw [if_neg h20]
    have pre : ∀ (r : Option Value) (h9 : px_H), px_Z nm_T none nm_P mm_Text_firstFault 57 lv [.int (Int32.ofNat n)] hp r h9 → px_Z nm_T none nm_P mm_Text_firstFault 41 lv [] hp r h9 := by
      intro r h9 h
      refine px_q_aln (len := 1) (j := 0) rfl l0 ?_
      refine px_q_get (len := 3) (ci := 5) (k := 1) (fs := fs) (v := .int (Int32.ofNat n)) rfl rfl hx hl ?_
      refine px_Z_its (pc1 := 47) (lv1 := lv) (st1 := [.int 20, .int (Int32.ofNat n)]) (hp1 := hp) 1 (fun _ _ _ _ => rfl) ?_
      refine px_q_icmp (bb := true) (len := 3) (c := .le) (off := 6) rfl (by simp only [px_cmp, decide_eq_true_eq, Int32.le_iff_toInt_le, en, show (20 : Int32).toInt = 20 from rfl]; omega) ?_
      refine px_q_aln (pc := 53) (len := 1) (j := 0) rfl l0 ?_
      exact px_q_get (len := 3) (ci := 5) (k := 1) (fs := fs) (v := .int (Int32.ofNat n)) rfl rfl hx hl h
    have m1 : px_Z nm_T none nm_P mm_Text_firstFault 65 lv [] hp (some (.int (Int32.ofInt (-1)))) hp := by
      refine px_Z_its (pc1 := 73) (lv1 := lv) (st1 := [.int (Int32.ofInt (-1))]) (hp1 := hp) 2 (fun _ _ _ _ => rfl) ?_
      exact px_q_iret (len := 1) (ty := .int) rfl rfl rfl
    by_cases h0 : n = 0
    · rw [if_pos (Or.inl h0)]
      subst h0
      exact ⟨Int32.ofInt (-1), pre _ _ (px_q_if (bb := true) (len := 3) (c := .eq) (off := 8) rfl (by decide) m1), by decide⟩
    have nz : px_cmp .eq (Int32.ofNat n) 0 = false := rp_eq (by
      symm
      rw [decide_eq_false_iff_not]
      intro e
      have := congrArg Int32.toInt e
      rw [en, Int32.toInt_zero] at this
      omega)
    by_cases h3 : q = 3
    · rw [if_pos (Or.inr h3)]
      subst h3
      refine ⟨Int32.ofInt (-1), pre _ _ (px_q_if (bb := false) (len := 3) (c := .eq) (off := 8) rfl nz ?_), by decide⟩
      refine px_q_iln (pc := 60) (len := 1) (j := 1) rfl l1 ?_
      refine px_Z_its (pc1 := 62) (lv1 := lv) (st1 := [.int 3, .int (Int32.ofNat 3)]) (hp1 := hp) 1 (fun _ _ _ _ => rfl) ?_
      exact px_q_icmp (bb := false) (len := 3) (c := .ne) (off := 7) rfl (by decide) m1
    · rw [if_neg (by rintro (h | h); exact h0 h; exact h3 h)]
      refine ⟨Int32.ofNat n, pre _ _ (px_q_if (bb := false) (len := 3) (c := .eq) (off := 8) rfl nz ?_), en⟩
      refine px_q_iln (pc := 60) (len := 1) (j := 1) rfl l1 ?_
      refine px_Z_its (pc1 := 62) (lv1 := lv) (st1 := [.int 3, .int (Int32.ofNat q)]) (hp1 := hp) 1 (fun _ _ _ _ => rfl) ?_
      refine px_q_icmp (bb := true) (len := 3) (c := .ne) (off := 7) rfl (rp_ne (by
        symm
        rw [decide_eq_true_eq]
        intro e
        have := congrArg Int32.toInt e
        rw [eq, show (3 : Int32).toInt = 3 from rfl] at this
        omega)) ?_
      refine px_q_aln (pc := 69) (len := 1) (j := 0) rfl l0 ?_
      refine px_q_get (len := 3) (ci := 5) (k := 1) (fs := fs) (v := .int (Int32.ofNat n)) rfl rfl hx hl ?_
      exact px_q_iret (len := 1) (ty := .int) rfl rfl rfl
  induction m with
  | zero => intro q i lv _ h1 h2; omega
  | succ m ih =>
    intro q i lv hq hi hm l0 l1 l2
    have ei := nm_ofNat_toInt i (by omega)
    have hin : (Int32.ofNat i).toNatClampNeg = i := nm_ofNat_clamp i (by omega)
    have e1 : Int32.ofNat i + Int32.ofInt 1 = Int32.ofNat (i + 1) := by rw [Int32.ofNat_add]; rfl
    unfold xf
    by_cases hiw : i < w
    · rw [if_pos hiw]
      generalize hlA : px_st1 lv 1 (.int (rp_bi (rp_bh q (g i)))) = lvA
      have a0 : px_find 0 lvA = some (.ref 12) := by rw [← hlA]; exact px_st1_nr l0
      have a1 : px_find 1 lvA = some (.int (rp_bi (rp_bh q (g i)))) := by rw [← hlA]; exact px_st1_at _ _ _
      have a2 : px_find 2 lvA = some (.int (Int32.ofNat i)) := by rw [← hlA]; exact ab_sto1_find l2 (by decide) (fun _ hc => by cases hc)
      have pre : ∀ (r : Option Value) (h9 : px_H), px_Z nm_T none nm_P mm_Text_firstFault 30 lvA [.int (rp_bi (rp_bh q (g i)))] hp r h9 → px_Z nm_T none nm_P mm_Text_firstFault 4 lv [] hp r h9 := by
        intro r h9 h
        refine px_q_iln (len := 1) (j := 2) rfl l2 ?_
        refine px_q_aln (len := 1) (j := 0) rfl l0 ?_
        refine px_q_get (len := 3) (ci := 5) (k := 1) (fs := fs) (v := .int (Int32.ofNat n)) rfl rfl hx hl ?_
        refine px_q_icmp (bb := false) (len := 3) (c := .ge) (off := 32) rfl (by simp only [px_cmp, decide_eq_false_iff_not, ge_iff_le, Int32.le_iff_toInt_le, ei, en]; omega) ?_
        refine px_q_iln (pc := 12) (len := 1) (j := 2) rfl l2 ?_
        refine px_Z_its (pc1 := 15) (lv1 := lv) (st1 := [.int 20, .int (Int32.ofNat i)]) (hp1 := hp) 1 (fun _ _ _ _ => rfl) ?_
        refine px_q_icmp (bb := false) (len := 3) (c := .ge) (off := 26) rfl (by simp only [px_cmp, decide_eq_false_iff_not, ge_iff_le, Int32.le_iff_toInt_le, ei, show (20 : Int32).toInt = 20 from rfl]; omega) ?_
        refine px_q_iln (pc := 18) (len := 1) (j := 1) rfl l1 ?_
        refine px_q_aln (len := 1) (j := 0) rfl l0 ?_
        refine px_q_get (len := 3) (ci := 5) (k := 0) (fs := fs) (v := .ref 13) rfl rfl hx hsg ?_
        refine px_q_iln (len := 1) (j := 2) rfl l2 ?_
        refine px_q_iald (len := 1) rfl hs rfl (nm_ixR _ 40 (by omega) (by omega)) ?_
        rw [hin]
        refine px_q_stat (len := 3) (n := 2) (N := mm_Text_behind) (mi := mi_Text_behind) rfl rfl rfl (Nat.le_of_ble_eq_true rfl) (Nat.le_of_ble_eq_true rfl) rfl rfl (rp_behind hq (g i) hp) ?_
        refine px_Z_its (pc1 := 29) (lv1 := lvA) (st1 := []) (hp1 := hp) 1 (fun _ _ _ _ => by rw [← hlA]; rfl) ?_
        exact px_q_iln (len := 1) (j := 1) rfl a1 h
      cases hb : rp_bh q (g i) with
      | none =>
        rw [hb] at pre
        refine ⟨Int32.ofNat i, pre _ _ (px_q_if (bb := false) (len := 3) (c := .ge) (off := 5) rfl (by decide) ?_), ei⟩
        refine px_q_iln (pc := 33) (len := 1) (j := 2) rfl a2 ?_
        exact px_q_iret (len := 1) (ty := .int) rfl rfl rfl
      | some q' =>
        rw [hb] at pre a1
        have hq' := rp_bh_le hb
        have eq' := nm_ofNat_toInt q' (by omega)
        obtain ⟨v, z1, z2⟩ := ih q' (i + 1) (px_st1 lvA 2 (.int (Int32.ofNat (i + 1)))) hq' (by omega) (by omega) (px_st1_nr a0) (ab_sto1_find a1 (by decide) (fun _ hc => by cases hc)) (px_st1_at _ _ _)
        refine ⟨v, pre _ _ (px_q_if (bb := true) (len := 3) (c := .ge) (off := 5) rfl (by simp only [rp_bi, px_cmp, decide_eq_true_eq, ge_iff_le, Int32.le_iff_toInt_le, eq', Int32.toInt_zero]; omega) ?_), z2⟩
        refine px_q_iinc (pc := 35) (len := 3) (j := 2) (n := 1) rfl a2 rfl ?_
        rw [e1]
        exact px_Z_its (pc1 := 4) (lv1 := px_st1 lvA 2 (.int (Int32.ofNat (i + 1)))) (st1 := []) (hp1 := hp) 1 (fun _ _ _ _ => rfl) z1
    · rw [if_neg hiw]
      obtain ⟨v, z1, z2⟩ := fin q lv hq l0 l1
      refine ⟨v, ?_, z2⟩
      refine px_q_iln (len := 1) (j := 2) rfl l2 ?_
      refine px_q_aln (len := 1) (j := 0) rfl l0 ?_
      refine px_q_get (len := 3) (ci := 5) (k := 1) (fs := fs) (v := .int (Int32.ofNat n)) rfl rfl hx hl ?_
      by_cases hin2 : n ≤ i
      · exact px_q_icmp (bb := true) (len := 3) (c := .ge) (off := 32) rfl (by simp only [px_cmp, decide_eq_true_eq, ge_iff_le, Int32.le_iff_toInt_le, ei, en]; omega) z1
      · refine px_q_icmp (bb := false) (len := 3) (c := .ge) (off := 32) rfl (by simp only [px_cmp, decide_eq_false_iff_not, ge_iff_le, Int32.le_iff_toInt_le, ei, en]; omega) ?_
        refine px_q_iln (pc := 12) (len := 1) (j := 2) rfl l2 ?_
        refine px_Z_its (pc1 := 15) (lv1 := lv) (st1 := [.int 20, .int (Int32.ofNat i)]) (hp1 := hp) 1 (fun _ _ _ _ => rfl) ?_
        exact px_q_icmp (bb := true) (len := 3) (c := .ge) (off := 26) rfl (by simp only [px_cmp, decide_eq_true_eq, ge_iff_le, Int32.le_iff_toInt_le, ei, show (20 : Int32).toInt = 20 from rfl]; omega) z1
end mg_6

section mg_7
/-! line by line and sign by sign tell the same -/
section xf_1
variable {g : Nat → Int32} {w n : Nat}
theorem rp_bt {i : Nat} {s : Int32} (h1 : i < w) (h2 : g i = s) : rp_b g w i s = true := by
  simp only [rp_b, Bool.and_eq_true, decide_eq_true_eq]
  exact ⟨h1, h2⟩
theorem rp_bf {i : Nat} {s : Int32} (h : ¬ (i < w ∧ g i = s)) : rp_b g w i s = false := by
  simp only [rp_b, Bool.and_eq_false_iff, decide_eq_false_iff_not]
  by_cases h1 : i < w
  · exact Or.inr (fun e => h ⟨h1, e⟩)
  · exact Or.inl h1
theorem xf_end_ne {q : Nat} (hn : 0 < n) (hq : q ≠ 3) : xf_end n q = xf_end n 0 := by
  unfold xf_end
  split
  · rfl
  · rw [if_neg (by omega), if_neg (by omega)]
theorem xf_at {M q i : Nat} (h : ¬ i < w) : xf g w n M q i = xf_end n q := by
  cases M with
  | zero => rfl
  | succ M => unfold xf; rw [if_neg h]
theorem xf_go {M q q' i : Nat} (h : i < w) (hb : rp_bh q (g i) = some q') : xf g w n (M + 1) q i = xf g w n M q' (i + 1) := by
  conv => lhs; unfold xf
  rw [if_pos h, hb]
theorem xf_no {M q i : Nat} (h : i < w) (hb : rp_bh q (g i) = none) : xf g w n (M + 1) q i = (i : Int) := by
  conv => lhs; unfold xf
  rw [if_pos h, hb]
theorem xf_k_none (hn : 0 < n) {M i : Nat} (hi : i ≤ w) (hM : w < i + M) (hk : rp_k g w i = none) : xf g w n M 0 i = if rp_kf g w i < w then ((rp_kf g w i : Nat) : Int) else xf_end n 0 := by
  obtain ⟨M, rfl⟩ : ∃ M', M = M' + 1 := ⟨M - 1, by omega⟩
  by_cases h : i < w
  · by_cases h1 : g i = 107
    · rw [rp_k, rp_bt h h1] at hk; cases hk
    by_cases h2 : g i = 100
    · rw [rp_k, rp_bf (s := 107) (fun e => h1 e.2), rp_bt h h2] at hk; cases hk
    by_cases h3 : g i = 119
    · rw [rp_k, rp_bf (s := 107) (fun e => h1 e.2), rp_bf (s := 100) (fun e => h2 e.2), rp_bt h h3] at hk; cases hk
    by_cases h4 : g i = 115
    · have hkf : rp_kf g w i = i + 1 := by unfold rp_kf; rw [rp_bt h h4]; rfl
      rw [hkf, xf_go h (q' := 1) (by rw [rp_bh0, if_pos h4])]
      by_cases h5 : i + 1 < w
      · rw [if_pos h5]
        obtain ⟨M, rfl⟩ : ∃ M', M = M' + 1 := ⟨M - 1, by omega⟩
        by_cases hd : 49 ≤ (g (i + 1)).toInt ∧ (g (i + 1)).toInt ≤ 54
        · rw [rp_k, rp_bf (s := 107) (fun e => h1 e.2), rp_bf (s := 100) (fun e => h2 e.2), rp_bf (s := 119) (fun e => h3 e.2), rp_bt h h4] at hk
          simp [h5, hd.1, hd.2] at hk
        · exact xf_no h5 (by rw [rp_bh1, if_neg hd])
      · rw [if_neg h5, xf_at h5]
        exact xf_end_ne hn (by decide)
    · have hkf : rp_kf g w i = i := by unfold rp_kf; rw [rp_bf (fun e => h4 e.2)]; rfl
      rw [hkf, if_pos h]
      exact xf_no h (by rw [rp_bh0, if_neg h4, if_neg (by rintro (e | e | e); exact h1 e; exact h2 e; exact h3 e)])
  · have hkf : rp_kf g w i = i := by unfold rp_kf; rw [rp_bf (fun e => h e.1)]; rfl
    rw [hkf, if_neg h, xf_at h]
theorem xf_k_some {M i a : Nat} {k : Int32} (hM : w < i + M) (hk : rp_k g w i = some (k, a)) : xf g w n M 0 i = xf g w n (M - a) 2 (i + a) := by
  have hl := rp_k_le hk
  obtain ⟨M, rfl⟩ : ∃ M', M = M' + 1 := ⟨M - 1, by omega⟩
  have h : i < w := by omega
  by_cases h1 : g i = 107
  · rw [rp_k, rp_bt h h1] at hk
    cases hk
    rw [xf_go h (q' := 2) (by rw [rp_bh0, if_neg (by rw [h1]; decide), if_pos (Or.inl h1)])]
    rfl
  by_cases h2 : g i = 100
  · rw [rp_k, rp_bf (s := 107) (fun e => h1 e.2), rp_bt h h2] at hk
    cases hk
    rw [xf_go h (q' := 2) (by rw [rp_bh0, if_neg (by rw [h2]; decide), if_pos (Or.inr (Or.inl h2))])]
    rfl
  by_cases h3 : g i = 119
  · rw [rp_k, rp_bf (s := 107) (fun e => h1 e.2), rp_bf (s := 100) (fun e => h2 e.2), rp_bt h h3] at hk
    cases hk
    rw [xf_go h (q' := 2) (by rw [rp_bh0, if_neg (by rw [h3]; decide), if_pos (Or.inr (Or.inr h3))])]
    rfl
  · rw [rp_k, rp_bf (s := 107) (fun e => h1 e.2), rp_bf (s := 100) (fun e => h2 e.2), rp_bf (s := 119) (fun e => h3 e.2)] at hk
    simp only [cond_false] at hk
    cases hc : (rp_b g w i 115 && (decide (i + 1 < w) && (decide (49 ≤ (g (i + 1)).toInt) && decide ((g (i + 1)).toInt ≤ 54)))) with
    | false => rw [hc] at hk; cases hk
    | true =>
      rw [hc] at hk
      cases hk
      simp only [Bool.and_eq_true, decide_eq_true_eq] at hc
      obtain ⟨c1, c2, c3, c4⟩ := hc
      have h4 : g i = 115 := by
        simp only [rp_b, Bool.and_eq_true, decide_eq_true_eq] at c1
        exact c1.2
      obtain ⟨M, rfl⟩ : ∃ M', M = M' + 1 := ⟨M - 1, by omega⟩
      rw [xf_go h (q' := 1) (by rw [rp_bh0, if_pos h4]), xf_go c2 (q' := 2) (by rw [rp_bh1, if_pos ⟨c3, c4⟩])]
      rfl
theorem xf_d_some {M j : Nat} {d : Int32} (hM : w < j + M) (hd : rp_d g w j = some d) : xf g w n M 2 j = xf g w n (M - 1) 3 (j + 1) := by
  have h := rp_d_lt hd
  obtain ⟨M, rfl⟩ : ∃ M', M = M' + 1 := ⟨M - 1, by omega⟩
  rw [xf_go h (q' := 3)]
  · rfl
  · rw [rp_bh2, if_pos]
    unfold rp_d at hd
    by_cases h1 : g j = 98
    · exact Or.inl h1
    by_cases h2 : g j = 116
    · exact Or.inr (Or.inl h2)
    by_cases h3 : g j = 108
    · exact Or.inr (Or.inr h3)
    rw [rp_bf (s := 98) (fun e => h1 e.2), rp_bf (s := 116) (fun e => h2 e.2), rp_bf (s := 108) (fun e => h3 e.2)] at hd
    cases hd
theorem xf_d_none (hn : 0 < n) {M j : Nat} (hj : j ≤ w) (hM : w < j + M) (hd : rp_d g w j = none) : xf g w n M 2 j = if j < w then (j : Int) else xf_end n 0 := by
  obtain ⟨M, rfl⟩ : ∃ M', M = M' + 1 := ⟨M - 1, by omega⟩
  by_cases h : j < w
  · rw [if_pos h]
    refine xf_no h ?_
    rw [rp_bh2, if_neg]
    unfold rp_d at hd
    rintro (e | e | e)
    · rw [rp_bt h e] at hd; cases hd
    · rw [rp_bf (s := 98) (fun e' => by rw [e] at e'; exact absurd e'.2 (by decide)), rp_bt h e] at hd; cases hd
    · rw [rp_bf (s := 98) (fun e' => by rw [e] at e'; exact absurd e'.2 (by decide)), rp_bf (s := 116) (fun e' => by rw [e] at e'; exact absurd e'.2 (by decide)), rp_bt h e] at hd; cases hd
  · rw [if_neg h, xf_at h]
    exact xf_end_ne hn (by decide)
theorem xf_s_some {M j : Nat} (hM : w < j + M) (hb : rp_b g w j 59 = true) : xf g w n M 3 j = xf g w n (M - 1) 0 (j + 1) := by
  have h := rp_b_lt hb
  obtain ⟨M, rfl⟩ : ∃ M', M = M' + 1 := ⟨M - 1, by omega⟩
  simp only [rp_b, Bool.and_eq_true, decide_eq_true_eq] at hb
  rw [xf_go h (q' := 0) (by rw [rp_bh3, if_pos hb.2])]
  rfl
theorem xf_s_none {M j : Nat} (hM : w < j + M) (hj : j ≤ w) (hb : rp_b g w j 59 = false) : xf g w n M 3 j = if j < w then (j : Int) else xf_end n 3 := by
  obtain ⟨M, rfl⟩ : ∃ M', M = M' + 1 := ⟨M - 1, by omega⟩
  by_cases h : j < w
  · rw [if_pos h]
    refine xf_no h ?_
    rw [rp_bh3, if_neg (fun e => by rw [rp_bt h e] at hb; cases hb)]
  · rw [if_neg h, xf_at h]
theorem xf_lp (hn : 0 < n) : ∀ (m i c : Nat) (rk rd : Nat → Int32) (M : Nat), i ≤ w → w < i + 3 * m → w < i + M →
    xf g w n M 0 i = if (rp_lp g w m i c rk rd).1 = true then (if (rp_lp g w m i c rk rd).2.1 < w then (((rp_lp g w m i c rk rd).2.1 : Nat) : Int) else xf_end n 3) else (if (rp_lp g w m i c rk rd).2.1 < w then (((rp_lp g w m i c rk rd).2.1 : Nat) : Int) else xf_end n 0)
  | 0, i, c, rk, rd, M, h1, h2, _ => by omega
  | m + 1, i, c, rk, rd, M, h1, h2, h3 => by
    cases hk : rp_k g w i with
    | none =>
      rw [show rp_lp g w (m + 1) i c rk rd = (false, rp_kf g w i, c, rk, rd) from by simp only [rp_lp, hk]]
      simp only [Bool.false_eq_true, if_false]
      exact xf_k_none hn h1 h3 hk
    | some q =>
      obtain ⟨k, a⟩ := q
      have hl := rp_k_le hk
      rw [xf_k_some h3 hk]
      cases hd : rp_d g w (i + a) with
      | none =>
        rw [show rp_lp g w (m + 1) i c rk rd = (false, i + a, c, rk, rd) from by simp only [rp_lp, hk, hd]]
        simp only [Bool.false_eq_true, if_false]
        exact xf_d_none hn hl.2.2 (by omega) hd
      | some d =>
        have hdl := rp_d_lt hd
        rw [xf_d_some (by omega) hd]
        cases hb : rp_b g w (i + a + 1) 59 with
        | true =>
          have hbl := rp_b_lt hb
          rw [show rp_lp g w (m + 1) i c rk rd = rp_lp g w m (i + a + 2) (c + 1) (upd rk c k) (upd rd c d) from by simp only [rp_lp, hk, hd, hb, cond_true]]
          rw [xf_s_some (by omega) hb]
          exact xf_lp hn m (i + a + 2) (c + 1) (upd rk c k) (upd rd c d) (M - a - 1 - 1) (by omega) (by omega) (by omega)
        | false =>
          rw [show rp_lp g w (m + 1) i c rk rd = (true, i + a + 1, c + 1, upd rk c k, upd rd c d) from by simp only [rp_lp, hk, hd, hb, cond_false]]
          simp only [if_true]
          exact xf_s_none (by omega) (by omega) hb
end xf_1
end mg_7

section mg_8
/-! the class counts the lines -/
def xr_f (s : Int32) : Bool := decide (s = 98) || (decide (s = 108) || decide (s = 116))
def xr (g : Nat → Int32) (n : Nat) : Nat → Nat → Nat → Nat
  | 0, _, c => c
  | m + 1, i, c => if i < n ∧ c < 7 then xr g n m (i + 1) (c + rp_n (xr_f (g i))) else c
def rd_cl : List (Int × Int × Int) := [(-2147483648, 48, 0), (49, 54, 0), (55, 97, 0), (98, 98, 1), (99, 107, 0), (108, 108, 1), (109, 115, 0), (116, 116, 1), (117, 2147483647, 0)]
theorem rd_cl_ok (s : Int32) : ∃ k ∈ rd_cl, k.1 ≤ s.toInt ∧ s.toInt ≤ k.2.1 ∧ k.2.2 = (rp_n (xr_f s) : Nat) := by
  have h0 := ab_i32 s
  have a1 : (-2147483648 : Int) ≤ s.toInt := h0.1
  have a2 : s.toInt ≤ 2147483647 := h0.2
  have e98 : s = 98 ↔ s.toInt = 98 := by rw [← Int32.toInt_inj]; rfl
  have e108 : s = 108 ↔ s.toInt = 108 := by rw [← Int32.toInt_inj]; rfl
  have e116 : s = 116 ↔ s.toInt = 116 := by rw [← Int32.toInt_inj]; rfl
  have t : ∀ {b : Bool}, (b = true ↔ (s.toInt = 98 ∨ s.toInt = 108 ∨ s.toInt = 116)) → xr_f s = b := by
    intro b hb
    have : xr_f s = true ↔ (s.toInt = 98 ∨ s.toInt = 108 ∨ s.toInt = 116) := by
      simp only [xr_f, Bool.or_eq_true, decide_eq_true_eq, e98, e108, e116]
    cases b with
    | true => exact this.mpr (hb.mp rfl)
    | false =>
      cases hx : xr_f s with
      | false => rfl
      | true => have := hb.mpr (this.mp hx); cases this
  have yes : (s.toInt = 98 ∨ s.toInt = 108 ∨ s.toInt = 116) → xr_f s = true := fun h => t ⟨fun _ => h, fun _ => rfl⟩
  have no : ¬ (s.toInt = 98 ∨ s.toInt = 108 ∨ s.toInt = 116) → xr_f s = false := fun h => t ⟨fun e => (by cases e), fun e => absurd e h⟩
  by_cases c1 : s.toInt ≤ 48
  · exact ⟨(-2147483648, 48, 0), by simp [rd_cl], a1, c1, by rw [no (by omega)]; rfl⟩
  by_cases c2 : s.toInt ≤ 54
  · exact ⟨(49, 54, 0), by simp [rd_cl], by show (49 : Int) ≤ _; omega, c2, by rw [no (by omega)]; rfl⟩
  by_cases c3 : s.toInt ≤ 97
  · exact ⟨(55, 97, 0), by simp [rd_cl], by show (55 : Int) ≤ _; omega, c3, by rw [no (by omega)]; rfl⟩
  by_cases c4 : s.toInt ≤ 98
  · exact ⟨(98, 98, 1), by simp [rd_cl], by show (98 : Int) ≤ _; omega, c4, by rw [yes (by omega)]; rfl⟩
  by_cases c5 : s.toInt ≤ 107
  · exact ⟨(99, 107, 0), by simp [rd_cl], by show (99 : Int) ≤ _; omega, c5, by rw [no (by omega)]; rfl⟩
  by_cases c6 : s.toInt ≤ 108
  · exact ⟨(108, 108, 1), by simp [rd_cl], by show (108 : Int) ≤ _; omega, c6, by rw [yes (by omega)]; rfl⟩
  by_cases c7 : s.toInt ≤ 115
  · exact ⟨(109, 115, 0), by simp [rd_cl], by show (109 : Int) ≤ _; omega, c7, by rw [no (by omega)]; rfl⟩
  by_cases c8 : s.toInt ≤ 116
  · exact ⟨(116, 116, 1), by simp [rd_cl], by show (116 : Int) ≤ _; omega, c8, by rw [yes (by omega)]; rfl⟩
  · exact ⟨(117, 2147483647, 0), by simp [rd_cl], by show (117 : Int) ≤ _; omega, a2, by rw [no (by omega)]; rfl⟩
def rd_A (R : Nat) (c lo hi : Int) : ac_S := ([(0, ((2, 0, 0, [R]), none)), (1, ((2, 0, 0, [12]), none)), (2, ((0, -2147483648, 2147483647, []), some (2, 2, 0))), (3, ((0, lo, hi, []), none))], [], [(R, 3, 0, c, c, [])], [], [], [])
def rd_B (R : Nat) (c : Int) : ac_S := ([(0, ((2, 0, 0, [R]), none)), (1, ((2, 0, 0, [12]), none)), (2, ((0, -2147483648, 2147483647, []), some (2, 2, 0)))], [], [(R, 3, 0, c, c, [])], [], [], [])
def rd_e (R : Nat) (c lo hi dc : Int) : Bool := match ac_run nm_T nm_P nm_GH nm_FA [] [] [(R, 3)] [R + 1, R + 2, R + 3] 20000 false [116] mi_Rule_read mm_Rule_read 31 (rd_A R c lo hi) with
  | some o => o.1.isEmpty && o.2.all (fun q => Nat.beq q.1 116 && ac_le nm_GH none q.2 (rd_B R (c + dc)))
  | none => false
/-- lines that can stand: sign by sign and line by line count the same -/
theorem xr_go {g : Nat → Int32} {n M i c : Nat} (h : i < n) (hc : c < 7) : xr g n (M + 1) i c = xr g n M (i + 1) (c + rp_n (xr_f (g i))) := by
  conv => lhs; unfold xr
  rw [if_pos ⟨h, hc⟩]
theorem xr_lp {g : Nat → Int32} {n : Nat} (hn : n ≤ 20) : ∀ (m i c : Nat) (rk rd : Nat → Int32) (M : Nat), i ≤ n → 3 * c ≤ i → n < i + 3 * m → n < i + M → (rp_lp g n m i c rk rd).1 = true → (rp_lp g n m i c rk rd).2.1 = n → xr g n M i c = (rp_lp g n m i c rk rd).2.2.1
  | 0, i, c, rk, rd, M, h1, _, h2, _, _, _ => by omega
  | m + 1, i, c, rk, rd, M, h1, hc, h2, h3, hg, ha => by
    have nf : ∀ s : Int32, s = 107 ∨ s = 100 ∨ s = 119 ∨ s = 115 ∨ s = 59 → rp_n (xr_f s) = 0 := by
      rintro s (rfl | rfl | rfl | rfl | rfl) <;> decide
    have nd : ∀ s : Int32, 49 ≤ s.toInt → s.toInt ≤ 54 → rp_n (xr_f s) = 0 := by
      intro s e1 e2
      have : xr_f s = false := by
        simp only [xr_f, Bool.or_eq_false_iff, decide_eq_false_iff_not]
        refine ⟨fun e => ?_, fun e => ?_, fun e => ?_⟩ <;> (rw [e] at e1 e2; exact absurd e2 (by decide))
      rw [this]
      rfl
    cases hk : rp_k g n i with
    | none => rw [show rp_lp g n (m + 1) i c rk rd = (false, rp_kf g n i, c, rk, rd) from by simp only [rp_lp, hk]] at hg; cases hg
    | some q =>
      obtain ⟨k, a⟩ := q
      have hl := rp_k_le hk
      cases hd : rp_d g n (i + a) with
      | none => rw [show rp_lp g n (m + 1) i c rk rd = (false, i + a, c, rk, rd) from by simp only [rp_lp, hk, hd]] at hg; cases hg
      | some d =>
        have hdl := rp_d_lt hd
        -- the beginning
        have b1 : xr g n M i c = xr g n (M - a) (i + a) c := by
          obtain ⟨M, rfl⟩ : ∃ M', M = M' + 1 := ⟨M - 1, by omega⟩
          have hin : i < n := by omega
          unfold rp_k at hk
          cases e1 : rp_b g n i 107 with
          | true =>
            rw [e1] at hk; cases hk
            simp only [rp_b, Bool.and_eq_true, decide_eq_true_eq] at e1
            rw [xr_go hin (by omega), nf _ (Or.inl e1.2)]
            rfl
          | false =>
            cases e2 : rp_b g n i 100 with
            | true =>
              rw [e1, e2] at hk; cases hk
              simp only [rp_b, Bool.and_eq_true, decide_eq_true_eq] at e2
              rw [xr_go hin (by omega), nf _ (Or.inr (Or.inl e2.2))]
              rfl
            | false =>
              cases e3 : rp_b g n i 119 with
              | true =>
                rw [e1, e2, e3] at hk; cases hk
                simp only [rp_b, Bool.and_eq_true, decide_eq_true_eq] at e3
                rw [xr_go hin (by omega), nf _ (Or.inr (Or.inr (Or.inl e3.2)))]
                rfl
              | false =>
                rw [e1, e2, e3] at hk
                simp only [cond_false] at hk
                cases hcc : (rp_b g n i 115 && (decide (i + 1 < n) && (decide (49 ≤ (g (i + 1)).toInt) && decide ((g (i + 1)).toInt ≤ 54)))) with
                | false => rw [hcc] at hk; cases hk
                | true =>
                  rw [hcc] at hk; cases hk
                  simp only [Bool.and_eq_true, decide_eq_true_eq, rp_b] at hcc
                  obtain ⟨M, rfl⟩ : ∃ M', M = M' + 1 := ⟨M - 1, by omega⟩
                  rw [xr_go hin (by omega), nf _ (Or.inr (Or.inr (Or.inr (Or.inl hcc.1.2)))), Nat.add_zero, xr_go hcc.2.1 (by omega), nd _ hcc.2.2.1 hcc.2.2.2]
                  rfl
        have b2 : xr g n (M - a) (i + a) c = xr g n (M - a - 1) (i + a + 1) (c + 1) := by
          obtain ⟨M', hM'⟩ : ∃ M', M - a = M' + 1 := ⟨M - a - 1, by omega⟩
          rw [hM', xr_go hdl (by omega)]
          have : xr_f (g (i + a)) = true := by
            unfold rp_d at hd
            simp only [xr_f, Bool.or_eq_true, decide_eq_true_eq]
            by_cases d1 : g (i + a) = 98
            · exact Or.inl d1
            by_cases d2 : g (i + a) = 116
            · exact Or.inr (Or.inr d2)
            by_cases d3 : g (i + a) = 108
            · exact Or.inr (Or.inl d3)
            rw [rp_bf (s := 98) (fun e => d1 e.2), rp_bf (s := 116) (fun e => d2 e.2), rp_bf (s := 108) (fun e => d3 e.2)] at hd
            cases hd
          rw [this]
          rfl
        rw [b1, b2]
        cases hb : rp_b g n (i + a + 1) 59 with
        | true =>
          have hbl := rp_b_lt hb
          have hlp : rp_lp g n (m + 1) i c rk rd = rp_lp g n m (i + a + 2) (c + 1) (upd rk c k) (upd rd c d) := by simp only [rp_lp, hk, hd, hb, cond_true]
          rw [hlp] at hg ha ⊢
          obtain ⟨M', hM'⟩ : ∃ M', M - a - 1 = M' + 1 := ⟨M - a - 1 - 1, by omega⟩
          simp only [rp_b, Bool.and_eq_true, decide_eq_true_eq] at hb
          rw [hM', xr_go hbl (by omega), nf _ (Or.inr (Or.inr (Or.inr (Or.inr hb.2)))), Nat.add_zero]
          exact xr_lp hn m (i + a + 2) (c + 1) (upd rk c k) (upd rd c d) M' (by omega) (by omega) (by omega) (by omega) hg ha
        | false =>
          have hlp : rp_lp g n (m + 1) i c rk rd = (true, i + a + 1, c + 1, upd rk c k, upd rd c d) := by simp only [rp_lp, hk, hd, hb, cond_false]
          rw [hlp] at ha ⊢
          have ha : i + a + 1 = n := ha
          show xr g n (M - a - 1) (i + a + 1) (c + 1) = c + 1
          cases hM : M - a - 1 with
          | zero => rfl
          | succ M' => unfold xr; rw [if_neg (by omega)]
/-! rule 14 -/
set_option maxRecDepth 1000000 in
theorem rd_t14 : (List.range 7).all (fun c => rd_cl.all (fun k => rd_e 14 (c : Nat) k.1 k.2.1 k.2.2)) = true := by decide +kernel
theorem rd_l14 {n : Nat} {g : Nat → Int32} (hn4 : n ≤ 40) : ∀ (m i c : Nat) (lv : List (Nat × Value)) (hp : px_H), ab_h nm_GH hp → ac_fv hp 12 1 = some (.int (Int32.ofNat n)) → hp[13]? = some (.inl (11, 40, .inl g)) → ac_fv hp 14 3 = some (.int (Int32.ofNat c)) → c ≤ 7 → i ≤ n → n < i + m → px_find 0 lv = some (.ref 14) → px_find 1 lv = some (.ref 12) → px_find 2 lv = some (.int (Int32.ofNat i)) →
    ∃ hp' : px_H, px_Z nm_T none nm_P mm_Rule_read 7 lv [] hp none hp' ∧ ab_h nm_GH hp' ∧ ac_fv hp' 14 3 = some (.int (Int32.ofNat (xr g n m i c))) ∧ px_fr [(14, 3)] [15, 16, 17] hp hp' := by
  intro m
  induction m with
  | zero => intro i c lv hp _ _ _ _ _ h1 h2; omega
  | succ m ih =>
    intro i c lv hp hG hl hs hc3 hc7 hi hm l0 l1 l2
    obtain ⟨fs, hx, -, -⟩ := ac_obj hG (c := 12) rfl
    obtain ⟨fr, hr, -, -⟩ := ac_obj hG (c := 14) rfl
    have hlen := dr_fvo hx hl
    have hlin := dr_fvo hr hc3
    have hsg := ac_refF hG (ci := 5) (k := 0) (c := 12) (d := 13) rfl hx
    have en := nm_ofNat_toInt n (by omega)
    have ei := nm_ofNat_toInt i (by omega)
    have ec := nm_ofNat_toInt c (by omega)
    have hin : (Int32.ofNat i).toNatClampNeg = i := nm_ofNat_clamp i (by omega)
    have e1 : Int32.ofNat i + Int32.ofInt 1 = Int32.ofNat (i + 1) := by rw [Int32.ofNat_add]; rfl
    have fin : px_Z nm_T none nm_P mm_Rule_read 122 lv [] hp none hp := px_q_ret (len := 1) rfl rfl
    by_cases h1 : i < n
    · have pre : ∀ (r : Option Value) (h9 : px_H) (bb : Bool), px_cmp .ge (Int32.ofNat c) 7 = bb → px_Z nm_T none nm_P mm_Rule_read (bif bb then 122 else 24) lv [] hp r h9 → px_Z nm_T none nm_P mm_Rule_read 7 lv [] hp r h9 := by
        intro r h9 bb hb h
        refine px_q_iln (len := 1) (j := 2) rfl l2 ?_
        refine px_q_aln (len := 1) (j := 1) rfl l1 ?_
        refine px_q_get (len := 3) (ci := 5) (k := 1) (fs := fs) (v := .int (Int32.ofNat n)) rfl rfl hx hlen ?_
        refine px_q_icmp (bb := false) (len := 3) (c := .ge) (off := 110) rfl (by simp only [px_cmp, decide_eq_false_iff_not, ge_iff_le, Int32.le_iff_toInt_le, ei, en]; omega) ?_
        refine px_q_aln (pc := 15) (len := 1) (j := 0) rfl l0 ?_
        refine px_q_get (len := 3) (ci := 3) (k := 3) (fs := fr) (v := .int (Int32.ofNat c)) rfl rfl hr hlin ?_
        refine px_Z_its (pc1 := 21) (lv1 := lv) (st1 := [.int 7, .int (Int32.ofNat c)]) (hp1 := hp) 1 (fun _ _ _ _ => rfl) ?_
        refine px_q_icmp (bb := bb) (len := 3) (c := .ge) (off := 101) rfl hb ?_
        cases bb
        · exact h
        · exact h
      by_cases h7 : c < 7
      · obtain ⟨k, hk, k1, k2, k3⟩ := rd_cl_ok (g i)
        have t := List.all_eq_true.mp (List.all_eq_true.mp rd_t14 c (List.mem_range.mpr h7)) k hk
        unfold rd_e at t
        split at t
        rotate_left
        · cases t
        rename_i o ho
        simp only [Bool.and_eq_true, List.all_eq_true, List.isEmpty_iff] at t
        generalize hlA : px_st1 lv 3 (.int (g i)) = lvA
        have a0 : px_find 0 lvA = some (.ref 14) := by rw [← hlA]; exact px_st1_nr l0
        have a1 : px_find 1 lvA = some (.ref 12) := by rw [← hlA]; exact px_st1_nr l1
        have a2 : px_find 2 lvA = some (.int (Int32.ofNat i)) := by rw [← hlA]; exact ab_sto1_find l2 (by decide) (fun _ hc => by cases hc)
        have a3 : px_find 3 lvA = some (.int (g i)) := by rw [← hlA]; exact px_st1_at _ _ _
        have hlv : ab_lv (fun _ => Int32.ofNat i) hp (rd_A 14 (c : Nat) k.1 k.2.1).1 lvA := by
          intro j z hz
          simp only [rd_A, List.mem_cons, Prod.mk.injEq, List.not_mem_nil, or_false] at hz
          rcases hz with ⟨rfl, rfl⟩ | ⟨rfl, rfl⟩ | ⟨rfl, rfl⟩ | ⟨rfl, rfl⟩
          · exact ⟨_, a0, ⟨rfl, List.mem_cons_self⟩, ab_o_none _ _ _ _⟩
          · exact ⟨_, a1, ⟨rfl, List.mem_cons_self⟩, ab_o_none _ _ _ _⟩
          · exact ⟨_, a2, ⟨rfl, ab_i32 _⟩, fun l hl => by cases hl; exact ⟨_, rfl, rfl⟩⟩
          · exact ⟨_, a3, ⟨rfl, k1, k2⟩, ab_o_none _ _ _ _⟩
        rcases ex_goS (fun _ h => absurd h List.not_mem_nil) ho (xs := fun _ => Int32.ofNat i) (γ := fun _ => 0) (lv := lvA) (st := []) (hp := hp) ⟨hlv, trivial, hG, ex_ov1 hc3 (by omega) (by omega), fun j q hq => (by simp [rd_A] at hq), fun i hi => (by cases hi), fun q hq => (by cases hq)⟩ with ⟨r, hp', q, m1, -⟩ | ⟨pc', lv', st', hp1, A', m1, m2, m3, m4⟩
        · rw [t.1] at m1
          cases m1
        obtain ⟨q1, q2⟩ := t.2 _ m1
        have q1 := Nat.eq_of_beq_eq_true q1
        simp only at q1
        subst q1
        obtain ⟨γ2, -, h9, -⟩ := ac_le_ok q2 m2
        obtain ⟨b1, b2, b3, b4, -⟩ := h9
        have est : st' = [] := by
          cases st' with
          | nil => rfl
          | cons v s => exact absurd b2 (by simp [rd_B, ab_st])
        subst est
        obtain ⟨u0, y0, o0⟩ := b1 0 _ (List.mem_cons_self)
        obtain ⟨u1, y1, o1⟩ := b1 1 _ (List.mem_cons_of_mem _ List.mem_cons_self)
        obtain ⟨u2, y2, o2⟩ := b1 2 _ (List.mem_cons_of_mem _ (List.mem_cons_of_mem _ List.mem_cons_self))
        obtain ⟨c0, rfl, e0⟩ := ab_f2 o0.1
        cases List.mem_singleton.mp e0
        obtain ⟨c1, rfl, e1'⟩ := ab_f2 o1.1
        cases List.mem_singleton.mp e1'
        obtain ⟨rfl, -, -⟩ := ex_org o2
        obtain ⟨z, z1, -⟩ := ex_fv (c := 14) (k := 3) (by decide +kernel) b3
        have zz := b4 _ List.mem_cons_self _ z1
        have w1 : ((c : Nat) : Int) + k.2.2 ≤ z.toInt := zz.2.1
        have w2 : z.toInt ≤ ((c : Nat) : Int) + k.2.2 := zz.2.2
        have hb1 : rp_n (xr_f (g i)) ≤ 1 := by cases xr_f (g i) <;> decide
        have hz : z = Int32.ofNat (c + rp_n (xr_f (g i))) := by
          rw [← Int32.toInt_inj, nm_ofNat_toInt (c + rp_n (xr_f (g i))) (by omega)]
          omega
        subst hz
        obtain ⟨hp', v1, v2, v3, v4⟩ := ih (i + 1) (c + rp_n (xr_f (g i))) (px_st1 lv' 2 (.int (Int32.ofNat (i + 1)))) hp1 b3 (ex_fv_fr m3 (by decide) hl) (m3.1 _ _ (by decide) hs) z1 (by omega) (by omega) (by omega) (px_st1_nr y0) (px_st1_nr y1) (px_st1_at _ _ _)
        refine ⟨hp', pre _ _ false (by simp only [px_cmp, decide_eq_false_iff_not, ge_iff_le, Int32.le_iff_toInt_le, ec, show (7 : Int32).toInt = 7 from rfl]; omega) ?_, v2, by rw [xr_go h1 h7]; exact v3, px_fr_tr m3 v4⟩
        refine px_q_aln (pc := 24) (len := 1) (j := 1) rfl l1 ?_
        refine px_q_get (len := 3) (ci := 5) (k := 0) (fs := fs) (v := .ref 13) rfl rfl hx hsg ?_
        refine px_q_iln (len := 1) (j := 2) rfl l2 ?_
        refine px_q_iald (len := 1) rfl hs rfl (nm_ixR _ 40 (by omega) (by omega)) ?_
        rw [hin]
        refine px_Z_its (pc1 := 31) (lv1 := lvA) (st1 := []) (hp1 := hp) 1 (fun _ _ _ _ => by rw [← hlA]; rfl) ?_
        refine m4 _ _ ?_
        refine px_q_iinc (len := 3) (j := 2) (n := 1) rfl y2 rfl ?_
        rw [e1]
        exact px_Z_its (pc1 := 7) (lv1 := px_st1 lv' 2 (.int (Int32.ofNat (i + 1)))) (st1 := []) (hp1 := hp1) 1 (fun _ _ _ _ => rfl) v1
      · refine ⟨hp, pre _ _ true (by simp only [px_cmp, decide_eq_true_eq, ge_iff_le, Int32.le_iff_toInt_le, ec, show (7 : Int32).toInt = 7 from rfl]; omega) fin, hG, ?_, px_fr_rf _ _ _⟩
        unfold xr
        rw [if_neg (by omega)]
        exact hc3
    · refine ⟨hp, ?_, hG, ?_, px_fr_rf _ _ _⟩
      · refine px_q_iln (len := 1) (j := 2) rfl l2 ?_
        refine px_q_aln (len := 1) (j := 1) rfl l1 ?_
        refine px_q_get (len := 3) (ci := 5) (k := 1) (fs := fs) (v := .int (Int32.ofNat n)) rfl rfl hx hlen ?_
        exact px_q_icmp (bb := true) (len := 3) (c := .ge) (off := 110) rfl (by simp only [px_cmp, decide_eq_true_eq, ge_iff_le, Int32.le_iff_toInt_le, ei, en]; omega) fin
      · unfold xr
        rw [if_neg (by omega)]
        exact hc3
def rd_B7_14 : ac_S := ([(0, ((2, 0, 0, [14]), none)), (1, ((2, 0, 0, [12]), none)), (2, ((0, 0, 0, []), none))], [], [(14, 3, 0, 0, 0, [])], [], [], [])
def rd_e0_14 : Bool := match ex_runS [] [] [(14, 3)] [] mi_Rule_read mm_Rule_read [(2, 0, 0, [14]), (2, 0, 0, [12])] [] [7] with
  | some o => o.1.isEmpty && o.2.all (fun q => Nat.beq q.1 7 && ac_le nm_GH none q.2 rd_B7_14)
  | none => false
set_option maxRecDepth 1000000 in
theorem rd_e0t14 : rd_e0_14 = true := by decide +kernel
theorem rd_C14 {hp : px_H} {n : Nat} {g : Nat → Int32} (hG : ab_h nm_GH hp) (hl : ac_fv hp 12 1 = some (.int (Int32.ofNat n))) (hn4 : n ≤ 40) (hs : hp[13]? = some (.inl (11, 40, .inl g))) : ∃ hp' : px_H, px_C nm_T nm_P mi_Rule_read [.ref 14, .ref 12] hp none hp' ∧ ab_h nm_GH hp' ∧ ac_fv hp' 14 3 = some (.int (Int32.ofNat (xr g n 41 0 0))) ∧ px_fr [(14, 3)] [15, 16, 17] hp hp' := by
  have t := rd_e0t14
  unfold rd_e0_14 at t
  split at t
  rotate_left
  · cases t
  rename_i o ho
  simp only [Bool.and_eq_true, List.all_eq_true, List.isEmpty_iff] at t
  rcases ex_runS_ok (fun _ h => absurd h List.not_mem_nil) rfl (Nat.le_of_ble_eq_true rfl) ho hG (av := [.ref 14, .ref 12]) ⟨⟨rfl, List.mem_cons_self⟩, ⟨rfl, List.mem_cons_self⟩, trivial⟩ (fun q hq => (by cases hq)) with ⟨r, hp', q, m1, -⟩ | ⟨pc', lv, st, hp1, A', m1, m2, m3, m4⟩
  · rw [t.1] at m1
    cases m1
  obtain ⟨q1, q2⟩ := t.2 _ m1
  have q1 := Nat.eq_of_beq_eq_true q1
  simp only at q1
  subst q1
  obtain ⟨γ2, -, h9, -⟩ := ac_le_ok q2 m2
  obtain ⟨b1, b2, b3, b4, -⟩ := h9
  have est : st = [] := by
    cases st with
    | nil => rfl
    | cons v s => exact absurd b2 (by simp [rd_B7_14, ab_st])
  subst est
  obtain ⟨u0, y0, o0⟩ := b1 0 _ (List.mem_cons_self)
  obtain ⟨u1, y1, o1⟩ := b1 1 _ (List.mem_cons_of_mem _ List.mem_cons_self)
  obtain ⟨u2, y2, o2⟩ := b1 2 _ (List.mem_cons_of_mem _ (List.mem_cons_of_mem _ List.mem_cons_self))
  obtain ⟨c0, rfl, e0⟩ := ab_f2 o0.1
  cases List.mem_singleton.mp e0
  obtain ⟨c1, rfl, e1'⟩ := ab_f2 o1.1
  cases List.mem_singleton.mp e1'
  have zero : ∀ {x : Int32}, ab_in (0, 0) x.toInt → x = Int32.ofNat 0 := by
    intro x hx
    have : (0 : Int) ≤ x.toInt := hx.1
    have : x.toInt ≤ (0 : Int) := hx.2
    rw [← Int32.toInt_inj, show (Int32.ofNat 0).toInt = 0 from rfl]
    omega
  obtain ⟨x2, rfl, i2⟩ := ab_f0 o2.1
  have i2 := zero i2
  subst i2
  obtain ⟨z, z1, -⟩ := ex_fv (c := 14) (k := 3) (by decide +kernel) b3
  have zz := zero (b4 _ List.mem_cons_self _ z1).2
  subst zz
  obtain ⟨hp', v1, v2, v3, v4⟩ := rd_l14 hn4 41 0 0 lv hp1 b3 (ex_fv_fr m3 (by decide) hl) (m3.1 _ _ (by decide) hs) z1 (by decide) (by omega) (by omega) y0 y1 y2
  exact ⟨hp', m4 _ _ v1, v2, v3, px_fr_tr (px_fr_mono m3 (by decide) (fun q hq => (by cases hq))) v4⟩
/-! rule 54 -/
set_option maxRecDepth 1000000 in
theorem rd_t54 : (List.range 7).all (fun c => rd_cl.all (fun k => rd_e 54 (c : Nat) k.1 k.2.1 k.2.2)) = true := by decide +kernel
theorem rd_l54 {n : Nat} {g : Nat → Int32} (hn4 : n ≤ 40) : ∀ (m i c : Nat) (lv : List (Nat × Value)) (hp : px_H), ab_h nm_GH hp → ac_fv hp 12 1 = some (.int (Int32.ofNat n)) → hp[13]? = some (.inl (11, 40, .inl g)) → ac_fv hp 54 3 = some (.int (Int32.ofNat c)) → c ≤ 7 → i ≤ n → n < i + m → px_find 0 lv = some (.ref 54) → px_find 1 lv = some (.ref 12) → px_find 2 lv = some (.int (Int32.ofNat i)) →
    ∃ hp' : px_H, px_Z nm_T none nm_P mm_Rule_read 7 lv [] hp none hp' ∧ ab_h nm_GH hp' ∧ ac_fv hp' 54 3 = some (.int (Int32.ofNat (xr g n m i c))) ∧ px_fr [(54, 3)] [55, 56, 57] hp hp' := by
  intro m
  induction m with
  | zero => intro i c lv hp _ _ _ _ _ h1 h2; omega
  | succ m ih =>
    intro i c lv hp hG hl hs hc3 hc7 hi hm l0 l1 l2
    obtain ⟨fs, hx, -, -⟩ := ac_obj hG (c := 12) rfl
    obtain ⟨fr, hr, -, -⟩ := ac_obj hG (c := 54) rfl
    have hlen := dr_fvo hx hl
    have hlin := dr_fvo hr hc3
    have hsg := ac_refF hG (ci := 5) (k := 0) (c := 12) (d := 13) rfl hx
    have en := nm_ofNat_toInt n (by omega)
    have ei := nm_ofNat_toInt i (by omega)
    have ec := nm_ofNat_toInt c (by omega)
    have hin : (Int32.ofNat i).toNatClampNeg = i := nm_ofNat_clamp i (by omega)
    have e1 : Int32.ofNat i + Int32.ofInt 1 = Int32.ofNat (i + 1) := by rw [Int32.ofNat_add]; rfl
    have fin : px_Z nm_T none nm_P mm_Rule_read 122 lv [] hp none hp := px_q_ret (len := 1) rfl rfl
    by_cases h1 : i < n
    · have pre : ∀ (r : Option Value) (h9 : px_H) (bb : Bool), px_cmp .ge (Int32.ofNat c) 7 = bb → px_Z nm_T none nm_P mm_Rule_read (bif bb then 122 else 24) lv [] hp r h9 → px_Z nm_T none nm_P mm_Rule_read 7 lv [] hp r h9 := by
        intro r h9 bb hb h
        refine px_q_iln (len := 1) (j := 2) rfl l2 ?_
        refine px_q_aln (len := 1) (j := 1) rfl l1 ?_
        refine px_q_get (len := 3) (ci := 5) (k := 1) (fs := fs) (v := .int (Int32.ofNat n)) rfl rfl hx hlen ?_
        refine px_q_icmp (bb := false) (len := 3) (c := .ge) (off := 110) rfl (by simp only [px_cmp, decide_eq_false_iff_not, ge_iff_le, Int32.le_iff_toInt_le, ei, en]; omega) ?_
        refine px_q_aln (pc := 15) (len := 1) (j := 0) rfl l0 ?_
        refine px_q_get (len := 3) (ci := 3) (k := 3) (fs := fr) (v := .int (Int32.ofNat c)) rfl rfl hr hlin ?_
        refine px_Z_its (pc1 := 21) (lv1 := lv) (st1 := [.int 7, .int (Int32.ofNat c)]) (hp1 := hp) 1 (fun _ _ _ _ => rfl) ?_
        refine px_q_icmp (bb := bb) (len := 3) (c := .ge) (off := 101) rfl hb ?_
        cases bb
        · exact h
        · exact h
      by_cases h7 : c < 7
      · obtain ⟨k, hk, k1, k2, k3⟩ := rd_cl_ok (g i)
        have t := List.all_eq_true.mp (List.all_eq_true.mp rd_t54 c (List.mem_range.mpr h7)) k hk
        unfold rd_e at t
        split at t
        rotate_left
        · cases t
        rename_i o ho
        simp only [Bool.and_eq_true, List.all_eq_true, List.isEmpty_iff] at t
        generalize hlA : px_st1 lv 3 (.int (g i)) = lvA
        have a0 : px_find 0 lvA = some (.ref 54) := by rw [← hlA]; exact px_st1_nr l0
        have a1 : px_find 1 lvA = some (.ref 12) := by rw [← hlA]; exact px_st1_nr l1
        have a2 : px_find 2 lvA = some (.int (Int32.ofNat i)) := by rw [← hlA]; exact ab_sto1_find l2 (by decide) (fun _ hc => by cases hc)
        have a3 : px_find 3 lvA = some (.int (g i)) := by rw [← hlA]; exact px_st1_at _ _ _
        have hlv : ab_lv (fun _ => Int32.ofNat i) hp (rd_A 54 (c : Nat) k.1 k.2.1).1 lvA := by
          intro j z hz
          simp only [rd_A, List.mem_cons, Prod.mk.injEq, List.not_mem_nil, or_false] at hz
          rcases hz with ⟨rfl, rfl⟩ | ⟨rfl, rfl⟩ | ⟨rfl, rfl⟩ | ⟨rfl, rfl⟩
          · exact ⟨_, a0, ⟨rfl, List.mem_cons_self⟩, ab_o_none _ _ _ _⟩
          · exact ⟨_, a1, ⟨rfl, List.mem_cons_self⟩, ab_o_none _ _ _ _⟩
          · exact ⟨_, a2, ⟨rfl, ab_i32 _⟩, fun l hl => by cases hl; exact ⟨_, rfl, rfl⟩⟩
          · exact ⟨_, a3, ⟨rfl, k1, k2⟩, ab_o_none _ _ _ _⟩
        rcases ex_goS (fun _ h => absurd h List.not_mem_nil) ho (xs := fun _ => Int32.ofNat i) (γ := fun _ => 0) (lv := lvA) (st := []) (hp := hp) ⟨hlv, trivial, hG, ex_ov1 hc3 (by omega) (by omega), fun j q hq => (by simp [rd_A] at hq), fun i hi => (by cases hi), fun q hq => (by cases hq)⟩ with ⟨r, hp', q, m1, -⟩ | ⟨pc', lv', st', hp1, A', m1, m2, m3, m4⟩
        · rw [t.1] at m1
          cases m1
        obtain ⟨q1, q2⟩ := t.2 _ m1
        have q1 := Nat.eq_of_beq_eq_true q1
        simp only at q1
        subst q1
        obtain ⟨γ2, -, h9, -⟩ := ac_le_ok q2 m2
        obtain ⟨b1, b2, b3, b4, -⟩ := h9
        have est : st' = [] := by
          cases st' with
          | nil => rfl
          | cons v s => exact absurd b2 (by simp [rd_B, ab_st])
        subst est
        obtain ⟨u0, y0, o0⟩ := b1 0 _ (List.mem_cons_self)
        obtain ⟨u1, y1, o1⟩ := b1 1 _ (List.mem_cons_of_mem _ List.mem_cons_self)
        obtain ⟨u2, y2, o2⟩ := b1 2 _ (List.mem_cons_of_mem _ (List.mem_cons_of_mem _ List.mem_cons_self))
        obtain ⟨c0, rfl, e0⟩ := ab_f2 o0.1
        cases List.mem_singleton.mp e0
        obtain ⟨c1, rfl, e1'⟩ := ab_f2 o1.1
        cases List.mem_singleton.mp e1'
        obtain ⟨rfl, -, -⟩ := ex_org o2
        obtain ⟨z, z1, -⟩ := ex_fv (c := 54) (k := 3) (by decide +kernel) b3
        have zz := b4 _ List.mem_cons_self _ z1
        have w1 : ((c : Nat) : Int) + k.2.2 ≤ z.toInt := zz.2.1
        have w2 : z.toInt ≤ ((c : Nat) : Int) + k.2.2 := zz.2.2
        have hb1 : rp_n (xr_f (g i)) ≤ 1 := by cases xr_f (g i) <;> decide
        have hz : z = Int32.ofNat (c + rp_n (xr_f (g i))) := by
          rw [← Int32.toInt_inj, nm_ofNat_toInt (c + rp_n (xr_f (g i))) (by omega)]
          omega
        subst hz
        obtain ⟨hp', v1, v2, v3, v4⟩ := ih (i + 1) (c + rp_n (xr_f (g i))) (px_st1 lv' 2 (.int (Int32.ofNat (i + 1)))) hp1 b3 (ex_fv_fr m3 (by decide) hl) (m3.1 _ _ (by decide) hs) z1 (by omega) (by omega) (by omega) (px_st1_nr y0) (px_st1_nr y1) (px_st1_at _ _ _)
        refine ⟨hp', pre _ _ false (by simp only [px_cmp, decide_eq_false_iff_not, ge_iff_le, Int32.le_iff_toInt_le, ec, show (7 : Int32).toInt = 7 from rfl]; omega) ?_, v2, by rw [xr_go h1 h7]; exact v3, px_fr_tr m3 v4⟩
        refine px_q_aln (pc := 24) (len := 1) (j := 1) rfl l1 ?_
        refine px_q_get (len := 3) (ci := 5) (k := 0) (fs := fs) (v := .ref 13) rfl rfl hx hsg ?_
        refine px_q_iln (len := 1) (j := 2) rfl l2 ?_
        refine px_q_iald (len := 1) rfl hs rfl (nm_ixR _ 40 (by omega) (by omega)) ?_
        rw [hin]
        refine px_Z_its (pc1 := 31) (lv1 := lvA) (st1 := []) (hp1 := hp) 1 (fun _ _ _ _ => by rw [← hlA]; rfl) ?_
        refine m4 _ _ ?_
        refine px_q_iinc (len := 3) (j := 2) (n := 1) rfl y2 rfl ?_
        rw [e1]
        exact px_Z_its (pc1 := 7) (lv1 := px_st1 lv' 2 (.int (Int32.ofNat (i + 1)))) (st1 := []) (hp1 := hp1) 1 (fun _ _ _ _ => rfl) v1
      · refine ⟨hp, pre _ _ true (by simp only [px_cmp, decide_eq_true_eq, ge_iff_le, Int32.le_iff_toInt_le, ec, show (7 : Int32).toInt = 7 from rfl]; omega) fin, hG, ?_, px_fr_rf _ _ _⟩
        unfold xr
        rw [if_neg (by omega)]
        exact hc3
    · refine ⟨hp, ?_, hG, ?_, px_fr_rf _ _ _⟩
      · refine px_q_iln (len := 1) (j := 2) rfl l2 ?_
        refine px_q_aln (len := 1) (j := 1) rfl l1 ?_
        refine px_q_get (len := 3) (ci := 5) (k := 1) (fs := fs) (v := .int (Int32.ofNat n)) rfl rfl hx hlen ?_
        exact px_q_icmp (bb := true) (len := 3) (c := .ge) (off := 110) rfl (by simp only [px_cmp, decide_eq_true_eq, ge_iff_le, Int32.le_iff_toInt_le, ei, en]; omega) fin
      · unfold xr
        rw [if_neg (by omega)]
        exact hc3
def rd_B7_54 : ac_S := ([(0, ((2, 0, 0, [54]), none)), (1, ((2, 0, 0, [12]), none)), (2, ((0, 0, 0, []), none))], [], [(54, 3, 0, 0, 0, [])], [], [], [])
def rd_e0_54 : Bool := match ex_runS [] [] [(54, 3)] [] mi_Rule_read mm_Rule_read [(2, 0, 0, [54]), (2, 0, 0, [12])] [] [7] with
  | some o => o.1.isEmpty && o.2.all (fun q => Nat.beq q.1 7 && ac_le nm_GH none q.2 rd_B7_54)
  | none => false
set_option maxRecDepth 1000000 in
theorem rd_e0t54 : rd_e0_54 = true := by decide +kernel
theorem rd_C54 {hp : px_H} {n : Nat} {g : Nat → Int32} (hG : ab_h nm_GH hp) (hl : ac_fv hp 12 1 = some (.int (Int32.ofNat n))) (hn4 : n ≤ 40) (hs : hp[13]? = some (.inl (11, 40, .inl g))) : ∃ hp' : px_H, px_C nm_T nm_P mi_Rule_read [.ref 54, .ref 12] hp none hp' ∧ ab_h nm_GH hp' ∧ ac_fv hp' 54 3 = some (.int (Int32.ofNat (xr g n 41 0 0))) ∧ px_fr [(54, 3)] [55, 56, 57] hp hp' := by
  have t := rd_e0t54
  unfold rd_e0_54 at t
  split at t
  rotate_left
  · cases t
  rename_i o ho
  simp only [Bool.and_eq_true, List.all_eq_true, List.isEmpty_iff] at t
  rcases ex_runS_ok (fun _ h => absurd h List.not_mem_nil) rfl (Nat.le_of_ble_eq_true rfl) ho hG (av := [.ref 54, .ref 12]) ⟨⟨rfl, List.mem_cons_self⟩, ⟨rfl, List.mem_cons_self⟩, trivial⟩ (fun q hq => (by cases hq)) with ⟨r, hp', q, m1, -⟩ | ⟨pc', lv, st, hp1, A', m1, m2, m3, m4⟩
  · rw [t.1] at m1
    cases m1
  obtain ⟨q1, q2⟩ := t.2 _ m1
  have q1 := Nat.eq_of_beq_eq_true q1
  simp only at q1
  subst q1
  obtain ⟨γ2, -, h9, -⟩ := ac_le_ok q2 m2
  obtain ⟨b1, b2, b3, b4, -⟩ := h9
  have est : st = [] := by
    cases st with
    | nil => rfl
    | cons v s => exact absurd b2 (by simp [rd_B7_54, ab_st])
  subst est
  obtain ⟨u0, y0, o0⟩ := b1 0 _ (List.mem_cons_self)
  obtain ⟨u1, y1, o1⟩ := b1 1 _ (List.mem_cons_of_mem _ List.mem_cons_self)
  obtain ⟨u2, y2, o2⟩ := b1 2 _ (List.mem_cons_of_mem _ (List.mem_cons_of_mem _ List.mem_cons_self))
  obtain ⟨c0, rfl, e0⟩ := ab_f2 o0.1
  cases List.mem_singleton.mp e0
  obtain ⟨c1, rfl, e1'⟩ := ab_f2 o1.1
  cases List.mem_singleton.mp e1'
  have zero : ∀ {x : Int32}, ab_in (0, 0) x.toInt → x = Int32.ofNat 0 := by
    intro x hx
    have : (0 : Int) ≤ x.toInt := hx.1
    have : x.toInt ≤ (0 : Int) := hx.2
    rw [← Int32.toInt_inj, show (Int32.ofNat 0).toInt = 0 from rfl]
    omega
  obtain ⟨x2, rfl, i2⟩ := ab_f0 o2.1
  have i2 := zero i2
  subst i2
  obtain ⟨z, z1, -⟩ := ex_fv (c := 54) (k := 3) (by decide +kernel) b3
  have zz := zero (b4 _ List.mem_cons_self _ z1).2
  subst zz
  obtain ⟨hp', v1, v2, v3, v4⟩ := rd_l54 hn4 41 0 0 lv hp1 b3 (ex_fv_fr m3 (by decide) hl) (m3.1 _ _ (by decide) hs) z1 (by decide) (by omega) (by omega) y0 y1 y2
  exact ⟨hp', m4 _ _ v1, v2, v3, px_fr_tr (px_fr_mono m3 (by decide) (fun q hq => (by cases hq))) v4⟩
/-! rule 58 -/
set_option maxRecDepth 1000000 in
theorem rd_t58 : (List.range 7).all (fun c => rd_cl.all (fun k => rd_e 58 (c : Nat) k.1 k.2.1 k.2.2)) = true := by decide +kernel
theorem rd_l58 {n : Nat} {g : Nat → Int32} (hn4 : n ≤ 40) : ∀ (m i c : Nat) (lv : List (Nat × Value)) (hp : px_H), ab_h nm_GH hp → ac_fv hp 12 1 = some (.int (Int32.ofNat n)) → hp[13]? = some (.inl (11, 40, .inl g)) → ac_fv hp 58 3 = some (.int (Int32.ofNat c)) → c ≤ 7 → i ≤ n → n < i + m → px_find 0 lv = some (.ref 58) → px_find 1 lv = some (.ref 12) → px_find 2 lv = some (.int (Int32.ofNat i)) →
    ∃ hp' : px_H, px_Z nm_T none nm_P mm_Rule_read 7 lv [] hp none hp' ∧ ab_h nm_GH hp' ∧ ac_fv hp' 58 3 = some (.int (Int32.ofNat (xr g n m i c))) ∧ px_fr [(58, 3)] [59, 60, 61] hp hp' := by
  intro m
  induction m with
  | zero => intro i c lv hp _ _ _ _ _ h1 h2; omega
  | succ m ih =>
    intro i c lv hp hG hl hs hc3 hc7 hi hm l0 l1 l2
    obtain ⟨fs, hx, -, -⟩ := ac_obj hG (c := 12) rfl
    obtain ⟨fr, hr, -, -⟩ := ac_obj hG (c := 58) rfl
    have hlen := dr_fvo hx hl
    have hlin := dr_fvo hr hc3
    have hsg := ac_refF hG (ci := 5) (k := 0) (c := 12) (d := 13) rfl hx
    have en := nm_ofNat_toInt n (by omega)
    have ei := nm_ofNat_toInt i (by omega)
    have ec := nm_ofNat_toInt c (by omega)
    have hin : (Int32.ofNat i).toNatClampNeg = i := nm_ofNat_clamp i (by omega)
    have e1 : Int32.ofNat i + Int32.ofInt 1 = Int32.ofNat (i + 1) := by rw [Int32.ofNat_add]; rfl
    have fin : px_Z nm_T none nm_P mm_Rule_read 122 lv [] hp none hp := px_q_ret (len := 1) rfl rfl
    by_cases h1 : i < n
    · have pre : ∀ (r : Option Value) (h9 : px_H) (bb : Bool), px_cmp .ge (Int32.ofNat c) 7 = bb → px_Z nm_T none nm_P mm_Rule_read (bif bb then 122 else 24) lv [] hp r h9 → px_Z nm_T none nm_P mm_Rule_read 7 lv [] hp r h9 := by
        intro r h9 bb hb h
        refine px_q_iln (len := 1) (j := 2) rfl l2 ?_
        refine px_q_aln (len := 1) (j := 1) rfl l1 ?_
        refine px_q_get (len := 3) (ci := 5) (k := 1) (fs := fs) (v := .int (Int32.ofNat n)) rfl rfl hx hlen ?_
        refine px_q_icmp (bb := false) (len := 3) (c := .ge) (off := 110) rfl (by simp only [px_cmp, decide_eq_false_iff_not, ge_iff_le, Int32.le_iff_toInt_le, ei, en]; omega) ?_
        refine px_q_aln (pc := 15) (len := 1) (j := 0) rfl l0 ?_
        refine px_q_get (len := 3) (ci := 3) (k := 3) (fs := fr) (v := .int (Int32.ofNat c)) rfl rfl hr hlin ?_
        refine px_Z_its (pc1 := 21) (lv1 := lv) (st1 := [.int 7, .int (Int32.ofNat c)]) (hp1 := hp) 1 (fun _ _ _ _ => rfl) ?_
        refine px_q_icmp (bb := bb) (len := 3) (c := .ge) (off := 101) rfl hb ?_
        cases bb
        · exact h
        · exact h
      by_cases h7 : c < 7
      · obtain ⟨k, hk, k1, k2, k3⟩ := rd_cl_ok (g i)
        have t := List.all_eq_true.mp (List.all_eq_true.mp rd_t58 c (List.mem_range.mpr h7)) k hk
        unfold rd_e at t
        split at t
        rotate_left
        · cases t
        rename_i o ho
        simp only [Bool.and_eq_true, List.all_eq_true, List.isEmpty_iff] at t
        generalize hlA : px_st1 lv 3 (.int (g i)) = lvA
        have a0 : px_find 0 lvA = some (.ref 58) := by rw [← hlA]; exact px_st1_nr l0
        have a1 : px_find 1 lvA = some (.ref 12) := by rw [← hlA]; exact px_st1_nr l1
        have a2 : px_find 2 lvA = some (.int (Int32.ofNat i)) := by rw [← hlA]; exact ab_sto1_find l2 (by decide) (fun _ hc => by cases hc)
        have a3 : px_find 3 lvA = some (.int (g i)) := by rw [← hlA]; exact px_st1_at _ _ _
        have hlv : ab_lv (fun _ => Int32.ofNat i) hp (rd_A 58 (c : Nat) k.1 k.2.1).1 lvA := by
          intro j z hz
          simp only [rd_A, List.mem_cons, Prod.mk.injEq, List.not_mem_nil, or_false] at hz
          rcases hz with ⟨rfl, rfl⟩ | ⟨rfl, rfl⟩ | ⟨rfl, rfl⟩ | ⟨rfl, rfl⟩
          · exact ⟨_, a0, ⟨rfl, List.mem_cons_self⟩, ab_o_none _ _ _ _⟩
          · exact ⟨_, a1, ⟨rfl, List.mem_cons_self⟩, ab_o_none _ _ _ _⟩
          · exact ⟨_, a2, ⟨rfl, ab_i32 _⟩, fun l hl => by cases hl; exact ⟨_, rfl, rfl⟩⟩
          · exact ⟨_, a3, ⟨rfl, k1, k2⟩, ab_o_none _ _ _ _⟩
        rcases ex_goS (fun _ h => absurd h List.not_mem_nil) ho (xs := fun _ => Int32.ofNat i) (γ := fun _ => 0) (lv := lvA) (st := []) (hp := hp) ⟨hlv, trivial, hG, ex_ov1 hc3 (by omega) (by omega), fun j q hq => (by simp [rd_A] at hq), fun i hi => (by cases hi), fun q hq => (by cases hq)⟩ with ⟨r, hp', q, m1, -⟩ | ⟨pc', lv', st', hp1, A', m1, m2, m3, m4⟩
        · rw [t.1] at m1
          cases m1
        obtain ⟨q1, q2⟩ := t.2 _ m1
        have q1 := Nat.eq_of_beq_eq_true q1
        simp only at q1
        subst q1
        obtain ⟨γ2, -, h9, -⟩ := ac_le_ok q2 m2
        obtain ⟨b1, b2, b3, b4, -⟩ := h9
        have est : st' = [] := by
          cases st' with
          | nil => rfl
          | cons v s => exact absurd b2 (by simp [rd_B, ab_st])
        subst est
        obtain ⟨u0, y0, o0⟩ := b1 0 _ (List.mem_cons_self)
        obtain ⟨u1, y1, o1⟩ := b1 1 _ (List.mem_cons_of_mem _ List.mem_cons_self)
        obtain ⟨u2, y2, o2⟩ := b1 2 _ (List.mem_cons_of_mem _ (List.mem_cons_of_mem _ List.mem_cons_self))
        obtain ⟨c0, rfl, e0⟩ := ab_f2 o0.1
        cases List.mem_singleton.mp e0
        obtain ⟨c1, rfl, e1'⟩ := ab_f2 o1.1
        cases List.mem_singleton.mp e1'
        obtain ⟨rfl, -, -⟩ := ex_org o2
        obtain ⟨z, z1, -⟩ := ex_fv (c := 58) (k := 3) (by decide +kernel) b3
        have zz := b4 _ List.mem_cons_self _ z1
        have w1 : ((c : Nat) : Int) + k.2.2 ≤ z.toInt := zz.2.1
        have w2 : z.toInt ≤ ((c : Nat) : Int) + k.2.2 := zz.2.2
        have hb1 : rp_n (xr_f (g i)) ≤ 1 := by cases xr_f (g i) <;> decide
        have hz : z = Int32.ofNat (c + rp_n (xr_f (g i))) := by
          rw [← Int32.toInt_inj, nm_ofNat_toInt (c + rp_n (xr_f (g i))) (by omega)]
          omega
        subst hz
        obtain ⟨hp', v1, v2, v3, v4⟩ := ih (i + 1) (c + rp_n (xr_f (g i))) (px_st1 lv' 2 (.int (Int32.ofNat (i + 1)))) hp1 b3 (ex_fv_fr m3 (by decide) hl) (m3.1 _ _ (by decide) hs) z1 (by omega) (by omega) (by omega) (px_st1_nr y0) (px_st1_nr y1) (px_st1_at _ _ _)
        refine ⟨hp', pre _ _ false (by simp only [px_cmp, decide_eq_false_iff_not, ge_iff_le, Int32.le_iff_toInt_le, ec, show (7 : Int32).toInt = 7 from rfl]; omega) ?_, v2, by rw [xr_go h1 h7]; exact v3, px_fr_tr m3 v4⟩
        refine px_q_aln (pc := 24) (len := 1) (j := 1) rfl l1 ?_
        refine px_q_get (len := 3) (ci := 5) (k := 0) (fs := fs) (v := .ref 13) rfl rfl hx hsg ?_
        refine px_q_iln (len := 1) (j := 2) rfl l2 ?_
        refine px_q_iald (len := 1) rfl hs rfl (nm_ixR _ 40 (by omega) (by omega)) ?_
        rw [hin]
        refine px_Z_its (pc1 := 31) (lv1 := lvA) (st1 := []) (hp1 := hp) 1 (fun _ _ _ _ => by rw [← hlA]; rfl) ?_
        refine m4 _ _ ?_
        refine px_q_iinc (len := 3) (j := 2) (n := 1) rfl y2 rfl ?_
        rw [e1]
        exact px_Z_its (pc1 := 7) (lv1 := px_st1 lv' 2 (.int (Int32.ofNat (i + 1)))) (st1 := []) (hp1 := hp1) 1 (fun _ _ _ _ => rfl) v1
      · refine ⟨hp, pre _ _ true (by simp only [px_cmp, decide_eq_true_eq, ge_iff_le, Int32.le_iff_toInt_le, ec, show (7 : Int32).toInt = 7 from rfl]; omega) fin, hG, ?_, px_fr_rf _ _ _⟩
        unfold xr
        rw [if_neg (by omega)]
        exact hc3
    · refine ⟨hp, ?_, hG, ?_, px_fr_rf _ _ _⟩
      · refine px_q_iln (len := 1) (j := 2) rfl l2 ?_
        refine px_q_aln (len := 1) (j := 1) rfl l1 ?_
        refine px_q_get (len := 3) (ci := 5) (k := 1) (fs := fs) (v := .int (Int32.ofNat n)) rfl rfl hx hlen ?_
        exact px_q_icmp (bb := true) (len := 3) (c := .ge) (off := 110) rfl (by simp only [px_cmp, decide_eq_true_eq, ge_iff_le, Int32.le_iff_toInt_le, ei, en]; omega) fin
      · unfold xr
        rw [if_neg (by omega)]
        exact hc3
def rd_B7_58 : ac_S := ([(0, ((2, 0, 0, [58]), none)), (1, ((2, 0, 0, [12]), none)), (2, ((0, 0, 0, []), none))], [], [(58, 3, 0, 0, 0, [])], [], [], [])
def rd_e0_58 : Bool := match ex_runS [] [] [(58, 3)] [] mi_Rule_read mm_Rule_read [(2, 0, 0, [58]), (2, 0, 0, [12])] [] [7] with
  | some o => o.1.isEmpty && o.2.all (fun q => Nat.beq q.1 7 && ac_le nm_GH none q.2 rd_B7_58)
  | none => false
set_option maxRecDepth 1000000 in
theorem rd_e0t58 : rd_e0_58 = true := by decide +kernel
theorem rd_C58 {hp : px_H} {n : Nat} {g : Nat → Int32} (hG : ab_h nm_GH hp) (hl : ac_fv hp 12 1 = some (.int (Int32.ofNat n))) (hn4 : n ≤ 40) (hs : hp[13]? = some (.inl (11, 40, .inl g))) : ∃ hp' : px_H, px_C nm_T nm_P mi_Rule_read [.ref 58, .ref 12] hp none hp' ∧ ab_h nm_GH hp' ∧ ac_fv hp' 58 3 = some (.int (Int32.ofNat (xr g n 41 0 0))) ∧ px_fr [(58, 3)] [59, 60, 61] hp hp' := by
  have t := rd_e0t58
  unfold rd_e0_58 at t
  split at t
  rotate_left
  · cases t
  rename_i o ho
  simp only [Bool.and_eq_true, List.all_eq_true, List.isEmpty_iff] at t
  rcases ex_runS_ok (fun _ h => absurd h List.not_mem_nil) rfl (Nat.le_of_ble_eq_true rfl) ho hG (av := [.ref 58, .ref 12]) ⟨⟨rfl, List.mem_cons_self⟩, ⟨rfl, List.mem_cons_self⟩, trivial⟩ (fun q hq => (by cases hq)) with ⟨r, hp', q, m1, -⟩ | ⟨pc', lv, st, hp1, A', m1, m2, m3, m4⟩
  · rw [t.1] at m1
    cases m1
  obtain ⟨q1, q2⟩ := t.2 _ m1
  have q1 := Nat.eq_of_beq_eq_true q1
  simp only at q1
  subst q1
  obtain ⟨γ2, -, h9, -⟩ := ac_le_ok q2 m2
  obtain ⟨b1, b2, b3, b4, -⟩ := h9
  have est : st = [] := by
    cases st with
    | nil => rfl
    | cons v s => exact absurd b2 (by simp [rd_B7_58, ab_st])
  subst est
  obtain ⟨u0, y0, o0⟩ := b1 0 _ (List.mem_cons_self)
  obtain ⟨u1, y1, o1⟩ := b1 1 _ (List.mem_cons_of_mem _ List.mem_cons_self)
  obtain ⟨u2, y2, o2⟩ := b1 2 _ (List.mem_cons_of_mem _ (List.mem_cons_of_mem _ List.mem_cons_self))
  obtain ⟨c0, rfl, e0⟩ := ab_f2 o0.1
  cases List.mem_singleton.mp e0
  obtain ⟨c1, rfl, e1'⟩ := ab_f2 o1.1
  cases List.mem_singleton.mp e1'
  have zero : ∀ {x : Int32}, ab_in (0, 0) x.toInt → x = Int32.ofNat 0 := by
    intro x hx
    have : (0 : Int) ≤ x.toInt := hx.1
    have : x.toInt ≤ (0 : Int) := hx.2
    rw [← Int32.toInt_inj, show (Int32.ofNat 0).toInt = 0 from rfl]
    omega
  obtain ⟨x2, rfl, i2⟩ := ab_f0 o2.1
  have i2 := zero i2
  subst i2
  obtain ⟨z, z1, -⟩ := ex_fv (c := 58) (k := 3) (by decide +kernel) b3
  have zz := zero (b4 _ List.mem_cons_self _ z1).2
  subst zz
  obtain ⟨hp', v1, v2, v3, v4⟩ := rd_l58 hn4 41 0 0 lv hp1 b3 (ex_fv_fr m3 (by decide) hl) (m3.1 _ _ (by decide) hs) z1 (by decide) (by omega) (by omega) y0 y1 y2
  exact ⟨hp', m4 _ _ v1, v2, v3, px_fr_tr (px_fr_mono m3 (by decide) (fun q hq => (by cases hq))) v4⟩
/-! rule 62 -/
set_option maxRecDepth 1000000 in
theorem rd_t62 : (List.range 7).all (fun c => rd_cl.all (fun k => rd_e 62 (c : Nat) k.1 k.2.1 k.2.2)) = true := by decide +kernel
theorem rd_l62 {n : Nat} {g : Nat → Int32} (hn4 : n ≤ 40) : ∀ (m i c : Nat) (lv : List (Nat × Value)) (hp : px_H), ab_h nm_GH hp → ac_fv hp 12 1 = some (.int (Int32.ofNat n)) → hp[13]? = some (.inl (11, 40, .inl g)) → ac_fv hp 62 3 = some (.int (Int32.ofNat c)) → c ≤ 7 → i ≤ n → n < i + m → px_find 0 lv = some (.ref 62) → px_find 1 lv = some (.ref 12) → px_find 2 lv = some (.int (Int32.ofNat i)) →
    ∃ hp' : px_H, px_Z nm_T none nm_P mm_Rule_read 7 lv [] hp none hp' ∧ ab_h nm_GH hp' ∧ ac_fv hp' 62 3 = some (.int (Int32.ofNat (xr g n m i c))) ∧ px_fr [(62, 3)] [63, 64, 65] hp hp' := by
  intro m
  induction m with
  | zero => intro i c lv hp _ _ _ _ _ h1 h2; omega
  | succ m ih =>
    intro i c lv hp hG hl hs hc3 hc7 hi hm l0 l1 l2
    obtain ⟨fs, hx, -, -⟩ := ac_obj hG (c := 12) rfl
    obtain ⟨fr, hr, -, -⟩ := ac_obj hG (c := 62) rfl
    have hlen := dr_fvo hx hl
    have hlin := dr_fvo hr hc3
    have hsg := ac_refF hG (ci := 5) (k := 0) (c := 12) (d := 13) rfl hx
    have en := nm_ofNat_toInt n (by omega)
    have ei := nm_ofNat_toInt i (by omega)
    have ec := nm_ofNat_toInt c (by omega)
    have hin : (Int32.ofNat i).toNatClampNeg = i := nm_ofNat_clamp i (by omega)
    have e1 : Int32.ofNat i + Int32.ofInt 1 = Int32.ofNat (i + 1) := by rw [Int32.ofNat_add]; rfl
    have fin : px_Z nm_T none nm_P mm_Rule_read 122 lv [] hp none hp := px_q_ret (len := 1) rfl rfl
    by_cases h1 : i < n
    · have pre : ∀ (r : Option Value) (h9 : px_H) (bb : Bool), px_cmp .ge (Int32.ofNat c) 7 = bb → px_Z nm_T none nm_P mm_Rule_read (bif bb then 122 else 24) lv [] hp r h9 → px_Z nm_T none nm_P mm_Rule_read 7 lv [] hp r h9 := by
        intro r h9 bb hb h
        refine px_q_iln (len := 1) (j := 2) rfl l2 ?_
        refine px_q_aln (len := 1) (j := 1) rfl l1 ?_
        refine px_q_get (len := 3) (ci := 5) (k := 1) (fs := fs) (v := .int (Int32.ofNat n)) rfl rfl hx hlen ?_
        refine px_q_icmp (bb := false) (len := 3) (c := .ge) (off := 110) rfl (by simp only [px_cmp, decide_eq_false_iff_not, ge_iff_le, Int32.le_iff_toInt_le, ei, en]; omega) ?_
        refine px_q_aln (pc := 15) (len := 1) (j := 0) rfl l0 ?_
        refine px_q_get (len := 3) (ci := 3) (k := 3) (fs := fr) (v := .int (Int32.ofNat c)) rfl rfl hr hlin ?_
        refine px_Z_its (pc1 := 21) (lv1 := lv) (st1 := [.int 7, .int (Int32.ofNat c)]) (hp1 := hp) 1 (fun _ _ _ _ => rfl) ?_
        refine px_q_icmp (bb := bb) (len := 3) (c := .ge) (off := 101) rfl hb ?_
        cases bb
        · exact h
        · exact h
      by_cases h7 : c < 7
      · obtain ⟨k, hk, k1, k2, k3⟩ := rd_cl_ok (g i)
        have t := List.all_eq_true.mp (List.all_eq_true.mp rd_t62 c (List.mem_range.mpr h7)) k hk
        unfold rd_e at t
        split at t
        rotate_left
        · cases t
        rename_i o ho
        simp only [Bool.and_eq_true, List.all_eq_true, List.isEmpty_iff] at t
        generalize hlA : px_st1 lv 3 (.int (g i)) = lvA
        have a0 : px_find 0 lvA = some (.ref 62) := by rw [← hlA]; exact px_st1_nr l0
        have a1 : px_find 1 lvA = some (.ref 12) := by rw [← hlA]; exact px_st1_nr l1
        have a2 : px_find 2 lvA = some (.int (Int32.ofNat i)) := by rw [← hlA]; exact ab_sto1_find l2 (by decide) (fun _ hc => by cases hc)
        have a3 : px_find 3 lvA = some (.int (g i)) := by rw [← hlA]; exact px_st1_at _ _ _
        have hlv : ab_lv (fun _ => Int32.ofNat i) hp (rd_A 62 (c : Nat) k.1 k.2.1).1 lvA := by
          intro j z hz
          simp only [rd_A, List.mem_cons, Prod.mk.injEq, List.not_mem_nil, or_false] at hz
          rcases hz with ⟨rfl, rfl⟩ | ⟨rfl, rfl⟩ | ⟨rfl, rfl⟩ | ⟨rfl, rfl⟩
          · exact ⟨_, a0, ⟨rfl, List.mem_cons_self⟩, ab_o_none _ _ _ _⟩
          · exact ⟨_, a1, ⟨rfl, List.mem_cons_self⟩, ab_o_none _ _ _ _⟩
          · exact ⟨_, a2, ⟨rfl, ab_i32 _⟩, fun l hl => by cases hl; exact ⟨_, rfl, rfl⟩⟩
          · exact ⟨_, a3, ⟨rfl, k1, k2⟩, ab_o_none _ _ _ _⟩
        rcases ex_goS (fun _ h => absurd h List.not_mem_nil) ho (xs := fun _ => Int32.ofNat i) (γ := fun _ => 0) (lv := lvA) (st := []) (hp := hp) ⟨hlv, trivial, hG, ex_ov1 hc3 (by omega) (by omega), fun j q hq => (by simp [rd_A] at hq), fun i hi => (by cases hi), fun q hq => (by cases hq)⟩ with ⟨r, hp', q, m1, -⟩ | ⟨pc', lv', st', hp1, A', m1, m2, m3, m4⟩
        · rw [t.1] at m1
          cases m1
        obtain ⟨q1, q2⟩ := t.2 _ m1
        have q1 := Nat.eq_of_beq_eq_true q1
        simp only at q1
        subst q1
        obtain ⟨γ2, -, h9, -⟩ := ac_le_ok q2 m2
        obtain ⟨b1, b2, b3, b4, -⟩ := h9
        have est : st' = [] := by
          cases st' with
          | nil => rfl
          | cons v s => exact absurd b2 (by simp [rd_B, ab_st])
        subst est
        obtain ⟨u0, y0, o0⟩ := b1 0 _ (List.mem_cons_self)
        obtain ⟨u1, y1, o1⟩ := b1 1 _ (List.mem_cons_of_mem _ List.mem_cons_self)
        obtain ⟨u2, y2, o2⟩ := b1 2 _ (List.mem_cons_of_mem _ (List.mem_cons_of_mem _ List.mem_cons_self))
        obtain ⟨c0, rfl, e0⟩ := ab_f2 o0.1
        cases List.mem_singleton.mp e0
        obtain ⟨c1, rfl, e1'⟩ := ab_f2 o1.1
        cases List.mem_singleton.mp e1'
        obtain ⟨rfl, -, -⟩ := ex_org o2
        obtain ⟨z, z1, -⟩ := ex_fv (c := 62) (k := 3) (by decide +kernel) b3
        have zz := b4 _ List.mem_cons_self _ z1
        have w1 : ((c : Nat) : Int) + k.2.2 ≤ z.toInt := zz.2.1
        have w2 : z.toInt ≤ ((c : Nat) : Int) + k.2.2 := zz.2.2
        have hb1 : rp_n (xr_f (g i)) ≤ 1 := by cases xr_f (g i) <;> decide
        have hz : z = Int32.ofNat (c + rp_n (xr_f (g i))) := by
          rw [← Int32.toInt_inj, nm_ofNat_toInt (c + rp_n (xr_f (g i))) (by omega)]
          omega
        subst hz
        obtain ⟨hp', v1, v2, v3, v4⟩ := ih (i + 1) (c + rp_n (xr_f (g i))) (px_st1 lv' 2 (.int (Int32.ofNat (i + 1)))) hp1 b3 (ex_fv_fr m3 (by decide) hl) (m3.1 _ _ (by decide) hs) z1 (by omega) (by omega) (by omega) (px_st1_nr y0) (px_st1_nr y1) (px_st1_at _ _ _)
        refine ⟨hp', pre _ _ false (by simp only [px_cmp, decide_eq_false_iff_not, ge_iff_le, Int32.le_iff_toInt_le, ec, show (7 : Int32).toInt = 7 from rfl]; omega) ?_, v2, by rw [xr_go h1 h7]; exact v3, px_fr_tr m3 v4⟩
        refine px_q_aln (pc := 24) (len := 1) (j := 1) rfl l1 ?_
        refine px_q_get (len := 3) (ci := 5) (k := 0) (fs := fs) (v := .ref 13) rfl rfl hx hsg ?_
        refine px_q_iln (len := 1) (j := 2) rfl l2 ?_
        refine px_q_iald (len := 1) rfl hs rfl (nm_ixR _ 40 (by omega) (by omega)) ?_
        rw [hin]
        refine px_Z_its (pc1 := 31) (lv1 := lvA) (st1 := []) (hp1 := hp) 1 (fun _ _ _ _ => by rw [← hlA]; rfl) ?_
        refine m4 _ _ ?_
        refine px_q_iinc (len := 3) (j := 2) (n := 1) rfl y2 rfl ?_
        rw [e1]
        exact px_Z_its (pc1 := 7) (lv1 := px_st1 lv' 2 (.int (Int32.ofNat (i + 1)))) (st1 := []) (hp1 := hp1) 1 (fun _ _ _ _ => rfl) v1
      · refine ⟨hp, pre _ _ true (by simp only [px_cmp, decide_eq_true_eq, ge_iff_le, Int32.le_iff_toInt_le, ec, show (7 : Int32).toInt = 7 from rfl]; omega) fin, hG, ?_, px_fr_rf _ _ _⟩
        unfold xr
        rw [if_neg (by omega)]
        exact hc3
    · refine ⟨hp, ?_, hG, ?_, px_fr_rf _ _ _⟩
      · refine px_q_iln (len := 1) (j := 2) rfl l2 ?_
        refine px_q_aln (len := 1) (j := 1) rfl l1 ?_
        refine px_q_get (len := 3) (ci := 5) (k := 1) (fs := fs) (v := .int (Int32.ofNat n)) rfl rfl hx hlen ?_
        exact px_q_icmp (bb := true) (len := 3) (c := .ge) (off := 110) rfl (by simp only [px_cmp, decide_eq_true_eq, ge_iff_le, Int32.le_iff_toInt_le, ei, en]; omega) fin
      · unfold xr
        rw [if_neg (by omega)]
        exact hc3
def rd_B7_62 : ac_S := ([(0, ((2, 0, 0, [62]), none)), (1, ((2, 0, 0, [12]), none)), (2, ((0, 0, 0, []), none))], [], [(62, 3, 0, 0, 0, [])], [], [], [])
def rd_e0_62 : Bool := match ex_runS [] [] [(62, 3)] [] mi_Rule_read mm_Rule_read [(2, 0, 0, [62]), (2, 0, 0, [12])] [] [7] with
  | some o => o.1.isEmpty && o.2.all (fun q => Nat.beq q.1 7 && ac_le nm_GH none q.2 rd_B7_62)
  | none => false
set_option maxRecDepth 1000000 in
theorem rd_e0t62 : rd_e0_62 = true := by decide +kernel
theorem rd_C62 {hp : px_H} {n : Nat} {g : Nat → Int32} (hG : ab_h nm_GH hp) (hl : ac_fv hp 12 1 = some (.int (Int32.ofNat n))) (hn4 : n ≤ 40) (hs : hp[13]? = some (.inl (11, 40, .inl g))) : ∃ hp' : px_H, px_C nm_T nm_P mi_Rule_read [.ref 62, .ref 12] hp none hp' ∧ ab_h nm_GH hp' ∧ ac_fv hp' 62 3 = some (.int (Int32.ofNat (xr g n 41 0 0))) ∧ px_fr [(62, 3)] [63, 64, 65] hp hp' := by
  have t := rd_e0t62
  unfold rd_e0_62 at t
  split at t
  rotate_left
  · cases t
  rename_i o ho
  simp only [Bool.and_eq_true, List.all_eq_true, List.isEmpty_iff] at t
  rcases ex_runS_ok (fun _ h => absurd h List.not_mem_nil) rfl (Nat.le_of_ble_eq_true rfl) ho hG (av := [.ref 62, .ref 12]) ⟨⟨rfl, List.mem_cons_self⟩, ⟨rfl, List.mem_cons_self⟩, trivial⟩ (fun q hq => (by cases hq)) with ⟨r, hp', q, m1, -⟩ | ⟨pc', lv, st, hp1, A', m1, m2, m3, m4⟩
  · rw [t.1] at m1
    cases m1
  obtain ⟨q1, q2⟩ := t.2 _ m1
  have q1 := Nat.eq_of_beq_eq_true q1
  simp only at q1
  subst q1
  obtain ⟨γ2, -, h9, -⟩ := ac_le_ok q2 m2
  obtain ⟨b1, b2, b3, b4, -⟩ := h9
  have est : st = [] := by
    cases st with
    | nil => rfl
    | cons v s => exact absurd b2 (by simp [rd_B7_62, ab_st])
  subst est
  obtain ⟨u0, y0, o0⟩ := b1 0 _ (List.mem_cons_self)
  obtain ⟨u1, y1, o1⟩ := b1 1 _ (List.mem_cons_of_mem _ List.mem_cons_self)
  obtain ⟨u2, y2, o2⟩ := b1 2 _ (List.mem_cons_of_mem _ (List.mem_cons_of_mem _ List.mem_cons_self))
  obtain ⟨c0, rfl, e0⟩ := ab_f2 o0.1
  cases List.mem_singleton.mp e0
  obtain ⟨c1, rfl, e1'⟩ := ab_f2 o1.1
  cases List.mem_singleton.mp e1'
  have zero : ∀ {x : Int32}, ab_in (0, 0) x.toInt → x = Int32.ofNat 0 := by
    intro x hx
    have : (0 : Int) ≤ x.toInt := hx.1
    have : x.toInt ≤ (0 : Int) := hx.2
    rw [← Int32.toInt_inj, show (Int32.ofNat 0).toInt = 0 from rfl]
    omega
  obtain ⟨x2, rfl, i2⟩ := ab_f0 o2.1
  have i2 := zero i2
  subst i2
  obtain ⟨z, z1, -⟩ := ex_fv (c := 62) (k := 3) (by decide +kernel) b3
  have zz := zero (b4 _ List.mem_cons_self _ z1).2
  subst zz
  obtain ⟨hp', v1, v2, v3, v4⟩ := rd_l62 hn4 41 0 0 lv hp1 b3 (ex_fv_fr m3 (by decide) hl) (m3.1 _ _ (by decide) hs) z1 (by decide) (by omega) (by omega) y0 y1 y2
  exact ⟨hp', m4 _ _ v1, v2, v3, px_fr_tr (px_fr_mono m3 (by decide) (fun q hq => (by cases hq))) v4⟩
end mg_8

section mg_9
/-! rule and other: the text, and what is answered -/
def nm_R (hp : px_H) : Prop := ∃ (n : Nat) (f g : Nat → Int32), n ≤ 40 ∧ ac_fv hp 12 1 = some (.int (Int32.ofNat n)) ∧ ac_fv hp 69 22 = some (.int (Int32.ofNat n)) ∧ hp[13]? = some (.inl (11, 40, .inl f)) ∧ hp[na_tape]? = some (.inl (nr_tape, 40, .inl g)) ∧ ∀ i : Nat, i < 40 → f i = g i
def nm_Rf (ws : List (Nat × Nat)) (wa : List Nat) : Bool := !(ac_has ws 12 1) && (!(ac_has ws 69 22) && (!(ac_in 13 wa) && !(ac_in na_tape wa)))
theorem nm_R_fr {ws : List (Nat × Nat)} {wa : List Nat} {hp hp' : px_H} (h : px_fr ws wa hp hp') (hw : nm_Rf ws wa = true) (hR : nm_R hp) : nm_R hp' := by
  simp only [nm_Rf, Bool.and_eq_true, Bool.not_eq_true'] at hw
  obtain ⟨n, f, g, h0, h1, h2, h3, h4, h5⟩ := hR
  exact ⟨n, f, g, h0, ex_fv_fr h hw.1 h1, ex_fv_fr h hw.2.1 h2, h.1 _ _ (ac_in_no hw.2.2.1) h3, h.1 _ _ (ac_in_no hw.2.2.2) h4, h5⟩
theorem nm_R_arr {hp : px_H} {x y : Nat × vp_A} (hx : hp[105]? = some (.inl x)) (hR : nm_R hp) : nm_R (hp.set 105 (.inl y)) := by
  obtain ⟨n, f, g, h0, h1, h2, h3, h4, h5⟩ := hR
  exact ⟨n, f, g, h0, by rw [ac_fv_arr hx]; exact h1, by rw [ac_fv_arr hx]; exact h2, by rw [List.getElem?_set_ne (by decide)]; exact h3, by rw [List.getElem?_set_ne (by decide)]; exact h4, h5⟩
set_option maxRecDepth 1000000 in
theorem nm_R0 : nm_R nm_H1 := ⟨0, _, _, by decide, rfl, rfl, rfl, rfl, fun i hi => rfl⟩
/-- what two calls leave -/
def ex_twoR (X M : Nat) (cmp : Bool) (a a' : Nat) (t : List Value) (hp : px_H) : Prop :=
  ∃ (v v' : Int32) (hp1 hp2 : px_H), px_C nm_T nm_P X (.ref a :: t) hp (some (.int v)) hp1 ∧ ab_h nm_GH hp1 ∧ px_C nm_T nm_P M (.ref a' :: t) hp1 (some (.int v')) hp2 ∧ ab_h nm_GH hp2 ∧ (cmp = true → v = v') ∧ nm_R hp2
/-- the class's answer -/
def rp_XA (n : Nat) (g : Nat → Int32) : Int := if xf g (min n 20) n 21 0 0 < 0 then ((xr g n 41 0 0 : Nat) : Int) else -1 - xf g (min n 20) n 21 0 0
theorem xf_cg {g g' : Nat → Int32} {w n : Nat} (h : ∀ i, i < w → g i = g' i) : ∀ (m q i : Nat), xf g w n m q i = xf g' w n m q i
  | 0, _, _ => rfl
  | m + 1, q, i => by
    unfold xf
    by_cases hi : i < w
    · rw [if_pos hi, if_pos hi, h i hi]
      cases rp_bh q (g' i) with
      | none => rfl
      | some q' => exact xf_cg h m q' (i + 1)
    · rw [if_neg hi, if_neg hi]
theorem xr_cg {g g' : Nat → Int32} {n : Nat} (h : ∀ i, i < n → g i = g' i) : ∀ (m i c : Nat), xr g n m i c = xr g' n m i c
  | 0, _, _ => rfl
  | m + 1, i, c => by
    unfold xr
    by_cases hi : i < n ∧ c < 7
    · rw [if_pos hi, if_pos hi, h i hi.1]
      exact xr_cg h m (i + 1) _
    · rw [if_neg hi, if_neg hi]
theorem rp_same {n : Nat} {f g rk rd : Nat → Int32} (hn : n ≤ 40) (h : ∀ i, i < 40 → f i = g i) : rp_XA n f = rp_MA n g rk rd := by
  have hx : xf f (min n 20) n 21 0 0 = xf g (min n 20) n 21 0 0 := xf_cg (fun i hi => h i (by omega)) 21 0 0
  have hr : xr f n 41 0 0 = xr g n 41 0 0 := xr_cg (fun i hi => h i (by omega)) 41 0 0
  unfold rp_XA rp_MA
  rw [hx, hr]
  by_cases h0 : n = 0
  · subst h0
    rw [if_pos rfl]
    have : xf g (min 0 20) 0 21 0 0 = -1 := by
      rw [xf_at (by omega)]
      rfl
    rw [this, if_pos (by decide)]
    show ((xr g 0 41 0 0 : Nat) : Int) = 0
    unfold xr
    rw [if_neg (by omega)]
    rfl
  rw [if_neg h0]
  have hl := xf_lp (g := g) (w := min n 20) (n := n) (by omega) 7 0 0 rk rd 21 (by omega) (by omega) (by omega)
  have bd := rp_lp_bd (g := g) (w := min n 20) 7 0 0 rk rd (by omega) (by omega)
  generalize hq : rp_lp g (min n 20) 7 0 0 rk rd = q at hl bd
  obtain ⟨goes, a, c, rk', rd'⟩ := q
  simp only at hl bd
  rw [hl]
  simp only
  unfold rp_ans xf_end
  cases goes with
  | true =>
    simp only [if_true, true_and]
    by_cases haw : a < min n 20
    · rw [if_pos haw, if_neg (by omega), if_neg (by omega), if_neg (by omega)]
    · have haw' : a = min n 20 := by omega
      rw [if_neg haw]
      by_cases h20 : 20 < n
      · rw [if_pos h20, if_neg (by decide), if_pos ⟨h20, Or.inl haw'⟩]
        decide
      · rw [if_neg h20, if_pos (Or.inr trivial), if_pos (by decide), if_neg (by omega), if_pos haw']
        have hw : min n 20 = n := by omega
        rw [hw] at hq haw'
        have := xr_lp (g := g) (n := n) (by omega) 7 0 0 rk rd 41 (by omega) (by omega) (by omega) (by omega) (by rw [hq]) (by rw [hq]; exact haw')
        rw [this, hq]
  | false =>
    simp only [Bool.false_eq_true, if_false, false_and, false_or]
    by_cases haw : a < min n 20
    · rw [if_pos haw, if_neg (by omega), if_neg (by omega)]
    · have haw' : a = min n 20 := by omega
      rw [if_neg haw]
      by_cases h20 : 20 < n
      · rw [if_pos h20, if_neg (by decide), if_pos ⟨h20, by omega⟩]
        decide
      · rw [if_neg h20, if_neg (by omega), if_neg (by omega), if_neg (by omega)]
        omega
end mg_9

section mg_10
/-! sign: four signs more on both sides -/
def sg_c : Int32 := (Int16.ofInt 255).toInt32
def sg_v (v : Int32) (r : Nat) : Int32 := nm_us v (Int32.ofNat (8 * r)) &&& sg_c
def sg_m (v : Int32) (r : Nat) : Int32 := (v >>> (Int32.ofNat (8 * r) &&& 31)) &&& sg_c
theorem sg_same (v : Int32) {r : Nat} (hr : r ≤ 3) : sg_m v r = sg_v v r := by
  have key : ∀ s : Nat, s ≤ 24 → ((v.toBitVec.sshiftRight s) &&& sg_c.toBitVec) = ((v.toBitVec >>> s) &&& sg_c.toBitVec) := by
    intro s hs
    apply BitVec.eq_of_getLsbD_eq
    intro i hi
    simp only [BitVec.getLsbD_and, BitVec.getLsbD_sshiftRight, BitVec.getLsbD_ushiftRight]
    by_cases h8 : i < 8
    · have e1 : s + i < 32 := by omega
      simp only [hi, decide_true, Bool.not_true, e1, if_true, Bool.true_and, show ¬ 32 ≤ i from by omega, decide_false, Bool.not_false]
    · have : sg_c.toBitVec.getLsbD i = false := by
        have : ∀ j : Nat, j < 32 → ¬ j < 8 → sg_c.toBitVec.getLsbD j = false := by decide
        exact this i hi h8
      rw [this, Bool.and_false, Bool.and_false]
  match r, hr with
  | 0, _ =>
    apply Int32.toBitVec_inj.mp
    exact key 0 (by decide)
  | 1, _ =>
    apply Int32.toBitVec_inj.mp
    exact key 8 (by decide)
  | 2, _ =>
    apply Int32.toBitVec_inj.mp
    exact key 16 (by decide)
  | 3, _ =>
    apply Int32.toBitVec_inj.mp
    exact key 24 (by decide)
def sg_f (v : Int32) : Nat → Nat → (Nat → Int32) → Nat → Int32
  | 0, l, f => upd f l (sg_v v 0)
  | r + 1, l, f => sg_f v r (l + 1) (upd f l (sg_v v (r + 1)))
theorem sg_f_cg {v : Int32} : ∀ (r l : Nat) {f g : Nat → Int32}, (∀ i : Nat, i < 40 → f i = g i) → ∀ i : Nat, i < 40 → sg_f v r l f i = sg_f v r l g i
  | 0, l, f, g, h, i, hi => by
    simp only [sg_f, upd]
    split
    · rfl
    · exact h i hi
  | r + 1, l, f, g, h, i, hi => by
    unfold sg_f
    refine sg_f_cg r (l + 1) (fun j hj => ?_) i hi
    simp only [upd]
    split
    · rfl
    · exact h j hj
/-! the class -/
def sg_B (l s : Int) : ac_S := ([(0, ((2, 0, 0, [12]), none)), (1, ((0, -2147483648, 2147483647, []), some (2, 1, 0))), (2, ((0, s, s, []), none))], [((0, l, l, []), none), ((2, 0, 0, [13]), none)], [(12, 1, 0, l, l, [])], [], [], [])
def sg_A (l s : Int) : ac_S := ((sg_B l s).1, [], (sg_B l s).2.2)
def sg_e (l s : Int) : Bool := match ac_run nm_T nm_P nm_GH nm_FA [] [] [(12, 1)] [] 20000 false [26] mi_Text_add mm_Text_add 34 (sg_A l s) with
  | some o => o.1.isEmpty && o.2.all (fun q => Nat.beq q.1 26 && ac_le nm_GH none q.2 (sg_B (l + 1) (s - 8)))
  | none => false
def sg_z (l : Int) : Bool := match ac_run nm_T nm_P nm_GH nm_FA [] [] [(12, 1)] [] 20000 false [] mi_Text_add mm_Text_add 34 (sg_A l 0) with
  | some (os, []) => os.all (ex_rz 1 12 1 (l + 1))
  | _ => false
set_option maxRecDepth 1000000 in
theorem sg_t : (List.range 40).all (fun l => sg_e (l : Nat) 24 && (sg_e (l : Nat) 16 && (sg_e (l : Nat) 8 && sg_z (l : Nat)))) = true := by decide +kernel
theorem sg_X {xs : Nat → Int32} : ∀ (r l : Nat) (f : Nat → Int32) (γ : Nat → Int) (lv : List (Nat × Value)) (st : List Value) (hp : px_H), r ≤ 3 → l + r < 40 → ac_s nm_GH nm_Φ xs γ (sg_B (l : Nat) ((8 * r : Nat) : Int)) lv st hp → hp[13]? = some (.inl (11, 40, .inl f)) →
    ∃ (v : Int32) (hp' : px_H), px_Z nm_T none nm_P mm_Text_add 26 lv st hp (some (.int v)) hp' ∧ v.toInt = 1 ∧ ab_h nm_GH hp' ∧ ac_fv hp' 12 1 = some (.int (Int32.ofNat (l + r + 1))) ∧ hp'[13]? = some (.inl (11, 40, .inl (sg_f (xs 1) r l f))) ∧ px_fr [(12, 1)] [13] hp hp' := by
  intro r
  induction r with
  | zero =>
    intro l f γ lv st hp hr hl hs hf
    obtain ⟨b1, b2, b3, b4, b5, b6, b7⟩ := hs
    obtain ⟨u1, y1, o1⟩ := b1 1 _ (List.mem_cons_of_mem _ List.mem_cons_self)
    obtain ⟨u2, y2, o2⟩ := b1 2 _ (List.mem_cons_of_mem _ (List.mem_cons_of_mem _ List.mem_cons_self))
    obtain ⟨rfl, -, -⟩ := ex_org o1
    obtain ⟨x2, rfl, i2⟩ := ab_f0 o2.1
    have k1 : (0 : Int) ≤ x2.toInt := i2.1
    have k2 : x2.toInt ≤ (0 : Int) := i2.2
    have hx2 : x2 = Int32.ofNat (8 * 0) := by
      rw [← Int32.toInt_inj, show (Int32.ofNat (8 * 0)).toInt = 0 from rfl]
      omega
    subst hx2
    match st, b2 with
    | [w1, w2], ⟨t1, t2, _⟩ =>
      obtain ⟨j, rfl, hj⟩ := ab_f0 t1.1
      obtain ⟨c1, rfl, ec⟩ := ab_f2 t2.1
      cases List.mem_singleton.mp ec
      have j1 : ((l : Nat) : Int) ≤ j.toInt := hj.1
      have j2 : j.toInt ≤ ((l : Nat) : Int) := hj.2
      have hjn : j.toNatClampNeg = l := by unfold Int32.toNatClampNeg; omega
      have g2 : ab_h nm_GH (hp.set 13 (.inl (11, 40, .inl (upd f l (sg_v (xs 1) 0))))) := ac_h_arr b3 hf rfl ⟨rfl, rfl, fun j _ => ⟨rfl, ab_i32 _⟩⟩
      have a2 : (hp.set 13 (.inl (11, 40, .inl (upd f l (sg_v (xs 1) 0)))))[13]? = some (.inl (11, 40, .inl (upd f l (sg_v (xs 1) 0)))) := List.getElem?_set_self (List.getElem?_eq_some_iff.mp hf).1
      have lv2 := ex_sG (hp.set 13 (.inl (11, 40, .inl (upd f l (sg_v (xs 1) 0))))) (L := (sg_B (l : Nat) ((8 * 0 : Nat) : Int)).1) rfl b1
      have ov2 := ex_ovA (y := (11, 40, .inl (upd f l (sg_v (xs 1) 0)))) hf b4
      have f2 : px_fr [(12, 1)] [13] hp (hp.set 13 (.inl (11, 40, .inl (upd f l (sg_v (xs 1) 0))))) := px_fr_arr hf (by decide)
      generalize hh : hp.set 13 (.inl (11, 40, .inl (upd f l (sg_v (xs 1) 0)))) = hp2 at g2 a2 lv2 ov2 f2
      have t := List.all_eq_true.mp sg_t l (List.mem_range.mpr (by omega))
      simp only [Bool.and_eq_true] at t
      have t := t.2.2.2
      unfold sg_z at t
      split at t
      rotate_left
      · cases t
      rename_i os hos
      obtain ⟨r', hp', q, n1, n2, n3, n4⟩ := ex_goOn (fun _ h => absurd h List.not_mem_nil) hos (xs := xs) (γ := γ) (lv := lv) (st := []) (hp := hp2) ⟨lv2, trivial, g2, ov2, b5, fun i hi => (by cases hi), fun q hq => (by cases hq)⟩
      have hz := List.all_eq_true.mp t q n1
      simp only [ex_rz, Bool.and_eq_true] at hz
      obtain ⟨v, rfl, hv⟩ := ex_rt_ok hz.1 n3
      obtain ⟨v9, w, e9, w1', w2'⟩ := ex_ze_ok (by decide +kernel) hz.2 n3
      have hw : w = Int32.ofNat (l + 0 + 1) := by
        rw [← Int32.toInt_inj, nm_ofNat_toInt (l + 0 + 1) (by omega)]
        omega
      subst hw
      refine ⟨v, hp', ?_, hv, n3.2.1, w1', n4.1 _ _ (by decide) a2, px_fr_tr f2 (px_fr_mono n4 (fun q hq => hq) (fun q hq => (by cases hq)))⟩
      refine px_q_iln (len := 1) (j := 1) rfl y1 ?_
      refine px_q_iln (len := 1) (j := 2) rfl y2 ?_
      refine px_Z_its (pc1 := 33) (lv1 := lv) (st1 := [.int (sg_v (xs 1) 0), .int j, .ref 13]) (hp1 := hp) 3 (fun _ _ _ _ => rfl) ?_
      refine px_q_iast (len := 1) rfl hf rfl (nm_ixR j 40 (by omega) (by omega)) ?_
      rw [hjn, hh]
      exact n2
  | succ r ih =>
    intro l f γ lv st hp hr hl hs hf
    obtain ⟨b1, b2, b3, b4, b5, b6, b7⟩ := hs
    obtain ⟨u1, y1, o1⟩ := b1 1 _ (List.mem_cons_of_mem _ List.mem_cons_self)
    obtain ⟨u2, y2, o2⟩ := b1 2 _ (List.mem_cons_of_mem _ (List.mem_cons_of_mem _ List.mem_cons_self))
    obtain ⟨rfl, -, -⟩ := ex_org o1
    obtain ⟨x2, rfl, i2⟩ := ab_f0 o2.1
    have k1 : ((8 * (r + 1) : Nat) : Int) ≤ x2.toInt := i2.1
    have k2 : x2.toInt ≤ ((8 * (r + 1) : Nat) : Int) := i2.2
    have hx2 : x2 = Int32.ofNat (8 * (r + 1)) := by
      rw [← Int32.toInt_inj, nm_ofNat_toInt (8 * (r + 1)) (by omega)]
      omega
    subst hx2
    match st, b2 with
    | [w1, w2], ⟨t1, t2, _⟩ =>
      obtain ⟨j, rfl, hj⟩ := ab_f0 t1.1
      obtain ⟨c1, rfl, ec⟩ := ab_f2 t2.1
      cases List.mem_singleton.mp ec
      have j1 : ((l : Nat) : Int) ≤ j.toInt := hj.1
      have j2 : j.toInt ≤ ((l : Nat) : Int) := hj.2
      have hjn : j.toNatClampNeg = l := by unfold Int32.toNatClampNeg; omega
      have g2 : ab_h nm_GH (hp.set 13 (.inl (11, 40, .inl (upd f l (sg_v (xs 1) (r + 1)))))) := ac_h_arr b3 hf rfl ⟨rfl, rfl, fun j _ => ⟨rfl, ab_i32 _⟩⟩
      have a2 : (hp.set 13 (.inl (11, 40, .inl (upd f l (sg_v (xs 1) (r + 1))))))[13]? = some (.inl (11, 40, .inl (upd f l (sg_v (xs 1) (r + 1))))) := List.getElem?_set_self (List.getElem?_eq_some_iff.mp hf).1
      have lv2 := ex_sG (hp.set 13 (.inl (11, 40, .inl (upd f l (sg_v (xs 1) (r + 1)))))) (L := (sg_B (l : Nat) ((8 * (r + 1) : Nat) : Int)).1) rfl b1
      have ov2 := ex_ovA (y := (11, 40, .inl (upd f l (sg_v (xs 1) (r + 1))))) hf b4
      have f2 : px_fr [(12, 1)] [13] hp (hp.set 13 (.inl (11, 40, .inl (upd f l (sg_v (xs 1) (r + 1)))))) := px_fr_arr hf (by decide)
      generalize hh : hp.set 13 (.inl (11, 40, .inl (upd f l (sg_v (xs 1) (r + 1))))) = hp2 at g2 a2 lv2 ov2 f2
      have t := List.all_eq_true.mp sg_t l (List.mem_range.mpr (by omega))
      simp only [Bool.and_eq_true] at t
      have t : sg_e (l : Nat) ((8 * (r + 1) : Nat) : Int) = true := by
        match r, hr with
        | 0, _ => exact t.2.2.1
        | 1, _ => exact t.2.1
        | 2, _ => exact t.1
      unfold sg_e at t
      split at t
      rotate_left
      · cases t
      rename_i o ho
      simp only [Bool.and_eq_true, List.all_eq_true, List.isEmpty_iff] at t
      rcases ex_goS (fun _ h => absurd h List.not_mem_nil) ho (xs := xs) (γ := γ) (lv := lv) (st := []) (hp := hp2) ⟨lv2, trivial, g2, ov2, b5, fun i hi => (by cases hi), fun q hq => (by cases hq)⟩ with ⟨r', hp', q, m1, -⟩ | ⟨pc', lv', st', hp3, A', m1, m2, m3, m4⟩
      · rw [t.1] at m1
        cases m1
      obtain ⟨q1, q2⟩ := t.2 _ m1
      have q1 := Nat.eq_of_beq_eq_true q1
      simp only at q1
      subst q1
      obtain ⟨γ2, -, h9, -⟩ := ac_le_ok q2 m2
      rw [show ((l : Nat) : Int) + 1 = ((l + 1 : Nat) : Int) from by omega, show ((8 * (r + 1) : Nat) : Int) - 8 = ((8 * r : Nat) : Int) from by omega] at h9
      obtain ⟨v, hp', z1, z2, z3, z4, z5, z6⟩ := ih (l + 1) _ γ2 lv' st' hp3 (by omega) (by omega) h9 (m3.1 _ _ (by decide) a2)
      refine ⟨v, hp', ?_, z2, z3, by rw [show l + (r + 1) + 1 = l + 1 + r + 1 from by omega]; exact z4, z5, px_fr_tr f2 (px_fr_tr (px_fr_mono m3 (fun q hq => hq) (fun q hq => (by cases hq))) z6)⟩
      refine px_q_iln (len := 1) (j := 1) rfl y1 ?_
      refine px_q_iln (len := 1) (j := 2) rfl y2 ?_
      refine px_Z_its (pc1 := 33) (lv1 := lv) (st1 := [.int (sg_v (xs 1) (r + 1)), .int j, .ref 13]) (hp1 := hp) 3 (fun _ _ _ _ => rfl) ?_
      refine px_q_iast (len := 1) rfl hf rfl (nm_ixR j 40 (by omega) (by omega)) ?_
      rw [hjn, hh]
      exact m4 _ _ z1
/-! the model -/
def sm_B (l k : Int) : ac_S := ([(0, ((2, 0, 0, [69]), none)), (1, ((0, -2147483648, 2147483647, []), some (2, 1, 0))), (2, ((0, 3 - k, 3 - k, []), none))], [((0, 8 * k, 8 * k, []), none), ((0, -2147483648, 2147483647, []), some (2, 1, 0)), ((0, l + 3 - k, l + 3 - k, []), none), ((2, 0, 0, [85]), none)], [(69, 22, 0, l, l, [])], [], [], [])
def sm_A (l k : Int) : ac_S := ((sm_B l k).1, [], (sm_B l k).2.2)
def sm_e (l k : Int) : Bool := match ac_run nm_T nm_P nm_GH nm_FA [] [] [] [] 20000 false [41] mi_M_sign mm_M_sign 47 (sm_A l k) with
  | some o => o.1.isEmpty && o.2.all (fun q => Nat.beq q.1 41 && ac_le nm_GH none q.2 (sm_B l (k - 1)))
  | none => false
def sm_z (l : Int) : Bool := match ac_run nm_T nm_P nm_GH nm_FA [] [] [(69, 22)] [] 20000 false [] mi_M_sign mm_M_sign 47 (sm_A l 0) with
  | some (os, []) => os.all (ex_rz (l + 4) 69 22 (l + 4))
  | _ => false
set_option maxRecDepth 1000000 in
theorem sm_t : (List.range 37).all (fun l => sm_e (l : Nat) 3 && (sm_e (l : Nat) 2 && (sm_e (l : Nat) 1 && sm_z (l : Nat)))) = true := by decide +kernel
theorem sm_bd (v : Int32) (r : Nat) (hr : r ≤ 3) : 0 ≤ (sg_v v r).toInt ∧ (sg_v v r).toInt ≤ 255 := by
  have h := ab_and32 sg_c (nm_us v (Int32.ofNat (8 * r))) (by decide)
  rw [Int32.and_comm] at h
  have h2 : sg_c.toInt = 255 := by decide
  unfold sg_v
  omega
theorem sm_M {xs : Nat → Int32} : ∀ (r l : Nat) (g : Nat → Int32) (γ : Nat → Int) (lv : List (Nat × Value)) (st : List Value) (hp : px_H), r ≤ 3 → l ≤ 36 → ac_s nm_GH nm_Φ xs γ (sm_B (l : Nat) (r : Nat)) lv st hp → hp[na_tape]? = some (.inl (nr_tape, 40, .inl g)) →
    ∃ (v : Int32) (hp' : px_H), px_Z nm_T none nm_P mm_M_sign 41 lv st hp (some (.int v)) hp' ∧ v.toInt = (l : Int) + 4 ∧ ab_h nm_GH hp' ∧ ac_fv hp' 69 22 = some (.int (Int32.ofNat (l + 4))) ∧ hp'[na_tape]? = some (.inl (nr_tape, 40, .inl (sg_f (xs 1) r (l + 3 - r) g))) ∧ px_fr [(69, 22)] [na_tape] hp hp' := by
  intro r
  induction r with
  | zero =>
    intro l g γ lv st hp hr hl hs hf
    obtain ⟨b1, b2, b3, b4, b5, b6, b7⟩ := hs
    obtain ⟨g9, hg9, gb⟩ := ac_arrI b3 (c := na_tape) (t := nr_tape) (n := 40) (lo := 0) (hi := 255) (Nat.le_of_ble_eq_true rfl) rfl
    rw [hf] at hg9
    cases hg9
    match st, b2 with
    | [w1, w2, w3, w4], ⟨t1, t2, t3, t4, _⟩ =>
      obtain ⟨x2, rfl, i2⟩ := ab_f0 t1.1
      have k1 : (8 * ((0 : Nat) : Int)) ≤ x2.toInt := i2.1
      have k2 : x2.toInt ≤ (8 * ((0 : Nat) : Int)) := i2.2
      have hx2 : x2 = Int32.ofNat (8 * 0) := by
        rw [← Int32.toInt_inj, show (Int32.ofNat (8 * 0)).toInt = 0 from rfl]
        omega
      subst hx2
      obtain ⟨rfl, -, -⟩ := ex_org t2
      obtain ⟨j, rfl, hj⟩ := ab_f0 t3.1
      obtain ⟨c1, rfl, ec⟩ := ab_f2 t4.1
      cases List.mem_singleton.mp ec
      have j1 : ((l : Nat) : Int) + 3 - ((0 : Nat) : Int) ≤ j.toInt := hj.1
      have j2 : j.toInt ≤ ((l : Nat) : Int) + 3 - ((0 : Nat) : Int) := hj.2
      have hjn : j.toNatClampNeg = l + 3 - 0 := by unfold Int32.toNatClampNeg; omega
      have bd := sm_bd (xs 1) 0 (by decide)
      have g2 : ab_h nm_GH (hp.set na_tape (.inl (nr_tape, 40, .inl (upd g (l + 3 - 0) (sg_v (xs 1) 0))))) := ac_h_arr b3 (c := na_tape) hf rfl (y := (nr_tape, 40, .inl (upd g (l + 3 - 0) (sg_v (xs 1) 0)))) ⟨rfl, rfl, fun j hj => by
        simp only [upd]
        split
        · exact ⟨rfl, bd.1, bd.2⟩
        · exact ⟨rfl, gb j hj⟩⟩
      have a2 : (hp.set na_tape (.inl (nr_tape, 40, .inl (upd g (l + 3 - 0) (sg_v (xs 1) 0)))))[na_tape]? = some (.inl (nr_tape, 40, .inl (upd g (l + 3 - 0) (sg_v (xs 1) 0)))) := List.getElem?_set_self (List.getElem?_eq_some_iff.mp hf).1
      have lv2 := ex_sG (hp.set na_tape (.inl (nr_tape, 40, .inl (upd g (l + 3 - 0) (sg_v (xs 1) 0))))) (L := (sm_B (l : Nat) ((0 : Nat) : Int)).1) rfl b1
      have ov2 := ex_ovA (y := (nr_tape, 40, .inl (upd g (l + 3 - 0) (sg_v (xs 1) 0)))) hf b4
      have f2 : px_fr [(69, 22)] [na_tape] hp (hp.set na_tape (.inl (nr_tape, 40, .inl (upd g (l + 3 - 0) (sg_v (xs 1) 0))))) := px_fr_arr hf (by decide)
      generalize hh : hp.set na_tape (.inl (nr_tape, 40, .inl (upd g (l + 3 - 0) (sg_v (xs 1) 0)))) = hp2 at g2 a2 lv2 ov2 f2
      have t := List.all_eq_true.mp sm_t l (List.mem_range.mpr (by omega))
      simp only [Bool.and_eq_true] at t
      have t := t.2.2.2
      unfold sm_z at t
      split at t
      rotate_left
      · cases t
      rename_i os hos
      obtain ⟨r', hp', q, n1, n2, n3, n4⟩ := ex_goOn (fun _ h => absurd h List.not_mem_nil) hos (xs := xs) (γ := γ) (lv := lv) (st := []) (hp := hp2) ⟨lv2, trivial, g2, ov2, b5, fun i hi => (by cases hi), fun q hq => (by cases hq)⟩
      have hz := List.all_eq_true.mp t q n1
      simp only [ex_rz, Bool.and_eq_true] at hz
      obtain ⟨v, rfl, hv⟩ := ex_rt_ok hz.1 n3
      obtain ⟨v9, w, e9, w1', w2'⟩ := ex_ze_ok (by decide +kernel) hz.2 n3
      have hw : w = Int32.ofNat (l + 4) := by
        rw [← Int32.toInt_inj, nm_ofNat_toInt (l + 4) (by omega)]
        omega
      subst hw
      refine ⟨v, hp', ?_, hv, n3.2.1, w1', n4.1 _ _ (by decide) a2, px_fr_tr f2 (px_fr_mono n4 (fun q hq => hq) (fun q hq => (by cases hq)))⟩
      refine px_Z_its (pc1 := 46) (lv1 := lv) (st1 := [.int (sg_m (xs 1) 0), .int j, .ref na_tape]) (hp1 := hp) 3 (fun _ _ _ _ => rfl) ?_
      rw [sg_same (xs 1) (by decide)]
      refine px_q_iast (len := 1) rfl hf rfl (nm_ixR j 40 (by omega) (by omega)) ?_
      rw [hjn, hh]
      exact n2
  | succ r ih =>
    intro l g γ lv st hp hr hl hs hf
    obtain ⟨b1, b2, b3, b4, b5, b6, b7⟩ := hs
    obtain ⟨g9, hg9, gb⟩ := ac_arrI b3 (c := na_tape) (t := nr_tape) (n := 40) (lo := 0) (hi := 255) (Nat.le_of_ble_eq_true rfl) rfl
    rw [hf] at hg9
    cases hg9
    match st, b2 with
    | [w1, w2, w3, w4], ⟨t1, t2, t3, t4, _⟩ =>
      obtain ⟨x2, rfl, i2⟩ := ab_f0 t1.1
      have k1 : (8 * ((r + 1 : Nat) : Int)) ≤ x2.toInt := i2.1
      have k2 : x2.toInt ≤ (8 * ((r + 1 : Nat) : Int)) := i2.2
      have hx2 : x2 = Int32.ofNat (8 * (r + 1)) := by
        rw [← Int32.toInt_inj, nm_ofNat_toInt (8 * (r + 1)) (by omega)]
        omega
      subst hx2
      obtain ⟨rfl, -, -⟩ := ex_org t2
      obtain ⟨j, rfl, hj⟩ := ab_f0 t3.1
      obtain ⟨c1, rfl, ec⟩ := ab_f2 t4.1
      cases List.mem_singleton.mp ec
      have j1 : ((l : Nat) : Int) + 3 - ((r + 1 : Nat) : Int) ≤ j.toInt := hj.1
      have j2 : j.toInt ≤ ((l : Nat) : Int) + 3 - ((r + 1 : Nat) : Int) := hj.2
      have hjn : j.toNatClampNeg = l + 3 - (r + 1) := by unfold Int32.toNatClampNeg; omega
      have bd := sm_bd (xs 1) (r + 1) hr
      have g2 : ab_h nm_GH (hp.set na_tape (.inl (nr_tape, 40, .inl (upd g (l + 3 - (r + 1)) (sg_v (xs 1) (r + 1)))))) := ac_h_arr b3 (c := na_tape) hf rfl (y := (nr_tape, 40, .inl (upd g (l + 3 - (r + 1)) (sg_v (xs 1) (r + 1))))) ⟨rfl, rfl, fun j hj => by
        simp only [upd]
        split
        · exact ⟨rfl, bd.1, bd.2⟩
        · exact ⟨rfl, gb j hj⟩⟩
      have a2 : (hp.set na_tape (.inl (nr_tape, 40, .inl (upd g (l + 3 - (r + 1)) (sg_v (xs 1) (r + 1))))))[na_tape]? = some (.inl (nr_tape, 40, .inl (upd g (l + 3 - (r + 1)) (sg_v (xs 1) (r + 1))))) := List.getElem?_set_self (List.getElem?_eq_some_iff.mp hf).1
      have lv2 := ex_sG (hp.set na_tape (.inl (nr_tape, 40, .inl (upd g (l + 3 - (r + 1)) (sg_v (xs 1) (r + 1)))))) (L := (sm_B (l : Nat) ((r + 1 : Nat) : Int)).1) rfl b1
      have ov2 := ex_ovA (y := (nr_tape, 40, .inl (upd g (l + 3 - (r + 1)) (sg_v (xs 1) (r + 1))))) hf b4
      have f2 : px_fr [(69, 22)] [na_tape] hp (hp.set na_tape (.inl (nr_tape, 40, .inl (upd g (l + 3 - (r + 1)) (sg_v (xs 1) (r + 1)))))) := px_fr_arr hf (by decide)
      generalize hh : hp.set na_tape (.inl (nr_tape, 40, .inl (upd g (l + 3 - (r + 1)) (sg_v (xs 1) (r + 1))))) = hp2 at g2 a2 lv2 ov2 f2
      have t := List.all_eq_true.mp sm_t l (List.mem_range.mpr (by omega))
      simp only [Bool.and_eq_true] at t
      have t : sm_e (l : Nat) ((r + 1 : Nat) : Int) = true := by
        match r, hr with
        | 0, _ => exact t.2.2.1
        | 1, _ => exact t.2.1
        | 2, _ => exact t.1
      unfold sm_e at t
      split at t
      rotate_left
      · cases t
      rename_i o ho
      simp only [Bool.and_eq_true, List.all_eq_true, List.isEmpty_iff] at t
      rcases ex_goS (fun _ h => absurd h List.not_mem_nil) ho (xs := xs) (γ := γ) (lv := lv) (st := []) (hp := hp2) ⟨lv2, trivial, g2, ov2, b5, fun i hi => (by cases hi), fun q hq => (by cases hq)⟩ with ⟨r', hp', q, m1, -⟩ | ⟨pc', lv', st', hp3, A', m1, m2, m3, m4⟩
      · rw [t.1] at m1
        cases m1
      obtain ⟨q1, q2⟩ := t.2 _ m1
      have q1 := Nat.eq_of_beq_eq_true q1
      simp only at q1
      subst q1
      obtain ⟨γ2, -, h9, -⟩ := ac_le_ok q2 m2
      rw [show ((r + 1 : Nat) : Int) - 1 = ((r : Nat) : Int) from by omega] at h9
      obtain ⟨v, hp', z1, z2, z3, z4, z5, z6⟩ := ih l _ γ2 lv' st' hp3 (by omega) hl h9 (m3.1 _ _ (by decide) a2)
      refine ⟨v, hp', ?_, z2, z3, z4, ?_, px_fr_tr f2 (px_fr_tr (px_fr_mono m3 (fun q hq => (by cases hq)) (fun q hq => (by cases hq))) z6)⟩
      · refine px_Z_its (pc1 := 46) (lv1 := lv) (st1 := [.int (sg_m (xs 1) (r + 1)), .int j, .ref na_tape]) (hp1 := hp) 3 (fun _ _ _ _ => rfl) ?_
        rw [sg_same (xs 1) hr]
        refine px_q_iast (len := 1) rfl hf rfl (nm_ixR j 40 (by omega) (by omega)) ?_
        rw [hjn, hh]
        exact m4 _ _ z1
      · rw [z5, show l + 3 - r = l + 3 - (r + 1) + 1 from by omega]
        rfl
/-! sign, on both sides -/
def sg_no (l : Int) : Bool := ex_rts (-1) (ex_run [] [] [] [] mi_X_sign kc_X_sign_0.2.1 [(12, 1, 0, l, l, [])]) && ex_rts (-1) (ex_run [] [] [(69, 0)] [] mi_M_sign kc_M_sign_0.2.1 [(69, 22, 0, l, l, [])])
def sg_BX : ac_S := ([(0, ((2, 0, 0, [0]), none)), (1, ((0, -2147483648, 2147483647, []), some (2, 1, 0)))], [((0, -2147483648, 2147483647, []), some (2, 1, 0)), ((2, 0, 0, [12]), none)], [], [], [], [])
def sg_eX : Bool := match ex_runS [] [] [] [] mi_X_sign mm_X_sign kc_X_sign_0.2.1 [] [5] with
  | some o => o.1.isEmpty && o.2.all (fun q => Nat.beq q.1 5 && ac_le nm_GH none q.2 sg_BX)
  | none => false
def sg_eA (l : Int) : Bool := match ex_runS [] [] [] [] mi_Text_add mm_Text_add [(2, 0, 0, [12]), (0, -2147483648, 2147483647, [])] [(12, 1, 0, l, l, [])] [26] with
  | some o => o.1.isEmpty && o.2.all (fun q => Nat.beq q.1 26 && ac_le nm_GH none q.2 (sg_B l 24))
  | none => false
def sg_eM (l : Int) : Bool := match ex_runS [] [] [(69, 0)] [] mi_M_sign mm_M_sign kc_M_sign_0.2.1 [(69, 22, 0, l, l, [])] [41] with
  | some o => o.1.isEmpty && o.2.all (fun q => Nat.beq q.1 41 && ac_le nm_GH none q.2 (sm_B l 3))
  | none => false
set_option maxRecDepth 1000000 in
theorem sg_u : (sg_eX && ((List.range 37).all (fun l => sg_eA (l : Nat) && sg_eM (l : Nat)) && (sg_no 37 && (sg_no 38 && (sg_no 39 && sg_no 40))))) = true := by decide +kernel
theorem ex_sign {hp : px_H} {a1 : Int32} (hG : ab_h nm_GH hp) (hR : nm_R hp) : ex_twoR mi_X_sign mi_M_sign true 0 69 [.int a1] hp := by
  have hR0 := hR
  obtain ⟨n, f, g, h0, h1, h2, h3, h4, h5⟩ := hR
  have en := nm_ofNat_toInt n (by omega)
  have no : ∀ κ ∈ ([] : List ac_K), nm_ok κ := fun _ h => absurd h List.not_mem_nil
  have U := sg_u
  simp only [Bool.and_eq_true] at U
  obtain ⟨U1, U2, U3⟩ := U
  by_cases h36 : 36 < n
  · have t : sg_no (n : Nat) = true := by
      have : n = 37 ∨ n = 38 ∨ n = 39 ∨ n = 40 := by omega
      rcases this with rfl | rfl | rfl | rfl
      · exact U3.1
      · exact U3.2.1
      · exact U3.2.2.1
      · exact U3.2.2.2
    simp only [sg_no, Bool.and_eq_true] at t
    obtain ⟨v, hp1, q, m1, m2, m3, m4⟩ := ex_rts_ok no t.1 hG (av := [.ref 0, .int a1]) ⟨⟨rfl, List.mem_cons_self⟩, ⟨rfl, ab_i32 _⟩, trivial⟩ (ex_ov1 h1 (by omega) (by omega))
    obtain ⟨v', hp2, q', n1, n2, n3, n4⟩ := ex_rts_ok no t.2 m3.2.1 (av := [.ref 69, .int a1]) ⟨⟨rfl, List.mem_cons_self⟩, ⟨rfl, ab_i32 _⟩, trivial⟩ (ex_ov1 (ex_fv_fr m4 (by decide) h2) (by omega) (by omega))
    exact ⟨v, v', hp1, hp2, m1, m3.2.1, n1, n3.2.1, fun _ => by rw [← Int32.toInt_inj, m2, n2], nm_R_fr n4 (by decide) (nm_R_fr m4 (by decide) hR0)⟩
  have t := List.all_eq_true.mp U2 n (List.mem_range.mpr (by omega))
  simp only [Bool.and_eq_true] at t
  obtain ⟨tA, tM⟩ := t
  -- the class: to the call
  unfold sg_eX at U1
  split at U1
  rotate_left
  · cases U1
  rename_i o ho
  simp only [Bool.and_eq_true, List.all_eq_true, List.isEmpty_iff] at U1
  rcases ex_runS_ok no rfl (Nat.le_of_ble_eq_true rfl) ho hG (av := [.ref 0, .int a1]) ⟨⟨rfl, List.mem_cons_self⟩, ⟨rfl, ab_i32 _⟩, trivial⟩ (fun q hq => (by cases hq)) with ⟨r, hp', q, m1, -⟩ | ⟨pc', lv, st, hp1, A', m1, m2, m3, m4⟩
  · rw [U1.1] at m1
    cases m1
  obtain ⟨q1, q2⟩ := U1.2 _ m1
  have q1 := Nat.eq_of_beq_eq_true q1
  simp only at q1
  subst q1
  obtain ⟨γ2, -, h9, -⟩ := ac_le_ok q2 m2
  obtain ⟨b1, b2, b3, b4, -⟩ := h9
  obtain ⟨u0, l0, o0⟩ := b1 0 _ (List.mem_cons_self)
  obtain ⟨c0, rfl, e0⟩ := ab_f2 o0.1
  cases List.mem_singleton.mp e0
  match st, b2, m4 with
  | [w1, w2], ⟨s1, s2, _⟩, m4 =>
    obtain ⟨rfl, -, -⟩ := ex_org s1
    obtain ⟨c1, rfl, ec⟩ := ab_f2 s2.1
    cases List.mem_singleton.mp ec
    have x1 : ac_xs [.ref 0, .int a1] 1 = a1 := rfl
    rw [x1] at m4
    obtain ⟨fs0, hx0, -, -⟩ := ac_obj b3 (c := 0) rfl
    obtain ⟨fs12, hx12, -, -⟩ := ac_obj b3 (c := 12) rfl
    -- add
    unfold sg_eA at tA
    split at tA
    rotate_left
    · cases tA
    rename_i o2 ho2
    simp only [Bool.and_eq_true, List.all_eq_true, List.isEmpty_iff] at tA
    rcases ex_runS_ok no rfl (Nat.le_of_ble_eq_true rfl) ho2 b3 (av := [.ref 12, .int a1]) ⟨⟨rfl, List.mem_cons_self⟩, ⟨rfl, ab_i32 _⟩, trivial⟩ (ex_ov1 (ex_fv_fr m3 (by decide) h1) (by omega) (by omega)) with ⟨r, hp', q, k1, -⟩ | ⟨pc2, lv2, st2, hp2, A2, k1, k2, k3, k4⟩
    · rw [tA.1] at k1
      cases k1
    obtain ⟨q3, q4⟩ := tA.2 _ k1
    have q3 := Nat.eq_of_beq_eq_true q3
    simp only at q3
    subst q3
    obtain ⟨γ3, -, h8, -⟩ := ac_le_ok q4 k2
    obtain ⟨vA, hp3, z1, z2, z3, z4, z5, z6⟩ := sg_X 3 n f γ3 lv2 st2 hp2 (by decide) (by omega) h8 (k3.1 _ _ (by decide) (m3.1 _ _ (by decide) h3))
    have xA : ac_xs [.ref 12, .int a1] 1 = a1 := rfl
    rw [xA] at z5
    have f13 : px_fr [(12, 1)] [13] hp hp3 := px_fr_tr (px_fr_mono m3 (fun q hq => (by cases hq)) (fun q hq => (by cases hq))) (px_fr_tr (px_fr_mono k3 (fun q hq => (by cases hq)) (fun q hq => (by cases hq))) z6)
    obtain ⟨fs0', hx0', -, -⟩ := ac_obj z3 (c := 0) rfl
    obtain ⟨fs12', hx12', -, -⟩ := ac_obj z3 (c := 12) rfl
    have vA1 : vA = 1 := by rw [← Int32.toInt_inj, z2]; rfl
    subst vA1
    have cX : px_C nm_T nm_P mi_X_sign [.ref 0, .int a1] hp (some (.int (Int32.ofNat (n + 3 + 1)))) hp3 := by
      refine m4 _ _ ?_
      refine px_q_virt (len := 3) (n := 1) (a := 12) (N := mm_Text_add) (mi := mi_Text_add) (ci := 5) rfl rfl rfl hx12 rfl (Nat.le_of_ble_eq_true rfl) (Nat.le_of_ble_eq_true rfl) rfl rfl (k4 _ _ z1) ?_
      refine px_q_if (bb := false) (len := 3) (c := .eq) (off := 13) rfl (by decide) ?_
      refine px_q_aln (pc := 11) (len := 1) (j := 0) rfl l0 ?_
      refine px_q_get (len := 3) (ci := 8) (k := 1) (fs := fs0') (v := .ref 12) rfl rfl hx0' (ac_refF z3 (ci := 8) (k := 1) (c := 0) (d := 12) rfl hx0') ?_
      refine px_q_get (len := 3) (ci := 5) (k := 1) (fs := fs12') (v := .int (Int32.ofNat (n + 3 + 1))) rfl rfl hx12' (dr_fvo hx12' z4) ?_
      refine px_Z_its (pc1 := 22) (lv1 := lv) (st1 := [.int (Int32.ofNat (n + 3 + 1))]) (hp1 := hp3) 1 (fun _ _ _ _ => rfl) ?_
      exact px_q_iret (len := 1) (ty := .int) rfl rfl rfl
    -- the model
    unfold sg_eM at tM
    split at tM
    rotate_left
    · cases tM
    rename_i o3 ho3
    simp only [Bool.and_eq_true, List.all_eq_true, List.isEmpty_iff] at tM
    have h2q := ex_fv_fr f13 (by decide) h2
    rcases ex_runS_ok no rfl (Nat.le_of_ble_eq_true rfl) ho3 z3 (av := [.ref 69, .int a1]) ⟨⟨rfl, List.mem_cons_self⟩, ⟨rfl, ab_i32 _⟩, trivial⟩ (ex_ov1 h2q (by omega) (by omega)) with ⟨r, hp', q, j1, -⟩ | ⟨pc3, lv3, st3, hp4, A3, j1, j2, j3, j4⟩
    · rw [tM.1] at j1
      cases j1
    obtain ⟨q5, q6⟩ := tM.2 _ j1
    have q5 := Nat.eq_of_beq_eq_true q5
    simp only at q5
    subst q5
    obtain ⟨γ4, -, h7, -⟩ := ac_le_ok q6 j2
    obtain ⟨vM, hp5, y1, y2, y3, y4, y5, y6⟩ := sm_M 3 n g γ4 lv3 st3 hp4 (by decide) (by omega) h7 (j3.1 _ _ (by decide) (f13.1 _ _ (by decide) h4))
    have xM : ac_xs [.ref 69, .int a1] 1 = a1 := rfl
    rw [xM, show n + 3 - 3 = n from by omega] at y5
    have f14 : px_fr [(69, 0), (69, 22)] [na_tape] hp3 hp5 := px_fr_tr (px_fr_mono j3 (by decide) (fun q hq => (by cases hq))) (px_fr_mono y6 (by decide) (fun q hq => hq))
    refine ⟨Int32.ofNat (n + 3 + 1), vM, hp3, hp5, cX, z3, j4 _ _ y1, y3, fun _ => ?_, n + 4, _, _, by omega, ex_fv_fr f14 (by decide) z4, y4, f14.1 _ _ (by decide) z5, y5, sg_f_cg 3 n h5⟩
    rw [← Int32.toInt_inj, y2, nm_ofNat_toInt (n + 3 + 1) (by omega)]
    omega
end mg_10

section mg_11
/-! the class reads a rule -/
def ex_rzs (t : Int) (c k : Nat) (z : Int) (os : Option (List ac_Out)) : Bool := match os with
  | some os => os.all (ex_rz t c k z)
  | none => false
theorem ex_rzs_ok {K : List ac_K} {lps : List ac_L} {ws : List (Nat × Nat)} {wa : List Nat} {mi : Nat} {fs : List ab_F} {ov : List ac_O} {t z : Int} {c k : Nat} (hK : ∀ κ ∈ K, nm_ok κ) (h : ex_rzs t c k z (ex_run K lps ws wa mi fs ov) = true) (hI : ex_isI c k = true) {av : List Value} {hp : px_H} (hG : ab_h nm_GH hp) (hav : ac_argv fs av) (hov : ac_ov ov hp) :
    ∃ (v w : Int32) (hp' : px_H), px_C nm_T nm_P mi av hp (some (.int v)) hp' ∧ v.toInt = t ∧ ac_fv hp' c k = some (.int w) ∧ w.toInt = z ∧ ab_h nm_GH hp' ∧ px_fr ws wa hp hp' := by
  unfold ex_rzs at h
  split at h
  · rename_i os ho
    obtain ⟨r, hp', o, m1, m2, m3, m4⟩ := ex_run_ok hK ho hG hav hov
    have hz := List.all_eq_true.mp h o m1
    simp only [ex_rz, Bool.and_eq_true] at hz
    obtain ⟨v, rfl, hv⟩ := ex_rt_ok hz.1 m3
    obtain ⟨v9, w, e9, w1, w2⟩ := ex_ze_ok hI hz.2 m3
    exact ⟨v, w, hp', m2, hv, w1, w2, m3.2.1, m4⟩
  · cases h
theorem ri_ff {hp : px_H} {n : Nat} {f : Nat → Int32} (hG : ab_h nm_GH hp) (hl : ac_fv hp 12 1 = some (.int (Int32.ofNat n))) (hn4 : n ≤ 40) (hs : hp[13]? = some (.inl (11, 40, .inl f))) : ∃ v : Int32, px_C nm_T nm_P mi_Text_firstFault [.ref 12] hp (some (.int v)) hp ∧ v.toInt = xf f (min n 20) n 21 0 0 := by
  obtain ⟨v, z1, z2⟩ := rp_ff (w := min n 20) hG hl hn4 rfl hs 21 0 0 [(2, .int (Int32.ofNat 0)), (1, .int (Int32.ofNat 0)), (0, .ref 12)] (by decide) (by omega) (by omega) rfl rfl rfl
  refine ⟨v, px_C_of (N := mm_Text_firstFault) rfl (Nat.le_of_ble_eq_true rfl) ?_, z2⟩
  exact px_Z_its (pc1 := 4) (lv1 := [(2, .int (Int32.ofNat 0)), (1, .int (Int32.ofNat 0)), (0, .ref 12)]) (st1 := []) (hp1 := hp) 4 (fun _ _ _ _ => rfl) z1
set_option maxRecDepth 1000000 in
theorem ri_cu_t : ex_rzs 1 12 1 0 (ex_run [] [] [(12, 1)] [] mi_Text_cut [(2, 0, 0, [12]), (0, 0, 0, [])] []) = true := by decide +kernel
theorem ri_cut {hp : px_H} (hG : ab_h nm_GH hp) : ∃ hp' : px_H, px_C nm_T nm_P mi_Text_cut [.ref 12, .int 0] hp (some (.int 1)) hp' ∧ ab_h nm_GH hp' ∧ ac_fv hp' 12 1 = some (.int (Int32.ofNat 0)) ∧ px_fr [(12, 1)] [] hp hp' := by
  obtain ⟨v, w, hp', m1, m2, m3, m4, m5, m6⟩ := ex_rzs_ok (fun _ h => absurd h List.not_mem_nil) ri_cu_t (by decide +kernel) hG (av := [.ref 12, .int 0]) ⟨⟨rfl, List.mem_cons_self⟩, ⟨rfl, by decide, by decide⟩, trivial⟩ (fun q hq => (by cases hq))
  have e1 : v = 1 := by rw [← Int32.toInt_inj, m2]; rfl
  have e2 : w = Int32.ofNat 0 := by rw [← Int32.toInt_inj, m4]; rfl
  subst e1
  subst e2
  exact ⟨hp', m1, m5, m3, m6⟩
theorem ri_xr (g : Nat → Int32) (n : Nat) : ∀ m i c : Nat, c ≤ 7 → xr g n m i c ≤ 7
  | 0, _, c, h => h
  | m + 1, i, c, h => by
    unfold xr
    have hb : rp_n (xr_f (g i)) ≤ 1 := by cases xr_f (g i) <;> decide
    split
    · exact ri_xr g n m (i + 1) _ (by omega)
    · exact h
/-! rule 14 -/
theorem ri_C14 {hp : px_H} {n : Nat} {f : Nat → Int32} (hG : ab_h nm_GH hp) (hl : ac_fv hp 12 1 = some (.int (Int32.ofNat n))) (hn4 : n ≤ 40) (hs : hp[13]? = some (.inl (11, 40, .inl f))) :
    ∃ (v : Int32) (hp' : px_H), px_C nm_T nm_P mi_X_readInto [.ref 0, .ref 14] hp (some (.int v)) hp' ∧ v.toInt = rp_XA n f ∧ ab_h nm_GH hp' ∧ ac_fv hp' 12 1 = some (.int (Int32.ofNat 0)) ∧ px_fr [(14, 3), (12, 1)] [15, 16, 17] hp hp' := by
  obtain ⟨fs0, hx0, -, -⟩ := ac_obj hG (c := 0) rfl
  obtain ⟨fs12, hx12, -, -⟩ := ac_obj hG (c := 12) rfl
  obtain ⟨fsR, hxR, -, -⟩ := ac_obj hG (c := 14) rfl
  have ht := ac_refF hG (ci := 8) (k := 1) (c := 0) (d := 12) rfl hx0
  obtain ⟨w, c1, w1⟩ := ri_ff hG hl hn4 hs
  generalize hlA : px_st1 (lv_args 0 [.ref 0, .ref 14]) 2 (.int w) = lvA
  have l0 : px_find 0 lvA = some (.ref 0) := by rw [← hlA]; exact px_st1_nr rfl
  have l1 : px_find 1 lvA = some (.ref 14) := by rw [← hlA]; exact px_st1_nr rfl
  have l2 : px_find 2 lvA = some (.int w) := by rw [← hlA]; exact px_st1_at _ _ _
  have pre : ∀ (r : Option Value) (h9 : px_H) (bb : Bool), px_cmp .ge w 0 = bb → px_Z nm_T none nm_P mm_X_readInto (bif bb then 20 else 12) lvA [] hp r h9 → px_C nm_T nm_P mi_X_readInto [.ref 0, .ref 14] hp r h9 := by
    intro r h9 bb hb h
    refine px_C_of (N := mm_X_readInto) rfl (Nat.le_of_ble_eq_true rfl) ?_
    refine px_q_aln (len := 1) (j := 0) (a := 0) rfl rfl ?_
    refine px_q_get (len := 3) (ci := 8) (k := 1) (fs := fs0) (v := .ref 12) rfl rfl hx0 ht ?_
    refine px_q_virt (len := 3) (n := 0) (a := 12) (N := mm_Text_firstFault) (mi := mi_Text_firstFault) (ci := 5) rfl rfl rfl hx12 rfl (Nat.le_of_ble_eq_true rfl) (Nat.le_of_ble_eq_true rfl) rfl rfl c1 ?_
    refine px_Z_its (pc1 := 8) (lv1 := lvA) (st1 := []) (hp1 := hp) 1 (fun _ _ _ _ => by rw [← hlA]; rfl) ?_
    refine px_q_iln (len := 1) (j := 2) rfl l2 ?_
    refine px_q_if (bb := bb) (len := 3) (c := .ge) (off := 11) rfl hb ?_
    cases bb
    · exact h
    · exact h
  have tail : ∀ (hp1 : px_H) (bb : Bool) (v : Int32), ab_h nm_GH hp1 → px_cmp .ge w 0 = bb → (∀ hp2 : px_H, ab_h nm_GH hp2 → px_fr [(12, 1)] [] hp1 hp2 → px_Z nm_T none nm_P mm_X_readInto (bif bb then 40 else 33) lvA [] hp2 (some (.int v)) hp2) → ∃ hp2 : px_H, px_Z nm_T none nm_P mm_X_readInto 20 lvA [] hp1 (some (.int v)) hp2 ∧ ab_h nm_GH hp2 ∧ ac_fv hp2 12 1 = some (.int (Int32.ofNat 0)) ∧ px_fr [(12, 1)] [] hp1 hp2 := by
    intro hp1 bb v g1 hb h
    obtain ⟨hp2, m1, m2, m3, m4⟩ := ri_cut g1
    obtain ⟨gs0, hy0, -, -⟩ := ac_obj g1 (c := 0) rfl
    obtain ⟨gs12, hy12, -, -⟩ := ac_obj g1 (c := 12) rfl
    refine ⟨hp2, ?_, m2, m3, m4⟩
    refine px_q_aln (len := 1) (j := 0) rfl l0 ?_
    refine px_q_get (len := 3) (ci := 8) (k := 1) (fs := gs0) (v := .ref 12) rfl rfl hy0 (ac_refF g1 (ci := 8) (k := 1) (c := 0) (d := 12) rfl hy0) ?_
    refine px_Z_its (pc1 := 25) (lv1 := lvA) (st1 := [.int 0, .ref 12]) (hp1 := hp1) 1 (fun _ _ _ _ => rfl) ?_
    refine px_q_virt (len := 3) (n := 1) (a := 12) (N := mm_Text_cut) (mi := mi_Text_cut) (ci := 5) rfl rfl rfl hy12 rfl (Nat.le_of_ble_eq_true rfl) (Nat.le_of_ble_eq_true rfl) rfl rfl m1 ?_
    refine px_Z_its (pc1 := 29) (lv1 := lvA) (st1 := []) (hp1 := hp2) 1 (fun _ _ _ _ => rfl) ?_
    refine px_q_iln (len := 1) (j := 2) rfl l2 ?_
    refine px_q_if (bb := bb) (len := 3) (c := .ge) (off := 10) rfl hb ?_
    have := h hp2 m2 m4
    cases bb
    · exact this
    · exact this
  unfold rp_XA
  by_cases hw : xf f (min n 20) n 21 0 0 < 0
  · rw [if_pos hw]
    have hb : px_cmp .ge w 0 = false := by
      simp only [px_cmp, decide_eq_false_iff_not, ge_iff_le, Int32.le_iff_toInt_le, Int32.toInt_zero]
      omega
    obtain ⟨hp1, d1, d2, d3, d4⟩ := rd_C14 hG hl hn4 hs
    obtain ⟨hp2, t1, t2, t3, t4⟩ := tail hp1 false (Int32.ofNat (xr f n 41 0 0)) d2 hb (fun hp2 g2 f2 => by
      obtain ⟨ks, hk, -, -⟩ := ac_obj g2 (c := 14) rfl
      refine px_q_aln (pc := 33) (len := 1) (j := 1) rfl l1 ?_
      refine px_q_get (len := 3) (ci := 3) (k := 3) (fs := ks) (v := .int (Int32.ofNat (xr f n 41 0 0))) rfl rfl hk (dr_fvo hk (ex_fv_fr f2 (by decide) d3)) ?_
      refine px_Z_its (pc1 := 43) (lv1 := lvA) (st1 := [.int (Int32.ofNat (xr f n 41 0 0))]) (hp1 := hp2) 1 (fun _ _ _ _ => rfl) ?_
      exact px_q_iret (len := 1) (ty := .int) rfl rfl rfl)
    refine ⟨Int32.ofNat (xr f n 41 0 0), hp2, pre _ _ false hb ?_, ?_, t2, t3, px_fr_tr (px_fr_mono d4 (by decide) (fun q hq => hq)) (px_fr_mono t4 (by decide) (fun q hq => (by cases hq)))⟩
    · refine px_q_aln (pc := 12) (len := 1) (j := 1) rfl l1 ?_
      refine px_q_aln (len := 1) (j := 0) rfl l0 ?_
      refine px_q_get (len := 3) (ci := 8) (k := 1) (fs := fs0) (v := .ref 12) rfl rfl hx0 ht ?_
      exact px_q_virt (len := 3) (n := 1) (a := 14) (N := mm_Rule_read) (mi := mi_Rule_read) (ci := 3) rfl rfl rfl hxR rfl (Nat.le_of_ble_eq_true rfl) (Nat.le_of_ble_eq_true rfl) rfl rfl d1 t1
    · exact nm_ofNat_toInt _ (by have := ri_xr f n 41 0 0 (by decide); omega)
  · rw [if_neg hw]
    have hb : px_cmp .ge w 0 = true := by
      simp only [px_cmp, decide_eq_true_eq, ge_iff_le, Int32.le_iff_toInt_le, Int32.toInt_zero]
      omega
    obtain ⟨hp2, t1, t2, t3, t4⟩ := tail hp true (Int32.ofInt (-1) - w) hG hb (fun hp2 g2 f2 => by
      refine px_Z_its (pc1 := 41) (lv1 := lvA) (st1 := [.int (Int32.ofInt (-1))]) (hp1 := hp2) 1 (fun _ _ _ _ => rfl) ?_
      refine px_q_iln (len := 1) (j := 2) rfl l2 ?_
      refine px_Z_its (pc1 := 43) (lv1 := lvA) (st1 := [.int (Int32.ofInt (-1) - w)]) (hp1 := hp2) 1 (fun _ _ _ _ => rfl) ?_
      exact px_q_iret (len := 1) (ty := .int) rfl rfl rfl)
    refine ⟨Int32.ofInt (-1) - w, hp2, pre _ _ true hb t1, ?_, t2, t3, px_fr_mono t4 (by decide) (fun q hq => (by cases hq))⟩
    have b := ab_i32 w
    have b1 : (-2147483648 : Int) ≤ w.toInt := b.1
    have b2 : w.toInt ≤ 2147483647 := b.2
    rw [Int32.toInt_sub, show (Int32.ofInt (-1)).toInt = -1 from by decide, ab_bmod32 (by omega) (by omega), w1]
/-! rule 54 -/
theorem ri_C54 {hp : px_H} {n : Nat} {f : Nat → Int32} (hG : ab_h nm_GH hp) (hl : ac_fv hp 12 1 = some (.int (Int32.ofNat n))) (hn4 : n ≤ 40) (hs : hp[13]? = some (.inl (11, 40, .inl f))) :
    ∃ (v : Int32) (hp' : px_H), px_C nm_T nm_P mi_X_readInto [.ref 0, .ref 54] hp (some (.int v)) hp' ∧ v.toInt = rp_XA n f ∧ ab_h nm_GH hp' ∧ ac_fv hp' 12 1 = some (.int (Int32.ofNat 0)) ∧ px_fr [(54, 3), (12, 1)] [55, 56, 57] hp hp' := by
  obtain ⟨fs0, hx0, -, -⟩ := ac_obj hG (c := 0) rfl
  obtain ⟨fs12, hx12, -, -⟩ := ac_obj hG (c := 12) rfl
  obtain ⟨fsR, hxR, -, -⟩ := ac_obj hG (c := 54) rfl
  have ht := ac_refF hG (ci := 8) (k := 1) (c := 0) (d := 12) rfl hx0
  obtain ⟨w, c1, w1⟩ := ri_ff hG hl hn4 hs
  generalize hlA : px_st1 (lv_args 0 [.ref 0, .ref 54]) 2 (.int w) = lvA
  have l0 : px_find 0 lvA = some (.ref 0) := by rw [← hlA]; exact px_st1_nr rfl
  have l1 : px_find 1 lvA = some (.ref 54) := by rw [← hlA]; exact px_st1_nr rfl
  have l2 : px_find 2 lvA = some (.int w) := by rw [← hlA]; exact px_st1_at _ _ _
  have pre : ∀ (r : Option Value) (h9 : px_H) (bb : Bool), px_cmp .ge w 0 = bb → px_Z nm_T none nm_P mm_X_readInto (bif bb then 20 else 12) lvA [] hp r h9 → px_C nm_T nm_P mi_X_readInto [.ref 0, .ref 54] hp r h9 := by
    intro r h9 bb hb h
    refine px_C_of (N := mm_X_readInto) rfl (Nat.le_of_ble_eq_true rfl) ?_
    refine px_q_aln (len := 1) (j := 0) (a := 0) rfl rfl ?_
    refine px_q_get (len := 3) (ci := 8) (k := 1) (fs := fs0) (v := .ref 12) rfl rfl hx0 ht ?_
    refine px_q_virt (len := 3) (n := 0) (a := 12) (N := mm_Text_firstFault) (mi := mi_Text_firstFault) (ci := 5) rfl rfl rfl hx12 rfl (Nat.le_of_ble_eq_true rfl) (Nat.le_of_ble_eq_true rfl) rfl rfl c1 ?_
    refine px_Z_its (pc1 := 8) (lv1 := lvA) (st1 := []) (hp1 := hp) 1 (fun _ _ _ _ => by rw [← hlA]; rfl) ?_
    refine px_q_iln (len := 1) (j := 2) rfl l2 ?_
    refine px_q_if (bb := bb) (len := 3) (c := .ge) (off := 11) rfl hb ?_
    cases bb
    · exact h
    · exact h
  have tail : ∀ (hp1 : px_H) (bb : Bool) (v : Int32), ab_h nm_GH hp1 → px_cmp .ge w 0 = bb → (∀ hp2 : px_H, ab_h nm_GH hp2 → px_fr [(12, 1)] [] hp1 hp2 → px_Z nm_T none nm_P mm_X_readInto (bif bb then 40 else 33) lvA [] hp2 (some (.int v)) hp2) → ∃ hp2 : px_H, px_Z nm_T none nm_P mm_X_readInto 20 lvA [] hp1 (some (.int v)) hp2 ∧ ab_h nm_GH hp2 ∧ ac_fv hp2 12 1 = some (.int (Int32.ofNat 0)) ∧ px_fr [(12, 1)] [] hp1 hp2 := by
    intro hp1 bb v g1 hb h
    obtain ⟨hp2, m1, m2, m3, m4⟩ := ri_cut g1
    obtain ⟨gs0, hy0, -, -⟩ := ac_obj g1 (c := 0) rfl
    obtain ⟨gs12, hy12, -, -⟩ := ac_obj g1 (c := 12) rfl
    refine ⟨hp2, ?_, m2, m3, m4⟩
    refine px_q_aln (len := 1) (j := 0) rfl l0 ?_
    refine px_q_get (len := 3) (ci := 8) (k := 1) (fs := gs0) (v := .ref 12) rfl rfl hy0 (ac_refF g1 (ci := 8) (k := 1) (c := 0) (d := 12) rfl hy0) ?_
    refine px_Z_its (pc1 := 25) (lv1 := lvA) (st1 := [.int 0, .ref 12]) (hp1 := hp1) 1 (fun _ _ _ _ => rfl) ?_
    refine px_q_virt (len := 3) (n := 1) (a := 12) (N := mm_Text_cut) (mi := mi_Text_cut) (ci := 5) rfl rfl rfl hy12 rfl (Nat.le_of_ble_eq_true rfl) (Nat.le_of_ble_eq_true rfl) rfl rfl m1 ?_
    refine px_Z_its (pc1 := 29) (lv1 := lvA) (st1 := []) (hp1 := hp2) 1 (fun _ _ _ _ => rfl) ?_
    refine px_q_iln (len := 1) (j := 2) rfl l2 ?_
    refine px_q_if (bb := bb) (len := 3) (c := .ge) (off := 10) rfl hb ?_
    have := h hp2 m2 m4
    cases bb
    · exact this
    · exact this
  unfold rp_XA
  by_cases hw : xf f (min n 20) n 21 0 0 < 0
  · rw [if_pos hw]
    have hb : px_cmp .ge w 0 = false := by
      simp only [px_cmp, decide_eq_false_iff_not, ge_iff_le, Int32.le_iff_toInt_le, Int32.toInt_zero]
      omega
    obtain ⟨hp1, d1, d2, d3, d4⟩ := rd_C54 hG hl hn4 hs
    obtain ⟨hp2, t1, t2, t3, t4⟩ := tail hp1 false (Int32.ofNat (xr f n 41 0 0)) d2 hb (fun hp2 g2 f2 => by
      obtain ⟨ks, hk, -, -⟩ := ac_obj g2 (c := 54) rfl
      refine px_q_aln (pc := 33) (len := 1) (j := 1) rfl l1 ?_
      refine px_q_get (len := 3) (ci := 3) (k := 3) (fs := ks) (v := .int (Int32.ofNat (xr f n 41 0 0))) rfl rfl hk (dr_fvo hk (ex_fv_fr f2 (by decide) d3)) ?_
      refine px_Z_its (pc1 := 43) (lv1 := lvA) (st1 := [.int (Int32.ofNat (xr f n 41 0 0))]) (hp1 := hp2) 1 (fun _ _ _ _ => rfl) ?_
      exact px_q_iret (len := 1) (ty := .int) rfl rfl rfl)
    refine ⟨Int32.ofNat (xr f n 41 0 0), hp2, pre _ _ false hb ?_, ?_, t2, t3, px_fr_tr (px_fr_mono d4 (by decide) (fun q hq => hq)) (px_fr_mono t4 (by decide) (fun q hq => (by cases hq)))⟩
    · refine px_q_aln (pc := 12) (len := 1) (j := 1) rfl l1 ?_
      refine px_q_aln (len := 1) (j := 0) rfl l0 ?_
      refine px_q_get (len := 3) (ci := 8) (k := 1) (fs := fs0) (v := .ref 12) rfl rfl hx0 ht ?_
      exact px_q_virt (len := 3) (n := 1) (a := 54) (N := mm_Rule_read) (mi := mi_Rule_read) (ci := 3) rfl rfl rfl hxR rfl (Nat.le_of_ble_eq_true rfl) (Nat.le_of_ble_eq_true rfl) rfl rfl d1 t1
    · exact nm_ofNat_toInt _ (by have := ri_xr f n 41 0 0 (by decide); omega)
  · rw [if_neg hw]
    have hb : px_cmp .ge w 0 = true := by
      simp only [px_cmp, decide_eq_true_eq, ge_iff_le, Int32.le_iff_toInt_le, Int32.toInt_zero]
      omega
    obtain ⟨hp2, t1, t2, t3, t4⟩ := tail hp true (Int32.ofInt (-1) - w) hG hb (fun hp2 g2 f2 => by
      refine px_Z_its (pc1 := 41) (lv1 := lvA) (st1 := [.int (Int32.ofInt (-1))]) (hp1 := hp2) 1 (fun _ _ _ _ => rfl) ?_
      refine px_q_iln (len := 1) (j := 2) rfl l2 ?_
      refine px_Z_its (pc1 := 43) (lv1 := lvA) (st1 := [.int (Int32.ofInt (-1) - w)]) (hp1 := hp2) 1 (fun _ _ _ _ => rfl) ?_
      exact px_q_iret (len := 1) (ty := .int) rfl rfl rfl)
    refine ⟨Int32.ofInt (-1) - w, hp2, pre _ _ true hb t1, ?_, t2, t3, px_fr_mono t4 (by decide) (fun q hq => (by cases hq))⟩
    have b := ab_i32 w
    have b1 : (-2147483648 : Int) ≤ w.toInt := b.1
    have b2 : w.toInt ≤ 2147483647 := b.2
    rw [Int32.toInt_sub, show (Int32.ofInt (-1)).toInt = -1 from by decide, ab_bmod32 (by omega) (by omega), w1]
/-! rule 58 -/
theorem ri_C58 {hp : px_H} {n : Nat} {f : Nat → Int32} (hG : ab_h nm_GH hp) (hl : ac_fv hp 12 1 = some (.int (Int32.ofNat n))) (hn4 : n ≤ 40) (hs : hp[13]? = some (.inl (11, 40, .inl f))) :
    ∃ (v : Int32) (hp' : px_H), px_C nm_T nm_P mi_X_readInto [.ref 0, .ref 58] hp (some (.int v)) hp' ∧ v.toInt = rp_XA n f ∧ ab_h nm_GH hp' ∧ ac_fv hp' 12 1 = some (.int (Int32.ofNat 0)) ∧ px_fr [(58, 3), (12, 1)] [59, 60, 61] hp hp' := by
  obtain ⟨fs0, hx0, -, -⟩ := ac_obj hG (c := 0) rfl
  obtain ⟨fs12, hx12, -, -⟩ := ac_obj hG (c := 12) rfl
  obtain ⟨fsR, hxR, -, -⟩ := ac_obj hG (c := 58) rfl
  have ht := ac_refF hG (ci := 8) (k := 1) (c := 0) (d := 12) rfl hx0
  obtain ⟨w, c1, w1⟩ := ri_ff hG hl hn4 hs
  generalize hlA : px_st1 (lv_args 0 [.ref 0, .ref 58]) 2 (.int w) = lvA
  have l0 : px_find 0 lvA = some (.ref 0) := by rw [← hlA]; exact px_st1_nr rfl
  have l1 : px_find 1 lvA = some (.ref 58) := by rw [← hlA]; exact px_st1_nr rfl
  have l2 : px_find 2 lvA = some (.int w) := by rw [← hlA]; exact px_st1_at _ _ _
  have pre : ∀ (r : Option Value) (h9 : px_H) (bb : Bool), px_cmp .ge w 0 = bb → px_Z nm_T none nm_P mm_X_readInto (bif bb then 20 else 12) lvA [] hp r h9 → px_C nm_T nm_P mi_X_readInto [.ref 0, .ref 58] hp r h9 := by
    intro r h9 bb hb h
    refine px_C_of (N := mm_X_readInto) rfl (Nat.le_of_ble_eq_true rfl) ?_
    refine px_q_aln (len := 1) (j := 0) (a := 0) rfl rfl ?_
    refine px_q_get (len := 3) (ci := 8) (k := 1) (fs := fs0) (v := .ref 12) rfl rfl hx0 ht ?_
    refine px_q_virt (len := 3) (n := 0) (a := 12) (N := mm_Text_firstFault) (mi := mi_Text_firstFault) (ci := 5) rfl rfl rfl hx12 rfl (Nat.le_of_ble_eq_true rfl) (Nat.le_of_ble_eq_true rfl) rfl rfl c1 ?_
    refine px_Z_its (pc1 := 8) (lv1 := lvA) (st1 := []) (hp1 := hp) 1 (fun _ _ _ _ => by rw [← hlA]; rfl) ?_
    refine px_q_iln (len := 1) (j := 2) rfl l2 ?_
    refine px_q_if (bb := bb) (len := 3) (c := .ge) (off := 11) rfl hb ?_
    cases bb
    · exact h
    · exact h
  have tail : ∀ (hp1 : px_H) (bb : Bool) (v : Int32), ab_h nm_GH hp1 → px_cmp .ge w 0 = bb → (∀ hp2 : px_H, ab_h nm_GH hp2 → px_fr [(12, 1)] [] hp1 hp2 → px_Z nm_T none nm_P mm_X_readInto (bif bb then 40 else 33) lvA [] hp2 (some (.int v)) hp2) → ∃ hp2 : px_H, px_Z nm_T none nm_P mm_X_readInto 20 lvA [] hp1 (some (.int v)) hp2 ∧ ab_h nm_GH hp2 ∧ ac_fv hp2 12 1 = some (.int (Int32.ofNat 0)) ∧ px_fr [(12, 1)] [] hp1 hp2 := by
    intro hp1 bb v g1 hb h
    obtain ⟨hp2, m1, m2, m3, m4⟩ := ri_cut g1
    obtain ⟨gs0, hy0, -, -⟩ := ac_obj g1 (c := 0) rfl
    obtain ⟨gs12, hy12, -, -⟩ := ac_obj g1 (c := 12) rfl
    refine ⟨hp2, ?_, m2, m3, m4⟩
    refine px_q_aln (len := 1) (j := 0) rfl l0 ?_
    refine px_q_get (len := 3) (ci := 8) (k := 1) (fs := gs0) (v := .ref 12) rfl rfl hy0 (ac_refF g1 (ci := 8) (k := 1) (c := 0) (d := 12) rfl hy0) ?_
    refine px_Z_its (pc1 := 25) (lv1 := lvA) (st1 := [.int 0, .ref 12]) (hp1 := hp1) 1 (fun _ _ _ _ => rfl) ?_
    refine px_q_virt (len := 3) (n := 1) (a := 12) (N := mm_Text_cut) (mi := mi_Text_cut) (ci := 5) rfl rfl rfl hy12 rfl (Nat.le_of_ble_eq_true rfl) (Nat.le_of_ble_eq_true rfl) rfl rfl m1 ?_
    refine px_Z_its (pc1 := 29) (lv1 := lvA) (st1 := []) (hp1 := hp2) 1 (fun _ _ _ _ => rfl) ?_
    refine px_q_iln (len := 1) (j := 2) rfl l2 ?_
    refine px_q_if (bb := bb) (len := 3) (c := .ge) (off := 10) rfl hb ?_
    have := h hp2 m2 m4
    cases bb
    · exact this
    · exact this
  unfold rp_XA
  by_cases hw : xf f (min n 20) n 21 0 0 < 0
  · rw [if_pos hw]
    have hb : px_cmp .ge w 0 = false := by
      simp only [px_cmp, decide_eq_false_iff_not, ge_iff_le, Int32.le_iff_toInt_le, Int32.toInt_zero]
      omega
    obtain ⟨hp1, d1, d2, d3, d4⟩ := rd_C58 hG hl hn4 hs
    obtain ⟨hp2, t1, t2, t3, t4⟩ := tail hp1 false (Int32.ofNat (xr f n 41 0 0)) d2 hb (fun hp2 g2 f2 => by
      obtain ⟨ks, hk, -, -⟩ := ac_obj g2 (c := 58) rfl
      refine px_q_aln (pc := 33) (len := 1) (j := 1) rfl l1 ?_
      refine px_q_get (len := 3) (ci := 3) (k := 3) (fs := ks) (v := .int (Int32.ofNat (xr f n 41 0 0))) rfl rfl hk (dr_fvo hk (ex_fv_fr f2 (by decide) d3)) ?_
      refine px_Z_its (pc1 := 43) (lv1 := lvA) (st1 := [.int (Int32.ofNat (xr f n 41 0 0))]) (hp1 := hp2) 1 (fun _ _ _ _ => rfl) ?_
      exact px_q_iret (len := 1) (ty := .int) rfl rfl rfl)
    refine ⟨Int32.ofNat (xr f n 41 0 0), hp2, pre _ _ false hb ?_, ?_, t2, t3, px_fr_tr (px_fr_mono d4 (by decide) (fun q hq => hq)) (px_fr_mono t4 (by decide) (fun q hq => (by cases hq)))⟩
    · refine px_q_aln (pc := 12) (len := 1) (j := 1) rfl l1 ?_
      refine px_q_aln (len := 1) (j := 0) rfl l0 ?_
      refine px_q_get (len := 3) (ci := 8) (k := 1) (fs := fs0) (v := .ref 12) rfl rfl hx0 ht ?_
      exact px_q_virt (len := 3) (n := 1) (a := 58) (N := mm_Rule_read) (mi := mi_Rule_read) (ci := 3) rfl rfl rfl hxR rfl (Nat.le_of_ble_eq_true rfl) (Nat.le_of_ble_eq_true rfl) rfl rfl d1 t1
    · exact nm_ofNat_toInt _ (by have := ri_xr f n 41 0 0 (by decide); omega)
  · rw [if_neg hw]
    have hb : px_cmp .ge w 0 = true := by
      simp only [px_cmp, decide_eq_true_eq, ge_iff_le, Int32.le_iff_toInt_le, Int32.toInt_zero]
      omega
    obtain ⟨hp2, t1, t2, t3, t4⟩ := tail hp true (Int32.ofInt (-1) - w) hG hb (fun hp2 g2 f2 => by
      refine px_Z_its (pc1 := 41) (lv1 := lvA) (st1 := [.int (Int32.ofInt (-1))]) (hp1 := hp2) 1 (fun _ _ _ _ => rfl) ?_
      refine px_q_iln (len := 1) (j := 2) rfl l2 ?_
      refine px_Z_its (pc1 := 43) (lv1 := lvA) (st1 := [.int (Int32.ofInt (-1) - w)]) (hp1 := hp2) 1 (fun _ _ _ _ => rfl) ?_
      exact px_q_iret (len := 1) (ty := .int) rfl rfl rfl)
    refine ⟨Int32.ofInt (-1) - w, hp2, pre _ _ true hb t1, ?_, t2, t3, px_fr_mono t4 (by decide) (fun q hq => (by cases hq))⟩
    have b := ab_i32 w
    have b1 : (-2147483648 : Int) ≤ w.toInt := b.1
    have b2 : w.toInt ≤ 2147483647 := b.2
    rw [Int32.toInt_sub, show (Int32.ofInt (-1)).toInt = -1 from by decide, ab_bmod32 (by omega) (by omega), w1]
/-! rule 62 -/
theorem ri_C62 {hp : px_H} {n : Nat} {f : Nat → Int32} (hG : ab_h nm_GH hp) (hl : ac_fv hp 12 1 = some (.int (Int32.ofNat n))) (hn4 : n ≤ 40) (hs : hp[13]? = some (.inl (11, 40, .inl f))) :
    ∃ (v : Int32) (hp' : px_H), px_C nm_T nm_P mi_X_readInto [.ref 0, .ref 62] hp (some (.int v)) hp' ∧ v.toInt = rp_XA n f ∧ ab_h nm_GH hp' ∧ ac_fv hp' 12 1 = some (.int (Int32.ofNat 0)) ∧ px_fr [(62, 3), (12, 1)] [63, 64, 65] hp hp' := by
  obtain ⟨fs0, hx0, -, -⟩ := ac_obj hG (c := 0) rfl
  obtain ⟨fs12, hx12, -, -⟩ := ac_obj hG (c := 12) rfl
  obtain ⟨fsR, hxR, -, -⟩ := ac_obj hG (c := 62) rfl
  have ht := ac_refF hG (ci := 8) (k := 1) (c := 0) (d := 12) rfl hx0
  obtain ⟨w, c1, w1⟩ := ri_ff hG hl hn4 hs
  generalize hlA : px_st1 (lv_args 0 [.ref 0, .ref 62]) 2 (.int w) = lvA
  have l0 : px_find 0 lvA = some (.ref 0) := by rw [← hlA]; exact px_st1_nr rfl
  have l1 : px_find 1 lvA = some (.ref 62) := by rw [← hlA]; exact px_st1_nr rfl
  have l2 : px_find 2 lvA = some (.int w) := by rw [← hlA]; exact px_st1_at _ _ _
  have pre : ∀ (r : Option Value) (h9 : px_H) (bb : Bool), px_cmp .ge w 0 = bb → px_Z nm_T none nm_P mm_X_readInto (bif bb then 20 else 12) lvA [] hp r h9 → px_C nm_T nm_P mi_X_readInto [.ref 0, .ref 62] hp r h9 := by
    intro r h9 bb hb h
    refine px_C_of (N := mm_X_readInto) rfl (Nat.le_of_ble_eq_true rfl) ?_
    refine px_q_aln (len := 1) (j := 0) (a := 0) rfl rfl ?_
    refine px_q_get (len := 3) (ci := 8) (k := 1) (fs := fs0) (v := .ref 12) rfl rfl hx0 ht ?_
    refine px_q_virt (len := 3) (n := 0) (a := 12) (N := mm_Text_firstFault) (mi := mi_Text_firstFault) (ci := 5) rfl rfl rfl hx12 rfl (Nat.le_of_ble_eq_true rfl) (Nat.le_of_ble_eq_true rfl) rfl rfl c1 ?_
    refine px_Z_its (pc1 := 8) (lv1 := lvA) (st1 := []) (hp1 := hp) 1 (fun _ _ _ _ => by rw [← hlA]; rfl) ?_
    refine px_q_iln (len := 1) (j := 2) rfl l2 ?_
    refine px_q_if (bb := bb) (len := 3) (c := .ge) (off := 11) rfl hb ?_
    cases bb
    · exact h
    · exact h
  have tail : ∀ (hp1 : px_H) (bb : Bool) (v : Int32), ab_h nm_GH hp1 → px_cmp .ge w 0 = bb → (∀ hp2 : px_H, ab_h nm_GH hp2 → px_fr [(12, 1)] [] hp1 hp2 → px_Z nm_T none nm_P mm_X_readInto (bif bb then 40 else 33) lvA [] hp2 (some (.int v)) hp2) → ∃ hp2 : px_H, px_Z nm_T none nm_P mm_X_readInto 20 lvA [] hp1 (some (.int v)) hp2 ∧ ab_h nm_GH hp2 ∧ ac_fv hp2 12 1 = some (.int (Int32.ofNat 0)) ∧ px_fr [(12, 1)] [] hp1 hp2 := by
    intro hp1 bb v g1 hb h
    obtain ⟨hp2, m1, m2, m3, m4⟩ := ri_cut g1
    obtain ⟨gs0, hy0, -, -⟩ := ac_obj g1 (c := 0) rfl
    obtain ⟨gs12, hy12, -, -⟩ := ac_obj g1 (c := 12) rfl
    refine ⟨hp2, ?_, m2, m3, m4⟩
    refine px_q_aln (len := 1) (j := 0) rfl l0 ?_
    refine px_q_get (len := 3) (ci := 8) (k := 1) (fs := gs0) (v := .ref 12) rfl rfl hy0 (ac_refF g1 (ci := 8) (k := 1) (c := 0) (d := 12) rfl hy0) ?_
    refine px_Z_its (pc1 := 25) (lv1 := lvA) (st1 := [.int 0, .ref 12]) (hp1 := hp1) 1 (fun _ _ _ _ => rfl) ?_
    refine px_q_virt (len := 3) (n := 1) (a := 12) (N := mm_Text_cut) (mi := mi_Text_cut) (ci := 5) rfl rfl rfl hy12 rfl (Nat.le_of_ble_eq_true rfl) (Nat.le_of_ble_eq_true rfl) rfl rfl m1 ?_
    refine px_Z_its (pc1 := 29) (lv1 := lvA) (st1 := []) (hp1 := hp2) 1 (fun _ _ _ _ => rfl) ?_
    refine px_q_iln (len := 1) (j := 2) rfl l2 ?_
    refine px_q_if (bb := bb) (len := 3) (c := .ge) (off := 10) rfl hb ?_
    have := h hp2 m2 m4
    cases bb
    · exact this
    · exact this
  unfold rp_XA
  by_cases hw : xf f (min n 20) n 21 0 0 < 0
  · rw [if_pos hw]
    have hb : px_cmp .ge w 0 = false := by
      simp only [px_cmp, decide_eq_false_iff_not, ge_iff_le, Int32.le_iff_toInt_le, Int32.toInt_zero]
      omega
    obtain ⟨hp1, d1, d2, d3, d4⟩ := rd_C62 hG hl hn4 hs
    obtain ⟨hp2, t1, t2, t3, t4⟩ := tail hp1 false (Int32.ofNat (xr f n 41 0 0)) d2 hb (fun hp2 g2 f2 => by
      obtain ⟨ks, hk, -, -⟩ := ac_obj g2 (c := 62) rfl
      refine px_q_aln (pc := 33) (len := 1) (j := 1) rfl l1 ?_
      refine px_q_get (len := 3) (ci := 3) (k := 3) (fs := ks) (v := .int (Int32.ofNat (xr f n 41 0 0))) rfl rfl hk (dr_fvo hk (ex_fv_fr f2 (by decide) d3)) ?_
      refine px_Z_its (pc1 := 43) (lv1 := lvA) (st1 := [.int (Int32.ofNat (xr f n 41 0 0))]) (hp1 := hp2) 1 (fun _ _ _ _ => rfl) ?_
      exact px_q_iret (len := 1) (ty := .int) rfl rfl rfl)
    refine ⟨Int32.ofNat (xr f n 41 0 0), hp2, pre _ _ false hb ?_, ?_, t2, t3, px_fr_tr (px_fr_mono d4 (by decide) (fun q hq => hq)) (px_fr_mono t4 (by decide) (fun q hq => (by cases hq)))⟩
    · refine px_q_aln (pc := 12) (len := 1) (j := 1) rfl l1 ?_
      refine px_q_aln (len := 1) (j := 0) rfl l0 ?_
      refine px_q_get (len := 3) (ci := 8) (k := 1) (fs := fs0) (v := .ref 12) rfl rfl hx0 ht ?_
      exact px_q_virt (len := 3) (n := 1) (a := 62) (N := mm_Rule_read) (mi := mi_Rule_read) (ci := 3) rfl rfl rfl hxR rfl (Nat.le_of_ble_eq_true rfl) (Nat.le_of_ble_eq_true rfl) rfl rfl d1 t1
    · exact nm_ofNat_toInt _ (by have := ri_xr f n 41 0 0 (by decide); omega)
  · rw [if_neg hw]
    have hb : px_cmp .ge w 0 = true := by
      simp only [px_cmp, decide_eq_true_eq, ge_iff_le, Int32.le_iff_toInt_le, Int32.toInt_zero]
      omega
    obtain ⟨hp2, t1, t2, t3, t4⟩ := tail hp true (Int32.ofInt (-1) - w) hG hb (fun hp2 g2 f2 => by
      refine px_Z_its (pc1 := 41) (lv1 := lvA) (st1 := [.int (Int32.ofInt (-1))]) (hp1 := hp2) 1 (fun _ _ _ _ => rfl) ?_
      refine px_q_iln (len := 1) (j := 2) rfl l2 ?_
      refine px_Z_its (pc1 := 43) (lv1 := lvA) (st1 := [.int (Int32.ofInt (-1) - w)]) (hp1 := hp2) 1 (fun _ _ _ _ => rfl) ?_
      exact px_q_iret (len := 1) (ty := .int) rfl rfl rfl)
    refine ⟨Int32.ofInt (-1) - w, hp2, pre _ _ true hb t1, ?_, t2, t3, px_fr_mono t4 (by decide) (fun q hq => (by cases hq))⟩
    have b := ab_i32 w
    have b1 : (-2147483648 : Int) ≤ w.toInt := b.1
    have b2 : w.toInt ≤ 2147483647 := b.2
    rw [Int32.toInt_sub, show (Int32.ofInt (-1)).toInt = -1 from by decide, ab_bmod32 (by omega) (by omega), w1]
theorem ro_h_obj {hp : px_H} {c ci : Nat} {fs : List Value} (hG : ab_h nm_GH hp) (hx : hp[c]? = some (.inr (ci, fs))) {k : Nat} {f : ab_F} {u : Value} (hf : ∀ FS, nm_GH[c]? = some (.inl (ci, FS)) → FS[k]? = some f) (hu : ab_f f u) : ab_h nm_GH (hp.set c (.inr (ci, fs.set k u))) := by
  refine ⟨by rw [List.length_set]; exact hG.1, fun j a y ha hy => ?_⟩
  by_cases hj : j = c
  · subst hj
    rw [List.getElem?_set_self (List.getElem?_eq_some_iff.mp hx).1] at hy
    cases hy
    have h1 := hG.2 j a _ ha hx
    cases a with
    | inr q => exact absurd h1 (by simp [ab_c])
    | inl q =>
      obtain ⟨ci2, FS⟩ := q
      obtain ⟨e1, e2, e3⟩ := h1
      subst e1
      refine ⟨rfl, by rw [List.length_set]; exact e2, fun k' f' v hf' hv => ?_⟩
      by_cases hk : k' = k
      · subst hk
        have hlt : k' < fs.length := by
          have := (List.getElem?_eq_some_iff.mp hv).1
          rwa [List.length_set] at this
        rw [List.getElem?_set_self hlt] at hv
        cases hv
        rw [hf FS ha] at hf'
        cases hf'
        exact hu
      · rw [List.getElem?_set_ne (fun h => hk h.symm)] at hv
        exact e3 k' f' v hf' hv
  · rw [List.getElem?_set_ne (fun h => hj h.symm)] at hy
    exact hG.2 j a y ha hy
theorem ru_thr {hp : px_H} (hG : ab_h nm_GH hp) : ∃ fs : List Value, hp[69]? = some (.inr (9, fs)) ∧ nf_thrown < fs.length ∧ ab_h nm_GH (hp.set 69 (.inr (9, fs.set nf_thrown (.int 0)))) ∧ px_fr [(69, nf_thrown)] [] hp (hp.set 69 (.inr (9, fs.set nf_thrown (.int 0)))) := by
  obtain ⟨fs, hx, -, -⟩ := ac_obj hG (c := 69) rfl
  obtain ⟨t, ht, -⟩ := nm_fI hG hx (k := nf_thrown) (a := 0) (b := 1) rfl
  exact ⟨fs, hx, (List.getElem?_eq_some_iff.mp ht).1, nm_h_obj hG hx (f := (0, 0, 1, [])) (fun FS h => by cases h; rfl) ⟨rfl, by decide, by decide⟩, px_fr_obj hx (by decide)⟩
/-! end, on both sides -/
def en_no (l a b : Int) : Bool := ex_rts 0 (ex_run [] [] [] [] mi_X_end [(2, 0, 0, [0]), (0, a, b, [])] [(12, 1, 0, l, l, [])]) && ex_rts 0 (ex_run [] [] [(69, 0)] [] mi_M_end [(2, 0, 0, [69]), (0, a, b, [])] [(69, 22, 0, l, l, [])])
def en_go (a : Int) : Bool := ex_rzs 1 12 1 a (ex_run [] [] [(12, 1)] [] mi_X_end [(2, 0, 0, [0]), (0, a, a, [])] [(12, 1, 0, a, 40, [])]) && ex_rzs 1 69 22 a (ex_run [] [] [(69, 0), (69, 22)] [] mi_M_end [(2, 0, 0, [69]), (0, a, a, [])] [(69, 22, 0, a, 40, [])])
set_option maxRecDepth 1000000 in
theorem en_t : (List.range 41).all (fun l => en_no (l : Nat) (-2147483648) (-1) && (en_no (l : Nat) ((l : Nat) + 1) 2147483647 && en_go (l : Nat))) = true := by decide +kernel
theorem en_nok {hp : px_H} {n : Nat} {a1 : Int32} {a b : Int} (t : en_no (n : Nat) a b = true) (hG : ab_h nm_GH hp) (hR : nm_R hp) (h0 : n ≤ 40) (h1 : ac_fv hp 12 1 = some (.int (Int32.ofNat n))) (h2 : ac_fv hp 69 22 = some (.int (Int32.ofNat n))) (e1 : a ≤ a1.toInt) (e2 : a1.toInt ≤ b) : ex_twoR mi_X_end mi_M_end true 0 69 [.int a1] hp := by
  have en := nm_ofNat_toInt n (by omega)
  have no : ∀ κ ∈ ([] : List ac_K), nm_ok κ := fun _ h => absurd h List.not_mem_nil
  simp only [en_no, Bool.and_eq_true] at t
  obtain ⟨v, hp1, q, m1, m2, m3, m4⟩ := ex_rts_ok no t.1 hG (av := [.ref 0, .int a1]) ⟨⟨rfl, List.mem_cons_self⟩, ⟨rfl, e1, e2⟩, trivial⟩ (ex_ov1 h1 (by omega) (by omega))
  obtain ⟨v', hp2, q', n1, n2, n3, n4⟩ := ex_rts_ok no t.2 m3.2.1 (av := [.ref 69, .int a1]) ⟨⟨rfl, List.mem_cons_self⟩, ⟨rfl, e1, e2⟩, trivial⟩ (ex_ov1 (ex_fv_fr m4 (by decide) h2) (by omega) (by omega))
  exact ⟨v, v', hp1, hp2, m1, m3.2.1, n1, n3.2.1, fun _ => by rw [← Int32.toInt_inj, m2, n2], nm_R_fr n4 (by decide) (nm_R_fr m4 (by decide) hR)⟩
theorem ex_end {hp : px_H} {a1 : Int32} (hG : ab_h nm_GH hp) (hR : nm_R hp) : ex_twoR mi_X_end mi_M_end true 0 69 [.int a1] hp := by
  have hR0 := hR
  obtain ⟨n, f, g, h0, h1, h2, h3, h4, h5⟩ := hR
  have en := nm_ofNat_toInt n (by omega)
  have no : ∀ κ ∈ ([] : List ac_K), nm_ok κ := fun _ h => absurd h List.not_mem_nil
  have b := ab_i32 a1
  by_cases c1 : a1.toInt < 0
  · have t := List.all_eq_true.mp en_t n (List.mem_range.mpr (by omega))
    simp only [Bool.and_eq_true] at t
    exact en_nok t.1 hG hR0 h0 h1 h2 b.1 (by omega)
  by_cases c2 : (n : Int) < a1.toInt
  · have t := List.all_eq_true.mp en_t n (List.mem_range.mpr (by omega))
    simp only [Bool.and_eq_true] at t
    exact en_nok t.2.1 hG hR0 h0 h1 h2 (by omega) b.2
  have t := List.all_eq_true.mp en_t a1.toInt.toNat (List.mem_range.mpr (by omega))
  simp only [Bool.and_eq_true] at t
  have t := t.2.2
  simp only [en_go, Bool.and_eq_true] at t
  have ra : ((a1.toInt.toNat : Nat) : Int) ≤ a1.toInt := by omega
  have rb : a1.toInt ≤ ((a1.toInt.toNat : Nat) : Int) := by omega
  obtain ⟨v, w, hp1, m1, m2, m3, m4, m5, m6⟩ := ex_rzs_ok no t.1 (by decide +kernel) hG (av := [.ref 0, .int a1]) ⟨⟨rfl, List.mem_cons_self⟩, ⟨rfl, ra, rb⟩, trivial⟩ (ex_ov1 h1 (by omega) (by omega))
  obtain ⟨v', w', hp2, n1, n2, n3, n4, n5, n6⟩ := ex_rzs_ok no t.2 (by decide +kernel) m5 (av := [.ref 69, .int a1]) ⟨⟨rfl, List.mem_cons_self⟩, ⟨rfl, ra, rb⟩, trivial⟩ (ex_ov1 (ex_fv_fr m6 (by decide) h2) (by omega) (by omega))
  have ea := nm_ofNat_toInt a1.toInt.toNat (by omega)
  have e1 : w = Int32.ofNat a1.toInt.toNat := by rw [← Int32.toInt_inj, m4, ea]
  have e2 : w' = Int32.ofNat a1.toInt.toNat := by rw [← Int32.toInt_inj, n4, ea]
  subst e1
  subst e2
  exact ⟨v, v', hp1, hp2, m1, m5, n1, n5, fun _ => by rw [← Int32.toInt_inj, m2, n2], a1.toInt.toNat, f, g, by omega, ex_fv_fr n6 (by decide) m3, n3, n6.1 _ _ (by decide) (m6.1 _ _ (by decide) h3), n6.1 _ _ (by decide) (m6.1 _ _ (by decide) h4), h5⟩
/-! rule, on both sides -/
theorem ex_rule {hp : px_H} (hG : ab_h nm_GH hp) (hR : nm_R hp) : ex_twoR mi_X_rule mi_M_rule true 0 69 [] hp := by
  obtain ⟨n, f, g, h0, h1, h2, h3, h4, h5⟩ := hR
  obtain ⟨v, hp1, c1, v1, g1, w1, f1⟩ := ri_C14 hG h1 h0 h3
  obtain ⟨fs0, hx0, -, -⟩ := ac_obj hG (c := 0) rfl
  have cX : px_C nm_T nm_P mi_X_rule [.ref 0] hp (some (.int v)) hp1 := by
    refine px_C_of (N := mm_X_rule) rfl (Nat.le_of_ble_eq_true rfl) ?_
    refine px_Z_its (pc1 := 2) (lv1 := [(0, .ref 0)]) (st1 := [.ref 0, .ref 0]) (hp1 := hp) 2 (fun _ _ _ _ => rfl) ?_
    refine px_q_get (len := 3) (ci := 8) (k := 2) (fs := fs0) (v := .ref 14) rfl rfl hx0 (ac_refF hG (ci := 8) (k := 2) (c := 0) (d := 14) rfl hx0) ?_
    refine px_q_virt (len := 3) (n := 1) (a := 0) (N := mm_X_readInto) (mi := mi_X_readInto) (ci := 8) rfl rfl rfl hx0 rfl (Nat.le_of_ble_eq_true rfl) (Nat.le_of_ble_eq_true rfl) rfl rfl c1 ?_
    exact px_q_iret (len := 1) (ty := .int) rfl rfl rfl
  obtain ⟨fs, hx, hk, hG2, f2⟩ := ru_thr g1
  have hx2 : (hp1.set 69 (.inr (9, fs.set nf_thrown (.int 0))))[69]? = some (.inr (9, fs.set nf_thrown (.int 0))) := List.getElem?_set_self (List.getElem?_eq_some_iff.mp hx).1
  generalize hh : hp1.set 69 (.inr (9, fs.set nf_thrown (.int 0))) = hpA at hG2 f2 hx2
  obtain ⟨v', w0, hp2, rk, rd, c2, e2, g2, y1, y2, f3⟩ := rp_M (pl := 0) hG2 (ex_fv_fr f2 (by decide) (ex_fv_fr f1 (by decide) h2)) h0 (f2.1 _ _ (by decide) (f1.1 _ _ (by decide) h4)) (by decide) (by decide)
  have ew : w0 = Int32.ofNat 0 := by rw [← Int32.toInt_inj, y2]; rfl
  subst ew
  refine ⟨v, v', hp1, hp2, cX, g1, ?_, g2, fun _ => by rw [← Int32.toInt_inj, v1, e2]; exact rp_same h0 h5, 0, f, g, by decide, ex_fv_fr f3 (by decide +kernel) (ex_fv_fr f2 (by decide) w1), y1, f3.1 _ _ (by decide +kernel) (f2.1 _ _ (by decide) (f1.1 _ _ (by decide) h3)), f3.1 _ _ (by decide +kernel) (f2.1 _ _ (by decide) (f1.1 _ _ (by decide) h4)), h5⟩
  refine px_C_of (N := mm_M_rule) rfl (Nat.le_of_ble_eq_true rfl) ?_
  refine px_Z_its (pc1 := 2) (lv1 := [(0, .ref 69)]) (st1 := [.int 0, .ref 69]) (hp1 := hp1) 2 (fun _ _ _ _ => rfl) ?_
  refine px_q_putf (len := 3) (ci := 9) (k := nf_thrown) (fs := fs) rfl rfl hx hk rfl rfl rfl rfl ?_
  rw [hh]
  refine px_Z_its (pc1 := 7) (lv1 := [(0, .ref 69)]) (st1 := [.int 0, .ref 69]) (hp1 := hpA) 2 (fun _ _ _ _ => rfl) ?_
  refine px_q_virt (len := 3) (n := 1) (a := 69) (N := mm_M_readsRule) (mi := mi_M_readsRule) (ci := 9) rfl rfl rfl hx2 rfl (Nat.le_of_ble_eq_true rfl) (Nat.le_of_ble_eq_true rfl) rfl rfl c2 ?_
  exact px_q_iret (len := 1) (ty := .int) rfl rfl rfl
/-! other, on both sides -/
theorem ro_tail {hp : px_H} {lv : List (Nat × Value)} {v a1 : Int32} (hG : ab_h nm_GH hp) (l0 : px_find 0 lv = some (.ref 0)) (l1 : px_find 1 lv = some (.int a1)) : ∃ hp' : px_H, px_Z nm_T none nm_P mm_X_other 31 lv [.int v] hp (some (.int v)) hp' ∧ ab_h nm_GH hp' ∧ px_fr [(0, 4)] [] hp hp' := by
  generalize hlA : px_st1 lv 2 (.int v) = lvA
  have a0 : px_find 0 lvA = some (.ref 0) := by rw [← hlA]; exact px_st1_nr l0
  have a1' : px_find 1 lvA = some (.int a1) := by rw [← hlA]; exact ab_sto1_find l1 (by decide) (fun _ hc => by cases hc)
  have a2 : px_find 2 lvA = some (.int v) := by rw [← hlA]; exact px_st1_at _ _ _
  have pre : ∀ (r : Option Value) (h9 : px_H) (bb : Bool), px_cmp .lt v 0 = bb → px_Z nm_T none nm_P mm_X_other (bif bb then 48 else 36) lvA [] hp r h9 → px_Z nm_T none nm_P mm_X_other 31 lv [.int v] hp r h9 := by
    intro r h9 bb hb h
    refine px_Z_its (pc1 := 32) (lv1 := lvA) (st1 := []) (hp1 := hp) 1 (fun _ _ _ _ => by rw [← hlA]; rfl) ?_
    refine px_q_iln (len := 1) (j := 2) rfl a2 ?_
    refine px_q_if (bb := bb) (len := 3) (c := .lt) (off := 15) rfl hb ?_
    cases bb
    · exact h
    · exact h
  have fin : ∀ hp2 : px_H, px_Z nm_T none nm_P mm_X_other 48 lvA [] hp2 (some (.int v)) hp2 := by
    intro hp2
    refine px_q_iln (len := 1) (j := 2) rfl a2 ?_
    exact px_q_iret (len := 1) (ty := .int) rfl rfl rfl
  cases hb : px_cmp .lt v 0 with
  | true => exact ⟨hp, pre _ _ true hb (fin hp), hG, px_fr_rf _ _ _⟩
  | false =>
    obtain ⟨fs, hx, -, -⟩ := ac_obj hG (c := 0) rfl
    obtain ⟨w, hw0, -⟩ := ex_fv (c := 0) (k := 4) (by decide +kernel) hG
    have hw := dr_fvo hx hw0
    have hk := (List.getElem?_eq_some_iff.mp hw).1
    refine ⟨hp.set 0 (.inr (8, fs.set 4 (.int (w ||| (Int32.ofInt 1 <<< (a1 &&& 31)))))), pre _ _ false hb ?_, ro_h_obj hG hx (f := (0, -2147483648, 2147483647, [])) (fun FS h => by cases h; rfl) ⟨rfl, ab_i32 _⟩, px_fr_obj hx (by decide)⟩
    refine px_q_aln (pc := 36) (len := 1) (j := 0) rfl a0 ?_
    refine px_Z_its (pc1 := 38) (lv1 := lvA) (st1 := [.ref 0, .ref 0]) (hp1 := hp) 1 (fun _ _ _ _ => rfl) ?_
    refine px_q_get (len := 3) (ci := 8) (k := 4) (fs := fs) (v := .int w) rfl rfl hx hw ?_
    refine px_Z_its (pc1 := 42) (lv1 := lvA) (st1 := [.int (Int32.ofInt 1), .int w, .ref 0]) (hp1 := hp) 1 (fun _ _ _ _ => rfl) ?_
    refine px_q_iln (len := 1) (j := 1) rfl a1' ?_
    refine px_Z_its (pc1 := 45) (lv1 := lvA) (st1 := [.int (w ||| (Int32.ofInt 1 <<< (a1 &&& 31))), .ref 0]) (hp1 := hp) 2 (fun _ _ _ _ => rfl) ?_
    refine px_q_putf (len := 3) (ci := 8) (k := 4) (fs := fs) rfl rfl hx hk rfl rfl rfl rfl ?_
    exact fin _
def ro_no (a b : Int) : Bool := ex_rzs (-100) 12 1 0 (ex_run [] [] [(12, 1)] [] mi_X_other [(2, 0, 0, [0]), (0, a, b, [])] []) && ex_rzs (-100) 69 22 0 (ex_run [] [] [(69, 0), (69, 22)] [] mi_M_other [(2, 0, 0, [69]), (0, a, b, [])] [])
def ro_B : ac_S := ([(0, ((2, 0, 0, [0]), none)), (1, ((0, 0, 2, []), some (2, 1, 0)))], [((2, 0, 0, [54, 58, 62]), none), ((2, 0, 0, [0]), none)], [], [], [], [])
def ro_eX : Bool := match ex_runS [] [] [] [] mi_X_other mm_X_other [(2, 0, 0, [0]), (0, 0, 2, [])] [] [28] with
  | some o => o.1.isEmpty && o.2.all (fun q => Nat.beq q.1 28 && ac_le nm_GH none q.2 ro_B)
  | none => false
def ro_BM : ac_S := ([], [((0, 1, 3, []), none), ((2, 0, 0, [69]), none)], [], [], [], [])
def ro_eM : Bool := match ex_runS [] [] [(69, 0)] [] mi_M_other mm_M_other [(2, 0, 0, [69]), (0, 0, 2, [])] [] [29] with
  | some o => o.1.isEmpty && o.2.all (fun q => Nat.beq q.1 29 && ac_le nm_GH none q.2 ro_BM)
  | none => false
set_option maxRecDepth 1000000 in
theorem ro_t : (ro_no (-2147483648) (-1) && (ro_no 3 2147483647 && (ro_eX && ro_eM))) = true := by decide +kernel
theorem ro_nok {hp : px_H} {a1 : Int32} {a b : Int} (t : ro_no a b = true) (hG : ab_h nm_GH hp) (hR : nm_R hp) (e1 : a ≤ a1.toInt) (e2 : a1.toInt ≤ b) : ex_twoR mi_X_other mi_M_other true 0 69 [.int a1] hp := by
  obtain ⟨n, f, g, h0, h1, h2, h3, h4, h5⟩ := hR
  have no : ∀ κ ∈ ([] : List ac_K), nm_ok κ := fun _ h => absurd h List.not_mem_nil
  simp only [ro_no, Bool.and_eq_true] at t
  obtain ⟨v, w, hp1, m1, m2, m3, m4, m5, m6⟩ := ex_rzs_ok no t.1 (by decide +kernel) hG (av := [.ref 0, .int a1]) ⟨⟨rfl, List.mem_cons_self⟩, ⟨rfl, e1, e2⟩, trivial⟩ (fun q hq => (by cases hq))
  obtain ⟨v', w', hp2, n1, n2, n3, n4, n5, n6⟩ := ex_rzs_ok no t.2 (by decide +kernel) m5 (av := [.ref 69, .int a1]) ⟨⟨rfl, List.mem_cons_self⟩, ⟨rfl, e1, e2⟩, trivial⟩ (fun q hq => (by cases hq))
  have e1 : w = Int32.ofNat 0 := by rw [← Int32.toInt_inj, m4]; rfl
  have e2 : w' = Int32.ofNat 0 := by rw [← Int32.toInt_inj, n4]; rfl
  subst e1
  subst e2
  exact ⟨v, v', hp1, hp2, m1, m5, n1, n5, fun _ => by rw [← Int32.toInt_inj, m2, n2], 0, f, g, by decide, ex_fv_fr n6 (by decide) m3, n3, n6.1 _ _ (by decide) (m6.1 _ _ (by decide) h3), n6.1 _ _ (by decide) (m6.1 _ _ (by decide) h4), h5⟩
abbrev ro_ws : List (Nat × Nat) := [(54, 3), (58, 3), (62, 3), (12, 1)]
abbrev ro_wa : List Nat := [55, 56, 57, 59, 60, 61, 63, 64, 65]
theorem ex_other {hp : px_H} {a1 : Int32} (hG : ab_h nm_GH hp) (hR : nm_R hp) : ex_twoR mi_X_other mi_M_other true 0 69 [.int a1] hp := by
  have U := ro_t
  simp only [Bool.and_eq_true] at U
  obtain ⟨U1, U2, U3, U4⟩ := U
  have b := ab_i32 a1
  by_cases c1 : a1.toInt < 0
  · exact ro_nok U1 hG hR b.1 (by omega)
  by_cases c2 : 2 < a1.toInt
  · exact ro_nok U2 hG hR (by omega) b.2
  obtain ⟨n, f, g, h0, h1, h2, h3, h4, h5⟩ := hR
  have ra : (0 : Int) ≤ a1.toInt := by omega
  have rb : a1.toInt ≤ (2 : Int) := by omega
  have no : ∀ κ ∈ ([] : List ac_K), nm_ok κ := fun _ h => absurd h List.not_mem_nil
  -- the class, to the call
  unfold ro_eX at U3
  split at U3
  rotate_left
  · cases U3
  rename_i o ho
  simp only [Bool.and_eq_true, List.all_eq_true, List.isEmpty_iff] at U3
  rcases ex_runS_ok no rfl (Nat.le_of_ble_eq_true rfl) ho hG (av := [.ref 0, .int a1]) ⟨⟨rfl, List.mem_cons_self⟩, ⟨rfl, ra, rb⟩, trivial⟩ (fun q hq => (by cases hq)) with ⟨r, hp', q, m1, -⟩ | ⟨pc', lv, st, hp1, A', m1, m2, m3, m4⟩
  · rw [U3.1] at m1
    cases m1
  obtain ⟨q1, q2⟩ := U3.2 _ m1
  have q1 := Nat.eq_of_beq_eq_true q1
  simp only at q1
  subst q1
  obtain ⟨γ2, -, h9, -⟩ := ac_le_ok q2 m2
  obtain ⟨b1, b2, b3, b4, -⟩ := h9
  obtain ⟨u0, l0, o0⟩ := b1 0 _ (List.mem_cons_self)
  obtain ⟨c0, rfl, e0⟩ := ab_f2 o0.1
  cases List.mem_singleton.mp e0
  obtain ⟨u1, l1, o1⟩ := b1 1 _ (List.mem_cons_of_mem _ List.mem_cons_self)
  obtain ⟨rfl, -, -⟩ := ex_org o1
  match st, b2, m4 with
  | [s1, s2], ⟨t1, t2, _⟩, m4 =>
    obtain ⟨R, rfl, hRR⟩ := ab_f2 t1.1
    obtain ⟨c9, rfl, e9⟩ := ab_f2 t2.1
    cases List.mem_singleton.mp e9
    have h1' := ex_fv_fr m3 (by decide) h1
    have h3' := m3.1 _ _ (by decide) h3
    have rd : ∃ (v : Int32) (hp2 : px_H), px_C nm_T nm_P mi_X_readInto [.ref 0, .ref R] hp1 (some (.int v)) hp2 ∧ v.toInt = rp_XA n f ∧ ab_h nm_GH hp2 ∧ ac_fv hp2 12 1 = some (.int (Int32.ofNat 0)) ∧ px_fr ro_ws ro_wa hp1 hp2 := by
      have : R = 54 ∨ R = 58 ∨ R = 62 := by simpa using hRR
      rcases this with rfl | rfl | rfl
      · obtain ⟨v, hp2, d1, d2, d3, d4, d5⟩ := ri_C54 b3 h1' h0 h3'
        exact ⟨v, hp2, d1, d2, d3, d4, px_fr_mono d5 (by decide) (by decide)⟩
      · obtain ⟨v, hp2, d1, d2, d3, d4, d5⟩ := ri_C58 b3 h1' h0 h3'
        exact ⟨v, hp2, d1, d2, d3, d4, px_fr_mono d5 (by decide) (by decide)⟩
      · obtain ⟨v, hp2, d1, d2, d3, d4, d5⟩ := ri_C62 b3 h1' h0 h3'
        exact ⟨v, hp2, d1, d2, d3, d4, px_fr_mono d5 (by decide) (by decide)⟩
    obtain ⟨v, hp2, d1, d2, d3, d4, d5⟩ := rd
    obtain ⟨fs0, hx0, -, -⟩ := ac_obj b3 (c := 0) rfl
    obtain ⟨hp3, k1, k2, k3⟩ := ro_tail (v := v) d3 l0 l1
    have cX : px_C nm_T nm_P mi_X_other [.ref 0, .int a1] hp (some (.int v)) hp3 := by
      refine m4 _ _ ?_
      exact px_q_virt (len := 3) (n := 1) (a := 0) (N := mm_X_readInto) (mi := mi_X_readInto) (ci := 8) rfl rfl rfl hx0 rfl (Nat.le_of_ble_eq_true rfl) (Nat.le_of_ble_eq_true rfl) rfl rfl d1 k1
    have fX : px_fr ((0, 4) :: ro_ws) ro_wa hp hp3 := px_fr_tr (px_fr_mono m3 (fun q hq => (by cases hq)) (fun q hq => (by cases hq))) (px_fr_tr (px_fr_mono d5 (by decide) (fun q hq => hq)) (px_fr_mono k3 (by decide) (fun q hq => (by cases hq))))
    have w1 := ex_fv_fr k3 (by decide) d4
    -- the model
    unfold ro_eM at U4
    split at U4
    rotate_left
    · cases U4
    rename_i o2 ho2
    simp only [Bool.and_eq_true, List.all_eq_true, List.isEmpty_iff] at U4
    rcases ex_runS_ok no rfl (Nat.le_of_ble_eq_true rfl) ho2 k2 (av := [.ref 69, .int a1]) ⟨⟨rfl, List.mem_cons_self⟩, ⟨rfl, ra, rb⟩, trivial⟩ (fun q hq => (by cases hq)) with ⟨r, hp', q, j1, -⟩ | ⟨pc2, lv2, st2, hp4, A2, j1, j2, j3, j4⟩
    · rw [U4.1] at j1
      cases j1
    obtain ⟨q3, q4⟩ := U4.2 _ j1
    have q3 := Nat.eq_of_beq_eq_true q3
    simp only at q3
    subst q3
    obtain ⟨γ3, -, h8, -⟩ := ac_le_ok q4 j2
    obtain ⟨-, y2, y3, -⟩ := h8
    match st2, y2, j4 with
    | [z1, z2], ⟨p1, p2, _⟩, j4 =>
      obtain ⟨pl, rfl, hpl⟩ := ab_f0 p1.1
      obtain ⟨c8, rfl, e8⟩ := ab_f2 p2.1
      cases List.mem_singleton.mp e8
      have pl1 : 1 ≤ pl.toInt := hpl.1
      have pl3 : pl.toInt ≤ 3 := hpl.2
      obtain ⟨fs, hx, -, -⟩ := ac_obj y3 (c := 69) rfl
      obtain ⟨v', w0, hp5, rk, rdd, x1, x2, x3, x4, x5, x6⟩ := rp_M (pl := pl) y3 (ex_fv_fr j3 (by decide) (ex_fv_fr fX (by decide) h2)) h0 (j3.1 _ _ (by decide) (fX.1 _ _ (by decide) h4)) (by omega) (by omega)
      have ew : w0 = Int32.ofNat 0 := by rw [← Int32.toInt_inj, x5]; rfl
      subst ew
      refine ⟨v, v', hp3, hp5, cX, k2, j4 _ _ ?_, x3, fun _ => by rw [← Int32.toInt_inj, d2, x2]; exact rp_same h0 h5, 0, f, g, by decide, ex_fv_fr x6 (by decide +kernel) (ex_fv_fr j3 (by decide) w1), x4, x6.1 _ _ (by decide +kernel) (j3.1 _ _ (by decide) (fX.1 _ _ (by decide) h3)), x6.1 _ _ (by decide +kernel) (j3.1 _ _ (by decide) (fX.1 _ _ (by decide) h4)), h5⟩
      refine px_q_virt (len := 3) (n := 1) (a := 69) (N := mm_M_readsRule) (mi := mi_M_readsRule) (ci := 9) rfl rfl rfl hx rfl (Nat.le_of_ble_eq_true rfl) (Nat.le_of_ble_eq_true rfl) rfl rfl x1 ?_
      exact px_q_iret (len := 1) (ty := .int) rfl rfl rfl
end mg_11
