section mg_0
/-! flags: 2 says that the hash of ENDS has at most as many places taken as the table has entries -/
def nm_FA : Nat → List Nat := fun i => match Nat.beq i 2 with
  | true => [nm_cHash, nm_cSize]
  | false => []
/-- how many of the places from lo on are taken -/
def nm_cnt (f : Nat → Int32) (lo : Nat) : Nat → Nat
  | 0 => 0
  | n + 1 => nm_cnt f lo n + (if 0 ≤ (f (lo + n)).toInt then 1 else 0)
def nm_HI (t : Nat) (hp : px_H) : Prop := ∃ (th ts : Nat) (f g : Nat → Int32), hp[nm_cHash]? = some (.inl (th, 24576, .inl f)) ∧ hp[nm_cSize]? = some (.inl (ts, 3, .inl g)) ∧ (nm_cnt f (t * 8192) 8192 : Int) ≤ (g t).toInt
def nm_Φ (i : Nat) (hp : px_H) : Prop := match Nat.beq i 2 with
  | true => nm_HI 2 hp
  | false => True
theorem nm_Fl : ac_Fl nm_FA nm_Φ := by
  intro i hp hp' hc h
  unfold nm_Φ nm_FA at *
  cases hi : Nat.beq i 2 with
  | false => trivial
  | true =>
    simp only [hi] at hc h ⊢
    obtain ⟨th, ts, f, g, h1, h2, h3⟩ := h
    exact ⟨th, ts, f, g, (hc _ List.mem_cons_self).trans h1, (hc _ (List.mem_cons_of_mem _ List.mem_cons_self)).trans h2, h3⟩
theorem nm_FG : ∀ i, ∀ c ∈ nm_FA i, ∃ q, nm_GH[c]? = some (.inr q) := by
  intro i c hc
  unfold nm_FA at hc
  split at hc
  · simp only [List.mem_cons, List.not_mem_nil, or_false] at hc
    rcases hc with rfl | rfl
    · exact ⟨_, rfl⟩
    · exact ⟨_, rfl⟩
  · cases hc
abbrev nm_ok : ac_K → Prop := ac_ok nm_T nm_P nm_GH nm_Φ
end mg_0

section mg_1
/-! more rules over the pure machine -/
section px_q4
variable {T : px_T} {X : Option (Nat × (Nat → Int32))} {P : List px_M} {M : px_M}
variable {pc pc1 len : Nat} {lv lv1 : List (Nat × Value)} {st st1 : List Value} {hp hp1 hp' : px_H} {r : Option Value}
theorem px_q_iald {a t n : Nat} {f : Nat → Int32} {j : Int32} (hf : px_find pc (px_cd M) = some (len, .iaload)) (hx : hp[a]? = some (.inl (t, n, .inl f))) (ht : T.1[t]? = some .int) (hj : px_inR j n = true)
    (hR : px_Z T X P M (pc + len) lv (.int (f j.toNatClampNeg) :: st) hp r hp') : px_Z T X P M pc lv (.int j :: .ref a :: st) hp r hp' :=
  px_Z_its 1 (fun call N0 nc ns => by simp only [px_its, px_step, hf, px_alu, px_ald, hx, ht, hj, Option.map_some]) hR
theorem px_q_lald {a t n : Nat} {f : Nat → Int64} {j : Int32} (hf : px_find pc (px_cd M) = some (len, .laload)) (hx : hp[a]? = some (.inl (t, n, .inr (.inl f)))) (ht : T.1[t]? = some .long) (hj : px_inR j n = true)
    (hR : px_Z T X P M (pc + len) lv (.long (f j.toNatClampNeg) :: st) hp r hp') : px_Z T X P M pc lv (.int j :: .ref a :: st) hp r hp' :=
  px_Z_its 1 (fun call N0 nc ns => by simp only [px_its, px_step, hf, px_alu, px_ald, hx, ht, hj, Option.map_some]) hR
theorem px_q_last {a t n : Nat} {f : Nat → Int64} {j : Int32} {x : Int64} (hf : px_find pc (px_cd M) = some (len, .lastore)) (hx : hp[a]? = some (.inl (t, n, .inr (.inl f)))) (ht : T.1[t]? = some .long) (hj : px_inR j n = true)
    (hR : px_Z T X P M (pc + len) lv st (hp.set a (.inl (t, n, .inr (.inl (vp_updL f j.toNatClampNeg x))))) r hp') : px_Z T X P M pc lv (.long x :: .int j :: .ref a :: st) hp r hp' :=
  px_Z_its 1 (fun call N0 nc ns => by simp only [px_its, px_step, hf, px_alu, px_ast, hx, ht, hj, Option.map_some]) hR
theorem px_q_lif {c : ClassFile.Cond} {off : Int} {x y : Int64} {bb : Bool} (hf : px_find pc (px_cd M) = some (len, .lcmp)) (hf2 : px_find (pc + len) (px_cd M) = some (3, .ifCond c off)) (hc : px_cmp c (lg_cmp x y) 0 = bb)
    (hR : px_Z T X P M (bif bb then px_tgt (pc + len) off else pc + len + 3) lv st hp r hp') : px_Z T X P M pc lv (.long y :: .long x :: st) hp r hp' :=
  px_Z_its 2 (fun call N0 nc ns => by cases bb <;> simp only [px_its, px_step, hf, px_alu, px_lc, hf2, hc, cond_true, cond_false]) hR
theorem px_q_iret {v : Int32} {ty : FieldType} (hf : px_find pc (px_cd M) = some (len, .ireturn)) (hr : px_rt M = some ty) (hz : px_zr ty v = true) : px_Z T X P M pc lv [.int v] hp (some (.int v)) hp :=
  ⟨0, 1, fun n _ N0 nc ns q1 q2 => by simp only [px_run, px_step, hf, px_alu, hr, decide_eq_true q1, decide_eq_true q2, hz]⟩
theorem px_q_lret {v : Int64} (hf : px_find pc (px_cd M) = some (len, .lreturn)) (hr : px_rt M = some .long) : px_Z T X P M pc lv [.long v] hp (some (.long v)) hp :=
  ⟨0, 1, fun n _ N0 nc ns q1 q2 => by simp only [px_run, px_step, hf, px_alu, hr, decide_eq_true q1, decide_eq_true q2]⟩
theorem px_q_virt {idx mi n a : Nat} {ci : Int} {fs : List Value} {N : px_M} {r1 : Option Value} (hf : px_find pc (px_cd M) = some (len, .invokevirtual idx)) (hj : px_find idx (px_cp M) = some (1, mi, n, ci)) (hn : st[n]? = some (.ref a)) (hx : hp[a]? = some (.inr (ci.toNat, fs))) (hN : P[mi]? = some N)
    (hl : n + 1 ≤ st.length) (h8 : ((st.drop (n + 1)).map fun v => v.category).sum ≤ 8) (hce : (px_rm N).cells = 0) (hsl : (px_rm N).slots = 0) (hC : px_C T P mi (st.take (n + 1)).reverse hp r1 hp1)
    (hR : px_Z T X P M (pc + 3) lv (r1.toList ++ st.drop (n + 1)) hp1 r hp') : px_Z T X P M pc lv st hp r hp' := by
  obtain ⟨n1, h1⟩ := hC
  obtain ⟨n0, k, h2⟩ := hR
  refine ⟨max n0 n1, 1 + k, fun m hm N0 nc ns q1 q2 => px_its_run 1 ?_ (h2 m (by omega) N0 nc ns q1 q2)⟩
  simp only [px_its, px_i_virt (T := T) (X := X) (N0 := N0) (lv := lv) hf hj hn hx hN hl h8 hce hsl (h1 m (by omega)) q1 q2]
theorem px_q_stat {idx mi n : Nat} {z : Int} {N : px_M} {r1 : Option Value} (hf : px_find pc (px_cd M) = some (len, .invokestatic idx)) (hj : px_find idx (px_cp M) = some (2, mi, n, z)) (hN : P[mi]? = some N)
    (hl : n ≤ st.length) (h8 : ((st.drop n).map fun v => v.category).sum ≤ 8) (hce : (px_rm N).cells = 0) (hsl : (px_rm N).slots = 0) (hC : px_C T P mi (st.take n).reverse hp r1 hp1)
    (hR : px_Z T X P M (pc + 3) lv (r1.toList ++ st.drop n) hp1 r hp') : px_Z T X P M pc lv st hp r hp' := by
  obtain ⟨n1, h1⟩ := hC
  obtain ⟨n0, k, h2⟩ := hR
  refine ⟨max n0 n1, 1 + k, fun m hm N0 nc ns q1 q2 => px_its_run 1 ?_ (h2 m (by omega) N0 nc ns q1 q2)⟩
  simp only [px_its, px_step, hf, px_alu, hj, hN, decide_eq_true hl, decide_eq_true h8, hce, hsl, Nat.add_zero, decide_eq_true q1, decide_eq_true q2, true_or, decide_true, h1 m (by omega)]
end px_q4
theorem px_lne (x y : Int64) : px_cmp .ne (lg_cmp x y) 0 = decide (x ≠ y) := by
  have h := ab_lcmp_rel .ne x y
  cases hc : px_cmp .ne (lg_cmp x y) 0 with
  | true =>
    have := h.1 hc
    simp only [ab_rel] at this
    symm
    rw [decide_eq_true_eq]
    exact fun e => this (by rw [e])
  | false =>
    have := h.2 hc
    simp only [ab_rel, ab_neg] at this
    have e : x = y := Int64.toInt_inj.mp this
    symm
    rw [decide_eq_false_iff_not]
    exact fun h9 => h9 e
section ac_q1
variable {G : List ab_C} {hp hp' : px_H}
theorem ac_arrI (hG : ab_h G hp) {c t n : Nat} (hn : 0 < n) {lo hi : Int} {r : List Nat} (h : G[c]? = some (.inr (t, n, (0, lo, hi, r)))) : ∃ g : Nat → Int32, hp[c]? = some (.inl (t, n, .inl g)) ∧ ∀ j, j < n → lo ≤ (g j).toInt ∧ (g j).toInt ≤ hi := by
  obtain ⟨x, hx, hc⟩ := ac_cell hG h
  cases x with
  | inr q => exact absurd hc (by simp [ab_c])
  | inl q =>
    obtain ⟨t', n', cont⟩ := q
    obtain ⟨rfl, rfl, hall⟩ := hc
    cases cont with
    | inl g => exact ⟨g, hx, fun j hj => (hall j hj).2⟩
    | inr g =>
      exfalso
      have := hall 0 hn
      rcases g with g | g | g | g
      · exact absurd this.1 (show ¬ ((0 : Nat) = 1) by decide)
      · exact this
      · exact this
      · obtain ⟨q, -, hq⟩ := this; exact absurd hq.1 (show ¬ ((0 : Nat) = 2) by decide)
theorem ac_arrL (hG : ab_h G hp) {c t n : Nat} (hn : 0 < n) {lo hi : Int} {r : List Nat} (h : G[c]? = some (.inr (t, n, (1, lo, hi, r)))) : ∃ g : Nat → Int64, hp[c]? = some (.inl (t, n, .inr (.inl g))) ∧ ∀ j, j < n → lo ≤ (g j).toInt ∧ (g j).toInt ≤ hi := by
  obtain ⟨x, hx, hc⟩ := ac_cell hG h
  cases x with
  | inr q => exact absurd hc (by simp [ab_c])
  | inl q =>
    obtain ⟨t', n', cont⟩ := q
    obtain ⟨rfl, rfl, hall⟩ := hc
    cases cont with
    | inl g => exact absurd (hall 0 hn).1 (show ¬ ((1 : Nat) = 0) by decide)
    | inr g =>
      rcases g with g | g | g | g
      · exact ⟨g, hx, fun j hj => (hall j hj).2⟩
      · exact absurd (hall 0 hn) (by simp)
      · exact absurd (hall 0 hn) (by simp)
      · obtain ⟨q, -, hq⟩ := hall 0 hn; exact absurd hq.1 (show ¬ ((1 : Nat) = 2) by decide)
theorem ac_refF (hG : ab_h G hp) {ci k c d : Nat} {vs : List Value} (h : ac_f1 G ci k c = some (2, 0, 0, [d])) (hx : hp[c]? = some (.inr (ci, vs))) : vs[k]? = some (.ref d) := by
  obtain ⟨vs', v, e1, e2, e3, -⟩ := ac_f1_ok hG h
  rw [hx] at e1
  cases e1
  obtain ⟨q, rfl, hq⟩ := ab_f2 e3
  rw [e2, List.mem_singleton.mp hq]
theorem ac_h_arr (hG : ab_h G hp) {c t n : Nat} {f : ab_F} {y x : Nat × vp_A} (hx : hp[c]? = some (.inl x)) (hc : G[c]? = some (.inr (t, n, f))) (hy : ab_c (.inr (t, n, f)) (.inl y)) : ab_h G (hp.set c (.inl y)) := by
  refine ⟨by simp only [List.length_set]; exact hG.1, fun k a z ha hz => ?_⟩
  by_cases hk : k = c
  · subst hk
    rw [List.getElem?_set_self (List.getElem?_eq_some_iff.mp hx).1] at hz
    rw [hc] at ha
    cases ha
    cases hz
    exact hy
  · rw [List.getElem?_set_ne (Ne.symm hk)] at hz
    exact hG.2 _ _ _ ha hz
theorem px_fr_nil (hG : ab_h G hp) (hG' : ab_h G hp') (h : px_fr [] [] hp hp') : hp' = hp := by
  apply List.ext_getElem?
  intro c
  rcases hc : hp[c]? with _ | (q | ⟨ci, vs⟩)
  · rw [List.getElem?_eq_none_iff] at hc ⊢
    have e1 := hG.1
    have e2 := hG'.1
    omega
  · exact h.1 c q List.not_mem_nil hc
  · obtain ⟨vs', e1, e2, e3⟩ := h.2 c ci vs hc
    rw [e1, List.ext_getElem? (fun k => e3 k List.not_mem_nil)]
end ac_q1
end mg_1
