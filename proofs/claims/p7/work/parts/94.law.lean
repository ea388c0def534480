section mg_0
/-! the law's walk, step by step, at any place of the script -/
/-- the law's locals -/
def nm_lvk (lv : List (Nat × Value)) (i : Nat) : Prop := px_find 0 lv = some (.retAddr 0) ∧ px_find 1 lv = some (.ref 0) ∧ px_find 2 lv = some (.ref 69) ∧ px_find 3 lv = some (.ref 105) ∧ px_find 4 lv = some (.int (Int32.ofNat i))
def nm_b01 (x : Int32) : Int32 := if x = 0 then Int32.ofInt 0 else Int32.ofInt 1
theorem nm_b01_in (x : Int32) : 0 ≤ (nm_b01 x).toInt ∧ (nm_b01 x).toInt ≤ 1 := by
  unfold nm_b01
  split <;> decide
section nm_l1
variable {p : Program} {l : Launch} {e : Env} {s : State} {m : MethodId} {below : List Frame} {meth : Method} {c : Code} {b L : Nat} {xs : Nat → Int32} {D : va_G} {dA : Nat → ClassId}
variable {pc len i nc ns : Nat} {lv : List (Nat × Value)} {st : List Value} {hp : px_H}
theorem lw_aload (C0 : lw_At p s m meth c b L xs) (hK : va_K D nm_cl (px_tys nm_T dA) s) {j : Fin 4} {a : Nat} (hf : px_find pc (px_cd nm_law) = some (1, .aload_n j)) (hv : px_find j lv = some (.ref a)) (h : nm_G p l e s m below meth c b D dA (pc + 1, lv, .ref a :: st, hp, nc, ns)) : nm_G p l e s m below meth c b D dA (pc, lv, st, hp, nc, ns) :=
  nm_G_step C0 hK 0 (by simp only [px_step, hf, px_alu, hv]) h
theorem lw_alu (C0 : lw_At p s m meth c b L xs) (hK : va_K D nm_cl (px_tys nm_T dA) s) {i : Instr} {st' : List Value} (hf : px_find pc (px_cd nm_law) = some (len, i)) (ha : px_alu i st = some st') (h : nm_G p l e s m below meth c b D dA (pc + len, lv, st', hp, nc, ns)) : nm_G p l e s m below meth c b D dA (pc, lv, st, hp, nc, ns) :=
  nm_G_step C0 hK 0 (by simp only [px_step, hf, ha]) h
theorem lw_goto (C0 : lw_At p s m meth c b L xs) (hK : va_K D nm_cl (px_tys nm_T dA) s) {off : Int} (hf : px_find pc (px_cd nm_law) = some (3, .goto off)) (h : nm_G p l e s m below meth c b D dA (px_tgt pc off, lv, st, hp, nc, ns)) : nm_G p l e s m below meth c b D dA (pc, lv, st, hp, nc, ns) :=
  nm_G_step C0 hK 0 (by simp only [px_step, hf, px_alu]) h
theorem lw_ldc2 (C0 : lw_At p s m meth c b L xs) (hK : va_K D nm_cl (px_tys nm_T dA) s) {idx z1 z2 : Nat} {v : Int} (hf : px_find pc (px_cd nm_law) = some (3, .ldc2_w idx)) (hj : px_find idx (px_cp nm_law) = some (4, z1, z2, v)) (h : nm_G p l e s m below meth c b D dA (pc + 3, lv, .long (Int64.ofInt v) :: st, hp, nc, ns)) : nm_G p l e s m below meth c b D dA (pc, lv, st, hp, nc, ns) :=
  nm_G_step C0 hK 0 (by simp only [px_step, hf, px_alu, hj]) h
/-- script[i + g] -/
theorem lw_sc (C0 : lw_At p s m meth c b L xs) (hK : va_K D nm_cl (px_tys nm_T dA) s) {z : Int} (g : Nat) (f1 : px_find pc (px_cd nm_law) = some (1, .aload_n 0)) (f2 : px_find (pc + 1) (px_cd nm_law) = some (2, .iload 4)) (f3 : px_find (pc + 1 + 2) (px_cd nm_law) = some (1, .iconst z)) (f4 : px_find (pc + 1 + 2 + 1) (px_cd nm_law) = some (1, .iadd)) (f5 : px_find (pc + 1 + 2 + 1 + 1) (px_cd nm_law) = some (1, .iaload))
    (hz : Int32.ofInt z = Int32.ofNat g) (hl : nm_lvk lv i) (hi : i + g < L) (hL : L ≤ 3072) (h : nm_G p l e s m below meth c b D dA (pc + 6, lv, .int (xs (i + g)) :: st, hp, nc, ns)) : nm_G p l e s m below meth c b D dA (pc, lv, st, hp, nc, ns) := by
  refine nm_G_step C0 hK 0 (S' := (pc + 1, lv, .retAddr 0 :: st, hp, nc, ns)) (by simp only [px_step, f1, px_alu, show px_find ((0 : Fin 4) : Nat) lv = some (.retAddr 0) from hl.1]) ?_
  refine nm_G_step C0 hK 0 (S' := (pc + 1 + 2, lv, .int (Int32.ofNat i) :: .retAddr 0 :: st, hp, nc, ns)) (by simp only [px_step, f2, px_alu, hl.2.2.2.2]) ?_
  refine nm_G_step C0 hK 0 (S' := (pc + 1 + 2 + 1, lv, .int (Int32.ofInt z) :: .int (Int32.ofNat i) :: .retAddr 0 :: st, hp, nc, ns)) (by simp only [px_step, f3, px_alu]) ?_
  refine nm_G_step C0 hK 0 (S' := (pc + 1 + 2 + 1 + 1, lv, .int (Int32.ofNat i + Int32.ofInt z) :: .retAddr 0 :: st, hp, nc, ns)) (by simp only [px_step, f4, px_alu, px_ii]) ?_
  rw [hz, ← Int32.ofNat_add]
  have hin : px_inR (Int32.ofNat (i + g)) L = true := by
    simp only [px_inR, Bool.and_eq_true, decide_eq_true_eq, nm_ofNat_toInt (i + g) (by omega)]
    omega
  exact nm_G_step C0 hK 0 (S' := (pc + 6, lv, .int (xs (i + g)) :: st, hp, nc, ns)) (by simp only [px_step, f5, px_alu, px_ald, hin, Option.map_some, nm_ofNat_clamp (i + g) (by omega)]) h
/-- x != 0 -/
theorem lw_bool (C0 : lw_At p s m meth c b L xs) (hK : va_K D nm_cl (px_tys nm_T dA) s) {x : Int32} (f1 : px_find pc (px_cd nm_law) = some (3, .ifCond .eq 7)) (f2 : px_find (pc + 3) (px_cd nm_law) = some (1, .iconst 1)) (f3 : px_find (pc + 3 + 1) (px_cd nm_law) = some (3, .goto 4)) (f4 : px_find (px_tgt pc 7) (px_cd nm_law) = some (1, .iconst 0)) (t1 : px_tgt (pc + 3 + 1) 4 = pc + 8) (t2 : px_tgt pc 7 + 1 = pc + 8)
    (h : nm_G p l e s m below meth c b D dA (pc + 8, lv, .int (nm_b01 x) :: st, hp, nc, ns)) : nm_G p l e s m below meth c b D dA (pc, lv, .int x :: st, hp, nc, ns) := by
  by_cases hx : x = 0
  · have hb : nm_b01 x = Int32.ofInt 0 := by unfold nm_b01; rw [if_pos hx]
    rw [hb] at h
    have hc : px_cmp .eq x 0 = true := by simp only [px_cmp, hx, decide_true]
    refine nm_G_step C0 hK 0 (S' := (px_tgt pc 7, lv, st, hp, nc, ns)) (by simp only [px_step, f1, px_alu, hc]) ?_
    exact nm_G_step C0 hK 0 (S' := (pc + 8, lv, .int (Int32.ofInt 0) :: st, hp, nc, ns)) (by simp only [px_step, f4, px_alu, t2]) h
  · have hb : nm_b01 x = Int32.ofInt 1 := by unfold nm_b01; rw [if_neg hx]
    rw [hb] at h
    have hc : px_cmp .eq x 0 = false := by simp only [px_cmp, hx, decide_false]
    refine nm_G_step C0 hK 0 (S' := (pc + 3, lv, st, hp, nc, ns)) (by simp only [px_step, f1, px_alu, hc]) ?_
    refine nm_G_step C0 hK 0 (S' := (pc + 3 + 1, lv, .int (Int32.ofInt 1) :: st, hp, nc, ns)) (by simp only [px_step, f2, px_alu]) ?_
    exact nm_G_step C0 hK 0 (S' := (pc + 8, lv, .int (Int32.ofInt 1) :: st, hp, nc, ns)) (by simp only [px_step, f3, px_alu, t1]) h
/-- a call by contract -/
theorem lw_inv (C0 : lw_At p s m meth c b L xs) (hK : va_K D nm_cl (px_tys nm_T dA) s) {κ : ac_K} (hκ : nm_ok κ) (hpre : κ.2.2.1 = []) {idx n a : Nat} {ci : Int} {N : px_M} (hf : px_find pc (px_cd nm_law) = some (3, .invokevirtual idx)) (hj : px_find idx (px_cp nm_law) = some (1, κ.1, n, ci)) (hn : st[n]? = some (.ref a)) (hcl : ac_cl nm_GH ci.toNat a = true) (hN : nm_P[κ.1]? = some N)
    (hl : n + 1 ≤ st.length) (h8 : ((st.drop (n + 1)).map fun v => v.category).sum ≤ 8) (hce : (px_rm N).cells = 0) (hsl : (px_rm N).slots = 0) (hG : ab_h nm_GH hp) (hav : ac_argv κ.2.1 (st.take (n + 1)).reverse) (q1 : nc ≤ nm_rc) (q2 : ns ≤ nm_rs)
    (h : ∀ (r : Option Value) (hp' : px_H) (o : Option ab_F × List (Nat × ab_B) × List Nat), o ∈ κ.2.2.2.1 → ab_h nm_GH hp' → ac_rv o.1 r → (∀ q ∈ o.2.1, ∃ v z, (st.take (n + 1)).reverse[q.1]? = some v ∧ ab_num v = some z ∧ ab_in q.2 z) → px_fr κ.2.2.2.2.1 κ.2.2.2.2.2 hp hp' → nm_G p l e s m below meth c b D dA (pc + 3, lv, r.toList ++ st.drop (n + 1), hp', nc, ns)) :
    nm_G p l e s m below meth c b D dA (pc, lv, st, hp, nc, ns) := by
  obtain ⟨r, hp', o, m1, ⟨n0, m2⟩, m3, m4, m5, -, m7⟩ := hκ _ hp hG hav (fun i hi => by rw [hpre] at hi; cases hi)
  unfold ac_cl at hcl
  split at hcl
  · rename_i ci' fs hg
    have := Nat.eq_of_beq_eq_true hcl
    subst this
    obtain ⟨vs, hx, -, -⟩ := ac_obj hG hg
    exact nm_G_step C0 hK n0 (px_i_virt (M := nm_law) hf hj hn hx hN hl h8 hce hsl (m2 n0 (Nat.le_refl _)) q1 q2) (h r hp' o m1 m3 m4 m5 m7)
  · cases hcl
theorem nm_st_find {j : Nat} {v : Value} (hl : nm_lvk lv i) (hj : 5 ≤ j) : nm_lvk (px_st1 lv j v) i := by
  obtain ⟨h0, h1, h2, h3, h4⟩ := hl
  exact ⟨ab_sto1_find h0 (by omega) (fun _ hc => by cases hc), ab_sto1_find h1 (by omega) (fun _ hc => by cases hc), ab_sto1_find h2 (by omega) (fun _ hc => by cases hc), ab_sto1_find h3 (by omega) (fun _ hc => by cases hc), ab_sto1_find h4 (by omega) (fun _ hc => by cases hc)⟩
theorem nm_st_find2 {j : Nat} {v : Value} (hl : nm_lvk lv i) (hj : 5 ≤ j) : nm_lvk (px_st2 lv j v) i := by
  obtain ⟨h0, h1, h2, h3, h4⟩ := hl
  exact ⟨ab_sto2_find h0 (by omega) (by omega) (fun _ hc => by cases hc), ab_sto2_find h1 (by omega) (by omega) (fun _ hc => by cases hc), ab_sto2_find h2 (by omega) (by omega) (fun _ hc => by cases hc), ab_sto2_find h3 (by omega) (by omega) (fun _ hc => by cases hc), ab_sto2_find h4 (by omega) (by omega) (fun _ hc => by cases hc)⟩
/-- i += 6, and back -/
theorem lw_end (C0 : lw_At p s m meth c b L xs) (hK : va_K D nm_cl (px_tys nm_T dA) s) {off : Int} (f1 : px_find pc (px_cd nm_law) = some (3, .iinc 4 6)) (f2 : px_find (pc + 3) (px_cd nm_law) = some (3, .goto off)) (t1 : px_tgt (pc + 3) off = 23) (hl : nm_lvk lv i)
    (h : ∀ lv' : List (Nat × Value), nm_lvk lv' (i + 6) → nm_G p l e s m below meth c b D dA (23, lv', st, hp, nc, ns)) : nm_G p l e s m below meth c b D dA (pc, lv, st, hp, nc, ns) := by
  have hl9 : nm_lvk (px_st1 lv 4 (.int (Int32.ofNat i + Int32.ofInt 6))) (i + 6) := by
    obtain ⟨h0, h1, h2, h3, h4⟩ := hl
    refine ⟨ab_sto1_find h0 (by decide) (fun _ hc => by cases hc), ab_sto1_find h1 (by decide) (fun _ hc => by cases hc), ab_sto1_find h2 (by decide) (fun _ hc => by cases hc), ab_sto1_find h3 (by decide) (fun _ hc => by cases hc), ?_⟩
    unfold px_st1 px_find
    rw [Nat.beq_refl, show Int32.ofNat i + Int32.ofInt 6 = Int32.ofNat (i + 6) from by rw [Int32.ofNat_add]; rfl]
  refine nm_G_step C0 hK 0 (S' := (pc + 3, px_st1 lv 4 (.int (Int32.ofNat i + Int32.ofInt 6)), st, hp, nc, ns)) ?_ ?_
  · have hm : decide (4 < px_ml nm_law) = true := rfl
    simp only [px_step, f1, px_alu, hl.2.2.2.2, hm]
  · exact nm_G_step C0 hK 0 (S' := (23, px_st1 lv 4 (.int (Int32.ofNat i + Int32.ofInt 6)), st, hp, nc, ns)) (by simp only [px_step, f2, px_alu, t1]) (h _ hl9)
end nm_l1
theorem nm_rI {outs : List (Option ab_F × List (Nat × ab_B) × List Nat)} {o : Option ab_F × List (Nat × ab_B) × List Nat} {r : Option Value} (h : outs.all (fun o => match o.1 with | some f => Nat.beq f.1 0 | none => false) = true) (ho : o ∈ outs) (hr : ac_rv o.1 r) : ∃ v : Int32, r = some (.int v) := by
  have h1 := List.all_eq_true.mp h o ho
  cases hf : o.1 with
  | none => rw [hf] at h1; cases h1
  | some f =>
    rw [hf] at h1 hr
    obtain ⟨f0, f1, f2, f3⟩ := f
    have h2 := Nat.eq_of_beq_eq_true h1
    simp only at h2
    subst h2
    cases r with
    | none => exact absurd hr (by simp [ac_rv])
    | some v =>
      obtain ⟨x, rfl, -⟩ := ab_f0 (show ab_f (0, f1, f2, f3) v from hr)
      exact ⟨x, rfl⟩
theorem nm_rJ {outs : List (Option ab_F × List (Nat × ab_B) × List Nat)} {o : Option ab_F × List (Nat × ab_B) × List Nat} {r : Option Value} (h : outs.all (fun o => match o.1 with | some f => Nat.beq f.1 1 | none => false) = true) (ho : o ∈ outs) (hr : ac_rv o.1 r) : ∃ v : Int64, r = some (.long v) := by
  have h1 := List.all_eq_true.mp h o ho
  cases hf : o.1 with
  | none => rw [hf] at h1; cases h1
  | some f =>
    rw [hf] at h1 hr
    obtain ⟨f0, f1, f2, f3⟩ := f
    have h2 := Nat.eq_of_beq_eq_true h1
    simp only at h2
    subst h2
    cases r with
    | none => exact absurd hr (by simp [ac_rv])
    | some v =>
      obtain ⟨x, rfl, -⟩ := ab_f1 (show ab_f (1, f1, f2, f3) v from hr)
      exact ⟨x, rfl⟩
section nm_l2
variable {p : Program} {l : Launch} {e : Env} {s : State} {m : MethodId} {below : List Frame} {meth : Method} {c : Code} {b L : Nat} {xs : Nat → Int32} {D : va_G} {dA : Nat → ClassId}
variable {pc nc ns : Nat} {lv : List (Nat × Value)} {st : List Value} {hp : px_H}
theorem lw_ieq (C0 : lw_At p s m meth c b L xs) (hK : va_K D nm_cl (px_tys nm_T dA) s) {v w : Int32} {off : Int} (hf : px_find pc (px_cd nm_law) = some (3, .if_icmp .eq off)) (hv : v = w) (h : nm_G p l e s m below meth c b D dA (px_tgt pc off, lv, st, hp, nc, ns)) : nm_G p l e s m below meth c b D dA (pc, lv, .int w :: .int v :: st, hp, nc, ns) := by
  have hc : px_cmp .eq v w = true := by simp only [px_cmp, hv, decide_true]
  exact nm_G_step C0 hK 0 (by simp only [px_step, hf, px_alu, hc]) h
end nm_l2
/-! two calls whose contracts tell the same answer -/
abbrev nm_O := Option ab_F × List (Nat × ab_B) × List Nat
def nm_dj (o o' : nm_O) : Bool :=
  (match o.1, o'.1 with
    | some f, some f' => Nat.beq f.1 0 && (Nat.beq f'.1 0 && (decide (f.2.1 = f.2.2.1) && (decide (f'.2.1 = f'.2.2.1) && decide (f.2.1 = f'.2.1))))
    | _, _ => false) || o.2.1.any (fun q => o'.2.1.any (fun q' => Nat.beq q.1 q'.1 && (decide (q.2.2 < q'.2.1) || decide (q'.2.2 < q.2.1))))
theorem nm_cmp {outs outs' : List nm_O} {o o' : nm_O} {v v' : Int32} {a a' : Nat} {r : List Value} (h : outs.all (fun o => outs'.all (nm_dj o)) = true) (ho : o ∈ outs) (hr : ac_rv o.1 (some (.int v))) (hf : ∀ q ∈ o.2.1, ∃ v z, (Value.ref a :: r)[q.1]? = some v ∧ ab_num v = some z ∧ ab_in q.2 z)
    (ho' : o' ∈ outs') (hr' : ac_rv o'.1 (some (.int v'))) (hf' : ∀ q ∈ o'.2.1, ∃ v z, (Value.ref a' :: r)[q.1]? = some v ∧ ab_num v = some z ∧ ab_in q.2 z) : v = v' := by
  have h1 := List.all_eq_true.mp (List.all_eq_true.mp h o ho) o' ho'
  unfold nm_dj at h1
  rw [Bool.or_eq_true] at h1
  rcases h1 with h1 | h1
  · cases hx : o.1 with
    | none => rw [hx] at hr; exact absurd hr (by simp [ac_rv])
    | some f =>
      cases hy : o'.1 with
      | none => rw [hy] at hr'; exact absurd hr' (by simp [ac_rv])
      | some f' =>
        rw [hx, hy] at h1
        rw [hx] at hr
        rw [hy] at hr'
        simp only [Bool.and_eq_true, decide_eq_true_eq] at h1
        have t1 : ab_f f (.int v) := hr
        have t2 : ab_f f' (.int v') := hr'
        obtain ⟨-, -, e1, e2, e3⟩ := h1
        have u1 := t1.2
        have u2 := t2.2
        rw [← Int32.toInt_inj]
        omega
  · obtain ⟨q, hq, h2⟩ := List.any_eq_true.mp h1
    obtain ⟨q', hq', h3⟩ := List.any_eq_true.mp h2
    obtain ⟨v1, z1, a1, b1, c1⟩ := hf q hq
    obtain ⟨v2, z2, a2, b2, c2⟩ := hf' q' hq'
    simp only [Bool.and_eq_true, Bool.or_eq_true, decide_eq_true_eq] at h3
    have hj := Nat.eq_of_beq_eq_true h3.1
    rw [← hj] at a2
    have hz : z1 = z2 := by
      cases hk : q.1 with
      | zero =>
        rw [hk] at a1
        simp only [List.getElem?_cons_zero, Option.some.injEq] at a1
        subst a1
        exact absurd b1 (by simp [ab_num])
      | succ n =>
        rw [hk, List.getElem?_cons_succ] at a1 a2
        rw [a1] at a2
        cases a2
        rw [b1] at b2
        cases b2
        rfl
    subst hz
    have := c1.1
    have := c1.2
    have := c2.1
    have := c2.2
    rcases h3.2 with h4 | h4 <;> omega
end mg_0

section mg_1
/-! exact runs: where fields have known values on both sides, both calls end with the same answer and the same values -/
abbrev ex_T : Type := List ((Nat × Nat) × (Nat × Nat))
def ex_R (tr : ex_T) (hp : px_H) : Prop := ∀ q ∈ tr, ∃ z : Int32, ac_fv hp q.1.1 q.1.2 = some (.int z) ∧ ac_fv hp q.2.1 q.2.2 = some (.int z)
theorem ex_fv_fr {ws : List (Nat × Nat)} {wa : List Nat} {hp hp' : px_H} {c k : Nat} {v : Value} (h : px_fr ws wa hp hp') (hw : ac_has ws c k = false) (hv : ac_fv hp c k = some v) : ac_fv hp' c k = some v := by
  unfold ac_fv at hv ⊢
  split at hv
  · rename_i ci fs hx
    obtain ⟨vs', e1, e2, e3⟩ := h.2 c ci fs hx
    rw [e1]
    simp only
    rw [e3 k (fun hm => ?_)]
    · exact hv
    · have : ac_has ws c k = true := List.any_eq_true.mpr ⟨(c, k), hm, by simp only [Nat.beq_refl, Bool.and_true]⟩
      rw [this] at hw
      cases hw
  · cases hv
def ex_fre (tr : ex_T) (ws : List (Nat × Nat)) : Bool := tr.all (fun q => !(ac_has ws q.1.1 q.1.2) && !(ac_has ws q.2.1 q.2.2))
theorem ex_R_fr {tr : ex_T} {ws : List (Nat × Nat)} {wa : List Nat} {hp hp' : px_H} (h : px_fr ws wa hp hp') (hw : ex_fre tr ws = true) (hR : ex_R tr hp) : ex_R tr hp' := by
  intro q hq
  obtain ⟨z, a, b⟩ := hR q hq
  have := List.all_eq_true.mp hw q hq
  simp only [Bool.and_eq_true, Bool.not_eq_true'] at this
  exact ⟨z, ex_fv_fr h this.1 a, ex_fv_fr h this.2 b⟩
theorem ex_R_arr {tr : ex_T} {hp : px_H} {c : Nat} {x y : Nat × vp_A} (hx : hp[c]? = some (.inl x)) (hR : ex_R tr hp) : ex_R tr (hp.set c (.inl y)) := by
  intro q hq
  obtain ⟨z, a, b⟩ := hR q hq
  exact ⟨z, by rw [ac_fv_arr hx]; exact a, by rw [ac_fv_arr hx]; exact b⟩
def ex_at (tr : ex_T) (hp : px_H) : Bool := tr.all (fun q => match ac_fv hp q.1.1 q.1.2, ac_fv hp q.2.1 q.2.2 with
  | some (.int z), some (.int w) => decide (z = w)
  | _, _ => false)
theorem ex_R_of {tr : ex_T} {hp : px_H} (h : ex_at tr hp = true) : ex_R tr hp := by
  intro q hq
  have := List.all_eq_true.mp h q hq
  split at this
  · rename_i z w h1 h2
    have := of_decide_eq_true this
    subst this
    exact ⟨z, h1, h2⟩
  · cases this
/-- an int field in the bounds -/
def ex_isI (c k : Nat) : Bool := match nm_GH[c]? with
  | some (.inl (_, fs)) => match fs[k]? with
    | some f => Nat.beq f.1 0
    | none => false
  | _ => false
def ex_bd (c k : Nat) : Int × Int := match nm_GH[c]? with
  | some (.inl (_, fs)) => match fs[k]? with
    | some f => (f.2.1, f.2.2.1)
    | none => (0, 0)
  | _ => (0, 0)
theorem ex_fv {c k : Nat} {hp : px_H} (h : ex_isI c k = true) (hG : ab_h nm_GH hp) : ∃ z : Int32, ac_fv hp c k = some (.int z) ∧ (ex_bd c k).1 ≤ z.toInt ∧ z.toInt ≤ (ex_bd c k).2 := by
  unfold ex_isI at h
  unfold ex_bd
  split at h
  · rename_i ci fs hc
    split at h
    · rename_i f hf
      obtain ⟨vs, hx, hlen, hall⟩ := ac_obj hG hc
      have hlt : k < vs.length := by rw [← hlen]; exact (List.getElem?_eq_some_iff.mp hf).1
      obtain ⟨f0, f1, f2, f3⟩ := f
      have e0 := Nat.eq_of_beq_eq_true h
      simp only at e0
      subst e0
      obtain ⟨z, e1, e2⟩ := ab_f0 (hall k _ _ hf (List.getElem?_eq_getElem hlt))
      refine ⟨z, ?_, e2.1, e2.2⟩
      unfold ac_fv
      rw [hx]
      simp only
      rw [List.getElem?_eq_getElem hlt, e1]
    · cases h
  · cases h
/-! one run -/
def ex_run (K : List ac_K) (lps : List ac_L) (ws : List (Nat × Nat)) (wa : List Nat) (mi : Nat) (fs : List ab_F) (ov : List ac_O) : Option (List ac_Out) :=
  match nm_P[mi]? with
  | none => none
  | some N => match decide (((ac_ini 0 fs).map ab_cat).sum ≤ px_ml N) with
    | false => none
    | true => match ac_run nm_T nm_P nm_GH nm_FA K lps ws wa 20000 false [] mi N 0 (ab_args 0 (ac_ini 0 fs), [], ov, ac_gh fs, [], []) with
      | some (outs, []) => some outs
      | _ => none
theorem ex_gh {gs : List ab_F} {av : List Value} (hgs : ac_argv gs av) : ab_x (ac_gh gs) (ac_xs av) := by
  intro j q hq
  unfold ac_gh at hq
  rw [List.getElem?_map] at hq
  rcases hg : gs[j]? with _ | f
  · rw [hg] at hq; cases hq
  · rw [hg] at hq
    cases hq
    obtain ⟨v, e1, e2⟩ := ac_argv_get hgs hg
    cases hk : Nat.beq f.1 0 with
    | true =>
      simp only [hk]
      obtain ⟨k, a1, a2, rs⟩ := f
      obtain ⟨x, rfl, hx⟩ := ab_k0 hk e2
      unfold ac_xs
      rw [e1]
      exact hx
    | false =>
      simp only [hk]
      exact ab_i32 _
theorem ex_run_ok {K : List ac_K} {lps : List ac_L} {ws : List (Nat × Nat)} {wa : List Nat} {mi : Nat} {fs : List ab_F} {ov : List ac_O} {outs : List ac_Out} (hK : ∀ κ ∈ K, nm_ok κ) (h : ex_run K lps ws wa mi fs ov = some outs) {av : List Value} {hp : px_H} (hG : ab_h nm_GH hp) (hav : ac_argv fs av) (hov : ac_ov ov hp) :
    ∃ (r : Option Value) (hp' : px_H) (o : ac_Out), o ∈ outs ∧ px_C nm_T nm_P mi av hp r hp' ∧ ac_o' nm_GH nm_Φ (ac_xs av) o r hp' ∧ px_fr ws wa hp hp' := by
  unfold ex_run at h
  split at h
  · cases h
  rename_i N hN
  split at h
  · cases h
  rename_i hd
  have h1 := of_decide_eq_true hd
  split at h
  rotate_left
  · cases h
  rename_i outs' hrun
  cases h
  have hst : ab_st (ac_xs av) (lv_args 0 av) hp (ac_ini 0 fs) av := ac_ini_ok hav (fun j => by rw [Nat.zero_add])
  have hF := ac_run_ok (xs := ac_xs av) nm_Fl nm_FG hK 20000 false [] mi N 0 _ _ none (fun _ => 0) (lv_args 0 av) [] hp hrun ⟨fun j a hm => ab_args_ok 0 hst j a hm, trivial, hG, hov, ex_gh hav, fun i hi => (by cases hi), fun q hq => (by cases hq)⟩
  rcases hF with ⟨r, hp', oc, m1, m2, m3, hr⟩ | ⟨pc', lv', st', hp', A', m1, -⟩
  · have hl : (lg_sl av).length ≤ px_ml N := by
      rw [ab_lg', ← ab_st_cat hst]
      exact h1
    exact ⟨r, hp', oc, m1, ab_call_ok hN hl hr, m2, m3⟩
  · cases m1
/-! two runs -/
def ex_djX : List (Int × Int) → List (Int × Int) → Bool
  | a :: r, b :: s => decide (a.2 < b.1) || (decide (b.2 < a.1) || ex_djX r s)
  | _, _ => false
theorem ex_djX_no {xs : Nat → Int32} : ∀ {as bs : List (Int × Int)} {i : Nat}, (∀ (j : Nat) (q : Int × Int), as[j]? = some q → q.1 ≤ (xs (i + j)).toInt ∧ (xs (i + j)).toInt ≤ q.2) → (∀ (j : Nat) (q : Int × Int), bs[j]? = some q → q.1 ≤ (xs (i + j)).toInt ∧ (xs (i + j)).toInt ≤ q.2) → ex_djX as bs = true → False
  | [], _, _, _, _, h => by simp [ex_djX] at h
  | _ :: _, [], _, _, _, h => by simp [ex_djX] at h
  | a :: r, b :: s, i, h1, h2, h => by
    have a1 := h1 0 a rfl
    have b1 := h2 0 b rfl
    simp only [ex_djX, Bool.or_eq_true, decide_eq_true_eq] at h
    rcases h with h | h | h
    · omega
    · omega
    · refine ex_djX_no (xs := xs) (i := i + 1) (fun j q hq => ?_) (fun j q hq => ?_) h
      · have := h1 (j + 1) q (by rw [List.getElem?_cons_succ]; exact hq)
        rw [show i + 1 + j = i + (j + 1) from by omega]
        exact this
      · have := h2 (j + 1) q (by rw [List.getElem?_cons_succ]; exact hq)
        rw [show i + 1 + j = i + (j + 1) from by omega]
        exact this
def ex_one (f : Option ab_F) : Option Int := match f with
  | some f => match Nat.beq f.1 0 && decide (f.2.1 = f.2.2.1) with
    | true => some f.2.1
    | false => none
  | none => none
theorem ex_one_ok {f : ab_F} {a : Int} {v : Value} (h : ex_one (some f) = some a) (hv : ab_f f v) : ∃ x : Int32, v = .int x ∧ x.toInt = a := by
  obtain ⟨f0, f1, f2, f3⟩ := f
  unfold ex_one at h
  simp only at h
  split at h
  · rename_i hb
    cases h
    simp only [Bool.and_eq_true, decide_eq_true_eq] at hb
    have := Nat.eq_of_beq_eq_true hb.1
    subst this
    obtain ⟨x, e1, e2⟩ := ab_f0 hv
    have := e2.1
    have := e2.2
    simp only at *
    exact ⟨x, e1, by omega⟩
  · cases h
def ex_sm (f g : Option ab_F) : Bool := match ex_one f, ex_one g with
  | some a, some b => decide (a = b)
  | _, _ => false
theorem ex_sm_ok {f g : Option ab_F} (h : ex_sm f g = true) : ∃ (f' g' : ab_F) (a : Int), f = some f' ∧ g = some g' ∧ ex_one (some f') = some a ∧ ex_one (some g') = some a := by
  unfold ex_sm at h
  split at h
  · rename_i a b h1 h2
    have := of_decide_eq_true h
    subst this
    cases f with
    | none => cases h1
    | some f => cases g with
      | none => cases h2
      | some g => exact ⟨f, g, a, rfl, rfl, h1, h2⟩
  · cases h
def ex_ri (o : ac_Out) : Bool := match o.1 with
  | some a => Nat.beq a.1.1 0
  | none => false
theorem ex_ri_ok {xs : Nat → Int32} {o : ac_Out} {r : Option Value} {hp : px_H} (h : ex_ri o = true) (ho : ac_o' nm_GH nm_Φ xs o r hp) : ∃ (a : ab_V) (v : Int32), o.1 = some a ∧ r = some (.int v) ∧ ab_f a.1 (.int v) := by
  have g := ho.1
  unfold ex_ri at h
  cases h1 : o.1 with
  | none => rw [h1] at h; cases h
  | some a =>
    rw [h1] at h g
    cases r with
    | none => exact absurd g (by simp)
    | some v =>
      obtain ⟨⟨f0, f1, f2, f3⟩, l⟩ := a
      have e0 := Nat.eq_of_beq_eq_true h
      simp only at e0
      subst e0
      obtain ⟨x, rfl, hx⟩ := ab_f0 g.1
      exact ⟨_, x, rfl, rfl, g.1⟩
def ex_pr (cmp : Bool) (tr : ex_T) (o o' : ac_Out) : Bool :=
  ex_djX o.2.2.1 o'.2.2.1 || (ex_ri o && (ex_ri o' && ((!cmp || ex_sm (o.1.map (fun a => a.1)) (o'.1.map (fun a => a.1))) && tr.all (fun q => ex_sm (ac_fF nm_GH o.2.1 q.1.1 q.1.2) (ac_fF nm_GH o'.2.1 q.2.1 q.2.2)))))
/-- contracts, loops, fields and arrays that may be written, method, arguments -/
abbrev ex_M : Type := List ac_K × List ac_L × List (Nat × Nat) × List Nat × Nat × List ab_F
def ex_ck (X M : ex_M) (cmp : Bool) (tr : ex_T) (p : List ac_O × List ac_O) : Bool :=
  (p.2.all (fun q => ex_isI q.1 q.2.1 && !(ac_has X.2.2.1 q.1 q.2.1)) && tr.all (fun q => ex_isI q.1.1 q.1.2 && (ex_isI q.2.1 q.2.2 && !(ac_has M.2.2.1 q.1.1 q.1.2)))) &&
  (match ex_run X.1 X.2.1 X.2.2.1 X.2.2.2.1 X.2.2.2.2.1 X.2.2.2.2.2 p.1, ex_run M.1 M.2.1 M.2.2.1 M.2.2.2.1 M.2.2.2.2.1 M.2.2.2.2.2 p.2 with
  | some os, some os' => os.all (fun o => os'.all (ex_pr cmp tr o))
  | _, _ => false)
theorem ex_core {X M : ex_M} {cmp : Bool} {tr : ex_T} {p : List ac_O × List ac_O} (hKX : ∀ κ ∈ X.1, nm_ok κ) (hKM : ∀ κ ∈ M.1, nm_ok κ) (h : ex_ck X M cmp tr p = true)
    {hp : px_H} {t : List Value} {a a' : Nat} (hG : ab_h nm_GH hp) (hX : ac_ov p.1 hp) (hM : ac_ov p.2 hp) (hv : ac_argv X.2.2.2.2.2 (.ref a :: t)) (hv' : ac_argv M.2.2.2.2.2 (.ref a' :: t)) :
    ∃ (v v' : Int32) (hp1 hp2 : px_H), px_C nm_T nm_P X.2.2.2.2.1 (.ref a :: t) hp (some (.int v)) hp1 ∧ ab_h nm_GH hp1 ∧ px_fr X.2.2.1 X.2.2.2.1 hp hp1 ∧ px_C nm_T nm_P M.2.2.2.2.1 (.ref a' :: t) hp1 (some (.int v')) hp2 ∧ ab_h nm_GH hp2 ∧ px_fr M.2.2.1 M.2.2.2.1 hp1 hp2 ∧ (cmp = true → v = v') ∧ ex_R tr hp2 := by
  unfold ex_ck at h
  simp only [Bool.and_eq_true] at h
  obtain ⟨⟨h1, h2⟩, h3⟩ := h
  split at h3
  rotate_left
  · cases h3
  rename_i os os' ho ho'
  obtain ⟨r, hp1, o, m1, m2, m3, m4⟩ := ex_run_ok hKX ho hG hv hX
  have hM1 : ac_ov p.2 hp1 := by
    intro q hq v hv9
    have := List.all_eq_true.mp h1 q hq
    simp only [Bool.and_eq_true, Bool.not_eq_true'] at this
    obtain ⟨z, e1, -⟩ := ex_fv this.1 hG
    have e2 := ex_fv_fr m4 this.2 e1
    rw [e2] at hv9
    cases hv9
    exact hM q hq _ e1
  obtain ⟨r', hp2, o', n1, n2, n3, n4⟩ := ex_run_ok hKM ho' m3.2.1 hv' hM1
  have hpr := List.all_eq_true.mp (List.all_eq_true.mp h3 o m1) o' n1
  have hxs : ac_xs (.ref a' :: t) = ac_xs (.ref a :: t) := by
    funext i
    cases i with
    | zero => rfl
    | succ i => rfl
  unfold ex_pr at hpr
  simp only [Bool.or_eq_true, Bool.and_eq_true] at hpr
  rcases hpr with hpr | ⟨p1, p2, p3, p4⟩
  · exact (ex_djX_no (xs := ac_xs (.ref a :: t)) (i := 0) (fun j q hq => by rw [Nat.zero_add]; exact m3.2.2.2.1 j q hq) (fun j q hq => by rw [Nat.zero_add, ← hxs]; exact n3.2.2.2.1 j q hq) hpr).elim
  obtain ⟨b, v, b1, rfl, b3⟩ := ex_ri_ok p1 m3
  obtain ⟨b', v', b1', rfl, b3'⟩ := ex_ri_ok p2 n3
  refine ⟨v, v', hp1, hp2, m2, m3.2.1, m4, n2, n3.2.1, n4, fun hc => ?_, fun q hq => ?_⟩
  · rw [hc] at p3
    simp only [Bool.not_true, Bool.false_eq_true, false_or] at p3
    rw [b1, b1'] at p3
    obtain ⟨f, g, z, e1, e2, e3, e4⟩ := ex_sm_ok p3
    cases e1
    cases e2
    obtain ⟨x, w1, w2⟩ := ex_one_ok e3 b3
    obtain ⟨y, w3, w4⟩ := ex_one_ok e4 b3'
    cases w1
    cases w3
    rw [← Int32.toInt_inj, w2, w4]
  · have hq2 := List.all_eq_true.mp h2 q hq
    simp only [Bool.and_eq_true, Bool.not_eq_true'] at hq2
    obtain ⟨z, z1, -⟩ := ex_fv hq2.1 m3.2.1
    obtain ⟨w, y1, -⟩ := ex_fv hq2.2.1 n3.2.1
    obtain ⟨f, g, u, e1, e2, e3, e4⟩ := ex_sm_ok (List.all_eq_true.mp p4 q hq)
    obtain ⟨x, w1, w2⟩ := ex_one_ok e3 (ac_fF_ok m3.2.1 m3.2.2.1 e1 z1)
    obtain ⟨y, w3, w4⟩ := ex_one_ok e4 (ac_fF_ok n3.2.1 n3.2.2.1 e2 y1)
    cases w1
    cases w3
    have : z = w := by rw [← Int32.toInt_inj, w2, w4]
    subst this
    exact ⟨z, ex_fv_fr n4 hq2.2.2 z1, y1⟩
/-! all values that the fields may have -/
def ex_rng (b : Int × Int) : List Int := (List.range ((b.2 - b.1).toNat + 1)).map (fun n : Nat => b.1 + (n : Int))
theorem ex_rng_ok {b : Int × Int} {z : Int} (h1 : b.1 ≤ z) (h2 : z ≤ b.2) : z ∈ ex_rng b := by
  unfold ex_rng
  refine List.mem_map.mpr ⟨(z - b.1).toNat, List.mem_range.mpr (by omega), by omega⟩
def ex_cmb : ex_T → List (List ac_O × List ac_O)
  | [] => [([], [])]
  | q :: r => ((ex_rng (ex_bd q.1.1 q.1.2)).map (fun z => (ex_cmb r).map (fun p => ((q.1.1, q.1.2, 0, z, z, []) :: p.1, (q.2.1, q.2.2, 0, z, z, []) :: p.2)))).flatten
theorem ex_cmb_ok {hp : px_H} (hG : ab_h nm_GH hp) : ∀ {tr : ex_T}, tr.all (fun q => ex_isI q.1.1 q.1.2) = true → ex_R tr hp → ∃ p ∈ ex_cmb tr, ac_ov p.1 hp ∧ ac_ov p.2 hp := by
  intro tr
  induction tr with
  | nil => intro _ _; exact ⟨([], []), List.mem_singleton.mpr rfl, fun q hq => (by cases hq), fun q hq => (by cases hq)⟩
  | cons q r ih =>
    intro hI hR
    simp only [List.all_cons, Bool.and_eq_true] at hI
    obtain ⟨p, hp9, p1, p2⟩ := ih hI.2 (fun q' hq' => hR q' (List.mem_cons_of_mem _ hq'))
    obtain ⟨z, z1, z2⟩ := hR q List.mem_cons_self
    obtain ⟨w, w1, w2, w3⟩ := ex_fv hI.1 hG
    rw [z1] at w1
    cases w1
    refine ⟨((q.1.1, q.1.2, 0, z.toInt, z.toInt, []) :: p.1, (q.2.1, q.2.2, 0, z.toInt, z.toInt, []) :: p.2), ?_, ?_, ?_⟩
    · unfold ex_cmb
      exact List.mem_flatten.mpr ⟨_, List.mem_map.mpr ⟨z.toInt, ex_rng_ok w2 w3, rfl⟩, List.mem_map.mpr ⟨p, hp9, rfl⟩⟩
    · intro q' hq' v hv
      rcases List.mem_cons.mp hq' with rfl | hq'
      · simp only at hv
        rw [z1] at hv
        cases hv
        exact ⟨rfl, Int.le_refl _, Int.le_refl _⟩
      · exact p1 q' hq' v hv
    · intro q' hq' v hv
      rcases List.mem_cons.mp hq' with rfl | hq'
      · simp only at hv
        rw [z2] at hv
        cases hv
        exact ⟨rfl, Int.le_refl _, Int.le_refl _⟩
      · exact p2 q' hq' v hv
theorem ex_cut {α : Type} {f : α → Bool} {l : List α} (n : Nat) (h1 : (l.take n).all f = true) (h2 : (l.drop n).all f = true) : l.all f = true := by
  rw [← List.take_append_drop n l, List.all_append, h1, h2]
  rfl
def ex_qeq (p q : (Nat × Nat) × (Nat × Nat)) : Bool := Nat.beq p.1.1 q.1.1 && (Nat.beq p.1.2 q.1.2 && (Nat.beq p.2.1 q.2.1 && Nat.beq p.2.2 q.2.2))
theorem ex_qeq_ok {p q : (Nat × Nat) × (Nat × Nat)} (h : ex_qeq p q = true) : p = q := by
  obtain ⟨⟨a, b⟩, c, d⟩ := p
  obtain ⟨⟨a', b'⟩, c', d'⟩ := q
  simp only [ex_qeq, Bool.and_eq_true] at h
  obtain ⟨h1, h2, h3, h4⟩ := h
  have := Nat.eq_of_beq_eq_true h1
  have := Nat.eq_of_beq_eq_true h2
  have := Nat.eq_of_beq_eq_true h3
  have := Nat.eq_of_beq_eq_true h4
  subst_vars
  rfl
/-- of the whole relation: what the two calls tell, or what they leave -/
def ex_cov (X M : ex_M) (tr trF : ex_T) : Bool :=
  tr.all (fun q => ex_isI q.1.1 q.1.2 && trF.any (fun p => ex_qeq p q)) && trF.all (fun q => tr.any (fun p => ex_qeq p q) || (ex_fre [q] X.2.2.1 && ex_fre [q] M.2.2.1))
/-- what two calls leave -/
def ex_two' (X M : ex_M) (cmp : Bool) (trF : ex_T) (a a' : Nat) (t : List Value) (hp : px_H) : Prop :=
  ∃ (v v' : Int32) (hp1 hp2 : px_H), px_C nm_T nm_P X.2.2.2.2.1 (.ref a :: t) hp (some (.int v)) hp1 ∧ ab_h nm_GH hp1 ∧ px_C nm_T nm_P M.2.2.2.2.1 (.ref a' :: t) hp1 (some (.int v')) hp2 ∧ ab_h nm_GH hp2 ∧ (cmp = true → v = v') ∧ ex_R trF hp2
theorem ex_two1 {X M : ex_M} {cmp : Bool} {tr trF : ex_T} {p : List ac_O × List ac_O} (hKX : ∀ κ ∈ X.1, nm_ok κ) (hKM : ∀ κ ∈ M.1, nm_ok κ) (h : ex_ck X M cmp tr p = true) (hc : ex_cov X M tr trF = true)
    {hp : px_H} {t : List Value} {a a' : Nat} (hG : ab_h nm_GH hp) (hR : ex_R trF hp) (p2 : ac_ov p.1 hp) (p3 : ac_ov p.2 hp) (hv : ac_argv X.2.2.2.2.2 (.ref a :: t)) (hv' : ac_argv M.2.2.2.2.2 (.ref a' :: t)) : ex_two' X M cmp trF a a' t hp := by
  unfold ex_cov at hc
  simp only [Bool.and_eq_true, List.all_eq_true] at hc
  obtain ⟨c1, c2⟩ := hc
  obtain ⟨v, v', hp1, hp2, m1, m2, m3, m4, m5, m6, m7, m8⟩ := ex_core hKX hKM h hG p2 p3 hv hv'
  refine ⟨v, v', hp1, hp2, m1, m2, m4, m5, m7, fun q hq => ?_⟩
  have := c2 q hq
  rw [Bool.or_eq_true] at this
  rcases this with h9 | h9
  · obtain ⟨p, hp9, e⟩ := List.any_eq_true.mp h9
    have := ex_qeq_ok e
    subst this
    exact m8 _ hp9
  · rw [Bool.and_eq_true] at h9
    have r0 : ex_R [q] hp := fun q' hq' => by
      cases List.mem_singleton.mp hq'
      exact hR _ hq
    exact ex_R_fr m6 h9.2 (ex_R_fr m3 h9.1 r0) q (List.mem_singleton.mpr rfl)
theorem ex_two {X M : ex_M} {cmp : Bool} {tr trF : ex_T} (hKX : ∀ κ ∈ X.1, nm_ok κ) (hKM : ∀ κ ∈ M.1, nm_ok κ) (h : (ex_cmb tr).all (ex_ck X M cmp tr) = true) (hc : ex_cov X M tr trF = true)
    {hp : px_H} {t : List Value} {a a' : Nat} (hG : ab_h nm_GH hp) (hR : ex_R trF hp) (hv : ac_argv X.2.2.2.2.2 (.ref a :: t)) (hv' : ac_argv M.2.2.2.2.2 (.ref a' :: t)) : ex_two' X M cmp trF a a' t hp := by
  have hc0 := hc
  unfold ex_cov at hc
  simp only [Bool.and_eq_true, List.all_eq_true] at hc
  obtain ⟨c1, c2⟩ := hc
  have hR1 : ex_R tr hp := by
    intro q hq
    obtain ⟨p, hp9, e⟩ := List.any_eq_true.mp (c1 q hq).2
    have := ex_qeq_ok e
    subst this
    exact hR _ hp9
  obtain ⟨p, p1, p2, p3⟩ := ex_cmb_ok hG (List.all_eq_true.mpr (fun q hq => (c1 q hq).1)) hR1
  exact ex_two1 hKX hKM (List.all_eq_true.mp h p p1) hc0 hG hR p2 p3 hv hv'
/-! one run to the places where it stops -/
def ex_runS (K : List ac_K) (lps : List ac_L) (ws : List (Nat × Nat)) (wa : List Nat) (mi : Nat) (N : px_M) (fs : List ab_F) (ov : List ac_O) (stop : List Nat) : Option (List ac_Out × List (Nat × ac_S)) :=
  ac_run nm_T nm_P nm_GH nm_FA K lps ws wa 20000 false stop mi N 0 (ab_args 0 (ac_ini 0 fs), [], ov, ac_gh fs, [], [])
theorem ex_runS_ok {K : List ac_K} {lps : List ac_L} {ws : List (Nat × Nat)} {wa : List Nat} {mi : Nat} {N : px_M} {fs : List ab_F} {ov : List ac_O} {stop : List Nat} {o : List ac_Out × List (Nat × ac_S)} (hK : ∀ κ ∈ K, nm_ok κ) (hN : nm_P[mi]? = some N) (hml : ((ac_ini 0 fs).map ab_cat).sum ≤ px_ml N) (h : ex_runS K lps ws wa mi N fs ov stop = some o) {av : List Value} {hp : px_H} (hG : ab_h nm_GH hp) (hav : ac_argv fs av) (hov : ac_ov ov hp) :
    (∃ (r : Option Value) (hp' : px_H) (q : ac_Out), q ∈ o.1 ∧ px_C nm_T nm_P mi av hp r hp' ∧ ac_o' nm_GH nm_Φ (ac_xs av) q r hp' ∧ px_fr ws wa hp hp') ∨
    (∃ (pc : Nat) (lv : List (Nat × Value)) (st : List Value) (hp1 : px_H) (A : ac_S), (pc, A) ∈ o.2 ∧ ac_s nm_GH nm_Φ (ac_xs av) (fun _ => 0) A lv st hp1 ∧ px_fr ws wa hp hp1 ∧ ∀ (r : Option Value) (h9 : px_H), px_Z nm_T none nm_P N pc lv st hp1 r h9 → px_C nm_T nm_P mi av hp r h9) := by
  have hst : ab_st (ac_xs av) (lv_args 0 av) hp (ac_ini 0 fs) av := ac_ini_ok hav (fun j => by rw [Nat.zero_add])
  have hl : (lg_sl av).length ≤ px_ml N := by
    rw [ab_lg', ← ab_st_cat hst]
    exact hml
  have hF := ac_run_ok (xs := ac_xs av) nm_Fl nm_FG hK 20000 false stop mi N 0 _ _ none (fun _ => 0) (lv_args 0 av) [] hp h ⟨fun j a hm => ab_args_ok 0 hst j a hm, trivial, hG, hov, ex_gh hav, fun i hi => (by cases hi), fun q hq => (by cases hq)⟩
  rcases hF with ⟨r, hp', oc, m1, m2, m3, hr⟩ | ⟨pc', lv', st', hp', A', m1, m2, m3, n1, k1, h1⟩
  · exact Or.inl ⟨r, hp', oc, m1, ab_call_ok hN hl hr, m2, m3⟩
  · refine Or.inr ⟨pc', lv', st', hp', A', m1, m2, m3, fun r h9 hz => ?_⟩
    obtain ⟨n2, k2, h3⟩ := hz
    exact ab_call_ok hN hl ⟨max n1 n2, k1 + k2, fun n9 hn9 N0 nc ns q1 q2 => px_its_run k1 (h1 n9 (by omega) N0 nc ns q1 q2) (h3 n9 (by omega) N0 nc ns q1 q2)⟩
/-- an end that answers an int and leaves this value in this field -/
def ex_ze (c k : Nat) (z : Int) (o : ac_Out) : Bool := ex_ri o && (match ex_one (ac_fF nm_GH o.2.1 c k) with
  | some a => decide (a = z)
  | none => false)
theorem ex_ze_ok {c k : Nat} {z : Int} {xs : Nat → Int32} {o : ac_Out} {r : Option Value} {hp : px_H} (hI : ex_isI c k = true) (h : ex_ze c k z o = true) (ho : ac_o' nm_GH nm_Φ xs o r hp) : ∃ v w : Int32, r = some (.int v) ∧ ac_fv hp c k = some (.int w) ∧ w.toInt = z := by
  simp only [ex_ze, Bool.and_eq_true] at h
  obtain ⟨b, v, -, rfl, -⟩ := ex_ri_ok h.1 ho
  obtain ⟨w, w1, -⟩ := ex_fv hI ho.2.1
  have h2 := h.2
  split at h2
  · rename_i a ha
    have := of_decide_eq_true h2
    subst this
    cases hf : ac_fF nm_GH o.2.1 c k with
    | none => rw [hf] at ha; cases ha
    | some f =>
      rw [hf] at ha
      obtain ⟨x, e1, e2⟩ := ex_one_ok ha (ac_fF_ok ho.2.1 ho.2.2.1 hf w1)
      cases e1
      exact ⟨v, _, rfl, w1, e2⟩
  · cases h2
def ex_ck1 (X : ex_M) (c k : Nat) (z : Int) : Bool := ex_isI c k && (match ex_run X.1 X.2.1 X.2.2.1 X.2.2.2.1 X.2.2.2.2.1 X.2.2.2.2.2 [] with
  | some os => os.all (ex_ze c k z)
  | none => false)
theorem ex_ck1_ok {X : ex_M} {c k : Nat} {z : Int} (hK : ∀ κ ∈ X.1, nm_ok κ) (h : ex_ck1 X c k z = true) {hp : px_H} {av : List Value} (hG : ab_h nm_GH hp) (hv : ac_argv X.2.2.2.2.2 av) :
    ∃ (v w : Int32) (hp1 : px_H), px_C nm_T nm_P X.2.2.2.2.1 av hp (some (.int v)) hp1 ∧ ab_h nm_GH hp1 ∧ px_fr X.2.2.1 X.2.2.2.1 hp hp1 ∧ ac_fv hp1 c k = some (.int w) ∧ w.toInt = z := by
  simp only [ex_ck1, Bool.and_eq_true] at h
  have h2 := h.2
  split at h2
  · rename_i os ho
    obtain ⟨r, hp1, o, m1, m2, m3, m4⟩ := ex_run_ok hK ho hG hv (fun q hq => (by cases hq))
    obtain ⟨v, w, rfl, w1, w2⟩ := ex_ze_ok h.1 (List.all_eq_true.mp h2 o m1) m3
    exact ⟨v, w, hp1, m2, m3.2.1, m4, w1, w2⟩
  · cases h2
/-- a call that is known -/
theorem lw_invC {p : Program} {l : Launch} {e : Env} {s : State} {m : MethodId} {below : List Frame} {meth : Method} {c : Code} {b L : Nat} {xs : Nat → Int32} {D : va_G} {dA : Nat → ClassId} {pc nc ns : Nat} {lv : List (Nat × Value)} {st : List Value} {hp hp' : px_H} {r : Option Value} (C0 : lw_At p s m meth c b L xs) (hK : va_K D nm_cl (px_tys nm_T dA) s) {idx mi n a : Nat} {ci : Int} {N : px_M} (hf : px_find pc (px_cd nm_law) = some (3, .invokevirtual idx)) (hj : px_find idx (px_cp nm_law) = some (1, mi, n, ci)) (hn : st[n]? = some (.ref a)) (hcl : ac_cl nm_GH ci.toNat a = true) (hN : nm_P[mi]? = some N)
    (hl : n + 1 ≤ st.length) (h8 : ((st.drop (n + 1)).map fun v => v.category).sum ≤ 8) (hce : (px_rm N).cells = 0) (hsl : (px_rm N).slots = 0) (hG : ab_h nm_GH hp) (hC : px_C nm_T nm_P mi (st.take (n + 1)).reverse hp r hp') (q1 : nc ≤ nm_rc) (q2 : ns ≤ nm_rs)
    (h : nm_G p l e s m below meth c b D dA (pc + 3, lv, r.toList ++ st.drop (n + 1), hp', nc, ns)) : nm_G p l e s m below meth c b D dA (pc, lv, st, hp, nc, ns) := by
  obtain ⟨n0, m2⟩ := hC
  unfold ac_cl at hcl
  split at hcl
  · rename_i ci' fs hg
    have := Nat.eq_of_beq_eq_true hcl
    subst this
    obtain ⟨vs, hx, -, -⟩ := ac_obj hG hg
    exact nm_G_step C0 hK n0 (px_i_virt (M := nm_law) hf hj hn hx hN hl h8 hce hsl (m2 n0 (Nat.le_refl _)) q1 q2) h
  · cases hcl
end mg_1
