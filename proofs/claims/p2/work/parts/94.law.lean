/-! the law's walk, step by step, at any place of the script -/
/-- the law's locals -/
def nm_lvk (lv : List (Nat × Value)) (i : Nat) : Prop := px_find 0 lv = some (.retAddr 0) ∧ px_find 1 lv = some (.ref 0) ∧ px_find 2 lv = some (.ref 69) ∧ px_find 3 lv = some (.ref 105) ∧ px_find 4 lv = some (.int (Int32.ofNat i))
def nm_b01 (x : Int32) : Int32 := if x = 0 then Int32.ofInt 0 else Int32.ofInt 1
theorem nm_b01_in (x : Int32) : 0 ≤ (nm_b01 x).toInt ∧ (nm_b01 x).toInt ≤ 1 := by
  unfold nm_b01
  split <;> decide
section nm_l1
variable {p : Program} {l : Launch} {e : Env} {s : State} {m : MethodId} {below : List Frame} {meth : Method} {c : Code} {b L : Nat} {xs : Nat → Int32} {D : va_G} {dA : Nat → ClassId}
variable {pc len i nc ns : Nat} {lv : List (Nat × Value)} {st : List Value} {hp : px_H}
theorem lw_aload (C0 : lw_At p s m meth c b L xs) (hK : va_K D nm_cl (px_tys nm_T dA) s) {j : Fin 4} {a : Nat} (hf : px_find pc (px_cd nm_law) = some (1, .aload_n j)) (hv : px_find j lv = some (.ref a)) (h : nm_G p l e s m below meth c b D dA (pc + 1, lv, .ref a :: st, hp, nc, ns)) : nm_G p l e s m below meth c b D dA (pc, lv, st, hp, nc, ns) :=
  nm_G_step C0 hK 0 (by simp only [px_step, hf, px_alu, hv]) h
theorem lw_alu (C0 : lw_At p s m meth c b L xs) (hK : va_K D nm_cl (px_tys nm_T dA) s) {i : Instr} {st' : List Value} (hf : px_find pc (px_cd nm_law) = some (len, i)) (ha : px_alu i st = some st') (h : nm_G p l e s m below meth c b D dA (pc + len, lv, st', hp, nc, ns)) : nm_G p l e s m below meth c b D dA (pc, lv, st, hp, nc, ns) :=
  nm_G_step C0 hK 0 (by simp only [px_step, hf, ha]) h
theorem lw_goto (C0 : lw_At p s m meth c b L xs) (hK : va_K D nm_cl (px_tys nm_T dA) s) {off : Int} (hf : px_find pc (px_cd nm_law) = some (3, .goto off)) (h : nm_G p l e s m below meth c b D dA (px_tgt pc off, lv, st, hp, nc, ns)) : nm_G p l e s m below meth c b D dA (pc, lv, st, hp, nc, ns) :=
  nm_G_step C0 hK 0 (by simp only [px_step, hf, px_alu]) h
theorem lw_ldc2 (C0 : lw_At p s m meth c b L xs) (hK : va_K D nm_cl (px_tys nm_T dA) s) {idx z1 z2 : Nat} {v : Int} (hf : px_find pc (px_cd nm_law) = some (3, .ldc2_w idx)) (hj : px_find idx (px_cp nm_law) = some (4, z1, z2, v)) (h : nm_G p l e s m below meth c b D dA (pc + 3, lv, .long (Int64.ofInt v) :: st, hp, nc, ns)) : nm_G p l e s m below meth c b D dA (pc, lv, st, hp, nc, ns) :=
  nm_G_step C0 hK 0 (by simp only [px_step, hf, px_alu, hj]) h
/-- script[i + g] -/
theorem lw_sc (C0 : lw_At p s m meth c b L xs) (hK : va_K D nm_cl (px_tys nm_T dA) s) {z : Int} (g : Nat) (f1 : px_find pc (px_cd nm_law) = some (1, .aload_n 0)) (f2 : px_find (pc + 1) (px_cd nm_law) = some (2, .iload 4)) (f3 : px_find (pc + 1 + 2) (px_cd nm_law) = some (1, .iconst z)) (f4 : px_find (pc + 1 + 2 + 1) (px_cd nm_law) = some (1, .iadd)) (f5 : px_find (pc + 1 + 2 + 1 + 1) (px_cd nm_law) = some (1, .iaload))
    (hz : Int32.ofInt z = Int32.ofNat g) (hl : nm_lvk lv i) (hi : i + g < L) (hL : L ≤ 3072) (h : nm_G p l e s m below meth c b D dA (pc + 6, lv, .int (xs (i + g)) :: st, hp, nc, ns)) : nm_G p l e s m below meth c b D dA (pc, lv, st, hp, nc, ns) := by
  refine nm_G_step C0 hK 0 (S' := (pc + 1, lv, .retAddr 0 :: st, hp, nc, ns)) (by simp only [px_step, f1, px_alu, show px_find ((0 : Fin 4) : Nat) lv = some (.retAddr 0) from hl.1]) ?_
  refine nm_G_step C0 hK 0 (S' := (pc + 1 + 2, lv, .int (Int32.ofNat i) :: .retAddr 0 :: st, hp, nc, ns)) (by simp only [px_step, f2, px_alu, hl.2.2.2.2]) ?_
  refine nm_G_step C0 hK 0 (S' := (pc + 1 + 2 + 1, lv, .int (Int32.ofInt z) :: .int (Int32.ofNat i) :: .retAddr 0 :: st, hp, nc, ns)) (by simp only [px_step, f3, px_alu]) ?_
  refine nm_G_step C0 hK 0 (S' := (pc + 1 + 2 + 1 + 1, lv, .int (Int32.ofNat i + Int32.ofInt z) :: .retAddr 0 :: st, hp, nc, ns)) (by simp only [px_step, f4, px_alu, px_ii]) ?_
  rw [hz, ← Int32.ofNat_add]
  have hin : px_inR (Int32.ofNat (i + g)) L = true := by
    simp only [px_inR, Bool.and_eq_true, decide_eq_true_eq, nm_ofNat_toInt (i + g) (by omega)]
    omega
  exact nm_G_step C0 hK 0 (S' := (pc + 6, lv, .int (xs (i + g)) :: st, hp, nc, ns)) (by simp only [px_step, f5, px_alu, px_ald, hin, Option.map_some, nm_ofNat_clamp (i + g) (by omega)]) h
/-- x != 0 -/
theorem lw_bool (C0 : lw_At p s m meth c b L xs) (hK : va_K D nm_cl (px_tys nm_T dA) s) {x : Int32} (f1 : px_find pc (px_cd nm_law) = some (3, .ifCond .eq 7)) (f2 : px_find (pc + 3) (px_cd nm_law) = some (1, .iconst 1)) (f3 : px_find (pc + 3 + 1) (px_cd nm_law) = some (3, .goto 4)) (f4 : px_find (px_tgt pc 7) (px_cd nm_law) = some (1, .iconst 0)) (t1 : px_tgt (pc + 3 + 1) 4 = pc + 8) (t2 : px_tgt pc 7 + 1 = pc + 8)
    (h : nm_G p l e s m below meth c b D dA (pc + 8, lv, .int (nm_b01 x) :: st, hp, nc, ns)) : nm_G p l e s m below meth c b D dA (pc, lv, .int x :: st, hp, nc, ns) := by
  by_cases hx : x = 0
  · have hb : nm_b01 x = Int32.ofInt 0 := by unfold nm_b01; rw [if_pos hx]
    rw [hb] at h
    have hc : px_cmp .eq x 0 = true := by simp only [px_cmp, hx, decide_true]
    refine nm_G_step C0 hK 0 (S' := (px_tgt pc 7, lv, st, hp, nc, ns)) (by simp only [px_step, f1, px_alu, hc]) ?_
    exact nm_G_step C0 hK 0 (S' := (pc + 8, lv, .int (Int32.ofInt 0) :: st, hp, nc, ns)) (by simp only [px_step, f4, px_alu, t2]) h
  · have hb : nm_b01 x = Int32.ofInt 1 := by unfold nm_b01; rw [if_neg hx]
    rw [hb] at h
    have hc : px_cmp .eq x 0 = false := by simp only [px_cmp, hx, decide_false]
    refine nm_G_step C0 hK 0 (S' := (pc + 3, lv, st, hp, nc, ns)) (by simp only [px_step, f1, px_alu, hc]) ?_
    refine nm_G_step C0 hK 0 (S' := (pc + 3 + 1, lv, .int (Int32.ofInt 1) :: st, hp, nc, ns)) (by simp only [px_step, f2, px_alu]) ?_
    exact nm_G_step C0 hK 0 (S' := (pc + 8, lv, .int (Int32.ofInt 1) :: st, hp, nc, ns)) (by simp only [px_step, f3, px_alu, t1]) h
/-- a call by contract -/
theorem lw_inv (C0 : lw_At p s m meth c b L xs) (hK : va_K D nm_cl (px_tys nm_T dA) s) {κ : ac_K} (hκ : nm_ok κ) (hpre : κ.2.2.1 = []) {idx n a : Nat} {ci : Int} {N : px_M} (hf : px_find pc (px_cd nm_law) = some (3, .invokevirtual idx)) (hj : px_find idx (px_cp nm_law) = some (1, κ.1, n, ci)) (hn : st[n]? = some (.ref a)) (hcl : ac_cl nm_GH ci.toNat a = true) (hN : nm_P[κ.1]? = some N)
    (hl : n + 1 ≤ st.length) (h8 : ((st.drop (n + 1)).map fun v => v.category).sum ≤ 8) (hce : (px_rm N).cells = 0) (hsl : (px_rm N).slots = 0) (hG : ab_h nm_GH hp) (hav : ac_argv κ.2.1 (st.take (n + 1)).reverse) (q1 : nc ≤ nm_rc) (q2 : ns ≤ nm_rs)
    (h : ∀ (r : Option Value) (hp' : px_H) (o : Option ab_F × List (Nat × ab_B) × List Nat), o ∈ κ.2.2.2.1 → ab_h nm_GH hp' → ac_rv o.1 r → (∀ q ∈ o.2.1, ∃ v z, (st.take (n + 1)).reverse[q.1]? = some v ∧ ab_num v = some z ∧ ab_in q.2 z) → px_fr κ.2.2.2.2.1 κ.2.2.2.2.2 hp hp' → nm_G p l e s m below meth c b D dA (pc + 3, lv, r.toList ++ st.drop (n + 1), hp', nc, ns)) :
    nm_G p l e s m below meth c b D dA (pc, lv, st, hp, nc, ns) := by
  obtain ⟨r, hp', o, m1, ⟨n0, m2⟩, m3, m4, m5, -, m7⟩ := hκ _ hp hG hav (fun i hi => by rw [hpre] at hi; cases hi)
  unfold ac_cl at hcl
  split at hcl
  · rename_i ci' fs hg
    have := Nat.eq_of_beq_eq_true hcl
    subst this
    obtain ⟨vs, hx, -, -⟩ := ac_obj hG hg
    exact nm_G_step C0 hK n0 (px_i_virt (M := nm_law) hf hj hn hx hN hl h8 hce hsl (m2 n0 (Nat.le_refl _)) q1 q2) (h r hp' o m1 m3 m4 m5 m7)
  · cases hcl
theorem nm_st_find {j : Nat} {v : Value} (hl : nm_lvk lv i) (hj : 5 ≤ j) : nm_lvk (px_st1 lv j v) i := by
  obtain ⟨h0, h1, h2, h3, h4⟩ := hl
  exact ⟨ab_sto1_find h0 (by omega) (fun _ hc => by cases hc), ab_sto1_find h1 (by omega) (fun _ hc => by cases hc), ab_sto1_find h2 (by omega) (fun _ hc => by cases hc), ab_sto1_find h3 (by omega) (fun _ hc => by cases hc), ab_sto1_find h4 (by omega) (fun _ hc => by cases hc)⟩
theorem nm_st_find2 {j : Nat} {v : Value} (hl : nm_lvk lv i) (hj : 5 ≤ j) : nm_lvk (px_st2 lv j v) i := by
  obtain ⟨h0, h1, h2, h3, h4⟩ := hl
  exact ⟨ab_sto2_find h0 (by omega) (by omega) (fun _ hc => by cases hc), ab_sto2_find h1 (by omega) (by omega) (fun _ hc => by cases hc), ab_sto2_find h2 (by omega) (by omega) (fun _ hc => by cases hc), ab_sto2_find h3 (by omega) (by omega) (fun _ hc => by cases hc), ab_sto2_find h4 (by omega) (by omega) (fun _ hc => by cases hc)⟩
/-- i += 6, and back -/
theorem lw_end (C0 : lw_At p s m meth c b L xs) (hK : va_K D nm_cl (px_tys nm_T dA) s) {off : Int} (f1 : px_find pc (px_cd nm_law) = some (3, .iinc 4 6)) (f2 : px_find (pc + 3) (px_cd nm_law) = some (3, .goto off)) (t1 : px_tgt (pc + 3) off = 23) (hl : nm_lvk lv i)
    (h : ∀ lv' : List (Nat × Value), nm_lvk lv' (i + 6) → nm_G p l e s m below meth c b D dA (23, lv', st, hp, nc, ns)) : nm_G p l e s m below meth c b D dA (pc, lv, st, hp, nc, ns) := by
  have hl9 : nm_lvk (px_st1 lv 4 (.int (Int32.ofNat i + Int32.ofInt 6))) (i + 6) := by
    obtain ⟨h0, h1, h2, h3, h4⟩ := hl
    refine ⟨ab_sto1_find h0 (by decide) (fun _ hc => by cases hc), ab_sto1_find h1 (by decide) (fun _ hc => by cases hc), ab_sto1_find h2 (by decide) (fun _ hc => by cases hc), ab_sto1_find h3 (by decide) (fun _ hc => by cases hc), ?_⟩
    unfold px_st1 px_find
    rw [Nat.beq_refl, show Int32.ofNat i + Int32.ofInt 6 = Int32.ofNat (i + 6) from by rw [Int32.ofNat_add]; rfl]
  refine nm_G_step C0 hK 0 (S' := (pc + 3, px_st1 lv 4 (.int (Int32.ofNat i + Int32.ofInt 6)), st, hp, nc, ns)) ?_ ?_
  · have hm : decide (4 < px_ml nm_law) = true := rfl
    simp only [px_step, f1, px_alu, hl.2.2.2.2, hm]
  · exact nm_G_step C0 hK 0 (S' := (23, px_st1 lv 4 (.int (Int32.ofNat i + Int32.ofInt 6)), st, hp, nc, ns)) (by simp only [px_step, f2, px_alu, t1]) (h _ hl9)
end nm_l1
theorem nm_rI {outs : List (Option ab_F × List (Nat × ab_B) × List Nat)} {o : Option ab_F × List (Nat × ab_B) × List Nat} {r : Option Value} (h : outs.all (fun o => match o.1 with | some f => Nat.beq f.1 0 | none => false) = true) (ho : o ∈ outs) (hr : ac_rv o.1 r) : ∃ v : Int32, r = some (.int v) := by
  have h1 := List.all_eq_true.mp h o ho
  cases hf : o.1 with
  | none => rw [hf] at h1; cases h1
  | some f =>
    rw [hf] at h1 hr
    obtain ⟨f0, f1, f2, f3⟩ := f
    have h2 := Nat.eq_of_beq_eq_true h1
    simp only at h2
    subst h2
    cases r with
    | none => exact absurd hr (by simp [ac_rv])
    | some v =>
      obtain ⟨x, rfl, -⟩ := ab_f0 (show ab_f (0, f1, f2, f3) v from hr)
      exact ⟨x, rfl⟩
theorem nm_rJ {outs : List (Option ab_F × List (Nat × ab_B) × List Nat)} {o : Option ab_F × List (Nat × ab_B) × List Nat} {r : Option Value} (h : outs.all (fun o => match o.1 with | some f => Nat.beq f.1 1 | none => false) = true) (ho : o ∈ outs) (hr : ac_rv o.1 r) : ∃ v : Int64, r = some (.long v) := by
  have h1 := List.all_eq_true.mp h o ho
  cases hf : o.1 with
  | none => rw [hf] at h1; cases h1
  | some f =>
    rw [hf] at h1 hr
    obtain ⟨f0, f1, f2, f3⟩ := f
    have h2 := Nat.eq_of_beq_eq_true h1
    simp only at h2
    subst h2
    cases r with
    | none => exact absurd hr (by simp [ac_rv])
    | some v =>
      obtain ⟨x, rfl, -⟩ := ab_f1 (show ab_f (1, f1, f2, f3) v from hr)
      exact ⟨x, rfl⟩
section nm_l2
variable {p : Program} {l : Launch} {e : Env} {s : State} {m : MethodId} {below : List Frame} {meth : Method} {c : Code} {b L : Nat} {xs : Nat → Int32} {D : va_G} {dA : Nat → ClassId}
variable {pc nc ns : Nat} {lv : List (Nat × Value)} {st : List Value} {hp : px_H}
theorem lw_ieq (C0 : lw_At p s m meth c b L xs) (hK : va_K D nm_cl (px_tys nm_T dA) s) {v w : Int32} {off : Int} (hf : px_find pc (px_cd nm_law) = some (3, .if_icmp .eq off)) (hv : v = w) (h : nm_G p l e s m below meth c b D dA (px_tgt pc off, lv, st, hp, nc, ns)) : nm_G p l e s m below meth c b D dA (pc, lv, .int w :: .int v :: st, hp, nc, ns) := by
  have hc : px_cmp .eq v w = true := by simp only [px_cmp, hv, decide_true]
  exact nm_G_step C0 hK 0 (by simp only [px_step, hf, px_alu, hc]) h
end nm_l2
/-! two calls whose contracts tell the same answer -/
abbrev nm_O := Option ab_F × List (Nat × ab_B) × List Nat
def nm_dj (o o' : nm_O) : Bool :=
  (match o.1, o'.1 with
    | some f, some f' => Nat.beq f.1 0 && (Nat.beq f'.1 0 && (decide (f.2.1 = f.2.2.1) && (decide (f'.2.1 = f'.2.2.1) && decide (f.2.1 = f'.2.1))))
    | _, _ => false) || o.2.1.any (fun q => o'.2.1.any (fun q' => Nat.beq q.1 q'.1 && (decide (q.2.2 < q'.2.1) || decide (q'.2.2 < q.2.1))))
theorem nm_cmp {outs outs' : List nm_O} {o o' : nm_O} {v v' : Int32} {a a' : Nat} {r : List Value} (h : outs.all (fun o => outs'.all (nm_dj o)) = true) (ho : o ∈ outs) (hr : ac_rv o.1 (some (.int v))) (hf : ∀ q ∈ o.2.1, ∃ v z, (Value.ref a :: r)[q.1]? = some v ∧ ab_num v = some z ∧ ab_in q.2 z)
    (ho' : o' ∈ outs') (hr' : ac_rv o'.1 (some (.int v'))) (hf' : ∀ q ∈ o'.2.1, ∃ v z, (Value.ref a' :: r)[q.1]? = some v ∧ ab_num v = some z ∧ ab_in q.2 z) : v = v' := by
  have h1 := List.all_eq_true.mp (List.all_eq_true.mp h o ho) o' ho'
  unfold nm_dj at h1
  rw [Bool.or_eq_true] at h1
  rcases h1 with h1 | h1
  · cases hx : o.1 with
    | none => rw [hx] at hr; exact absurd hr (by simp [ac_rv])
    | some f =>
      cases hy : o'.1 with
      | none => rw [hy] at hr'; exact absurd hr' (by simp [ac_rv])
      | some f' =>
        rw [hx, hy] at h1
        rw [hx] at hr
        rw [hy] at hr'
        simp only [Bool.and_eq_true, decide_eq_true_eq] at h1
        have t1 : ab_f f (.int v) := hr
        have t2 : ab_f f' (.int v') := hr'
        obtain ⟨-, -, e1, e2, e3⟩ := h1
        have u1 := t1.2
        have u2 := t2.2
        rw [← Int32.toInt_inj]
        omega
  · obtain ⟨q, hq, h2⟩ := List.any_eq_true.mp h1
    obtain ⟨q', hq', h3⟩ := List.any_eq_true.mp h2
    obtain ⟨v1, z1, a1, b1, c1⟩ := hf q hq
    obtain ⟨v2, z2, a2, b2, c2⟩ := hf' q' hq'
    simp only [Bool.and_eq_true, Bool.or_eq_true, decide_eq_true_eq] at h3
    have hj := Nat.eq_of_beq_eq_true h3.1
    rw [← hj] at a2
    have hz : z1 = z2 := by
      cases hk : q.1 with
      | zero =>
        rw [hk] at a1
        simp only [List.getElem?_cons_zero, Option.some.injEq] at a1
        subst a1
        exact absurd b1 (by simp [ab_num])
      | succ n =>
        rw [hk, List.getElem?_cons_succ] at a1 a2
        rw [a1] at a2
        cases a2
        rw [b1] at b2
        cases b2
        rfl
    subst hz
    have := c1.1
    have := c1.2
    have := c2.1
    have := c2.2
    rcases h3.2 with h4 | h4 <;> omega
