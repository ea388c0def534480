section mg_0
theorem ab_rfn_lt : ∀ (rs : List Nat) (i : Nat) (g : Nat → Option Nat) (j : Nat), j < i → ab_rfn i rs g j = g j := by
  intro rs
  induction rs with
  | nil => intro i g j h; rfl
  | cons a r ih =>
    intro i g j h
    unfold ab_rfn
    rw [ih (i + 1) _ j (by omega)]
    unfold va_up
    rw [if_neg (by omega)]
theorem ab_rfn_in : ∀ (rs : List Nat) (i : Nat) (g : Nat → Option Nat) (j : Nat), i ≤ j → j < i + rs.length → ∃ q, ab_rfn i rs g j = some q ∧ q ∈ rs := by
  intro rs
  induction rs with
  | nil => intro i g j h1 h2; simp at h2; omega
  | cons a r ih =>
    intro i g j h1 h2
    unfold ab_rfn
    by_cases hj : j = i
    · subst hj
      rw [ab_rfn_lt r (j + 1) _ j (by omega)]
      unfold va_up
      rw [if_pos rfl]
      exact ⟨a, rfl, List.mem_cons_self⟩
    · obtain ⟨q, e1, e2⟩ := ih (i + 1) (va_up g i (some a)) j (by omega) (by simp at h2; omega)
      exact ⟨q, e1, List.mem_cons_of_mem _ e2⟩
theorem ab_fx_ok (v : Value) (h : ab_fv v = true) : ab_f (ab_fx v) v := by
  cases v <;> first | exact ⟨rfl, Int.le_refl _, Int.le_refl _⟩ | exact ⟨rfl, List.mem_singleton.mpr rfl⟩ | cases h
theorem ab_D_c (d : ab_D) (h : ab_Dok d = true) : ab_c (ab_toA d) (ab_toC d) := by
  rcases d with ⟨ci, vs⟩ | ⟨t, n⟩ | ⟨t, n⟩ | ⟨t, rs⟩
  · refine ⟨rfl, by rw [List.length_map], fun k f v hf hv => ?_⟩
    rw [List.getElem?_map, hv] at hf
    cases hf
    exact ab_fx_ok v (List.all_eq_true.mp h v (List.mem_of_getElem? hv))
  · exact ⟨rfl, rfl, fun j hj => ⟨rfl, Int.le_refl _, Int.le_refl _⟩⟩
  · exact ⟨rfl, rfl, fun j hj => ⟨rfl, Int.le_refl _, Int.le_refl _⟩⟩
  · refine ⟨rfl, rfl, fun j hj => ?_⟩
    obtain ⟨q, e1, e2⟩ := ab_rfn_in rs 0 (fun _ => none) j (Nat.zero_le _) (by simpa using hj)
    exact ⟨q, e1, rfl, e2⟩
theorem ab_D_h (D : List ab_D) (h : D.all ab_Dok = true) : ab_h (D.map ab_toA) (D.map ab_toC) := by
  refine ⟨by rw [List.length_map, List.length_map], fun k a x ha hx => ?_⟩
  rw [List.getElem?_map] at ha hx
  rcases hd : D[k]? with _ | d
  · rw [hd] at ha; cases ha
  · rw [hd] at ha hx
    cases ha
    cases hx
    exact ab_D_c d (List.all_eq_true.mp h d (List.mem_of_getElem? hd))
theorem nm_D_ok : nm_D.all ab_Dok = true := by decide +kernel
abbrev nm_H1 : px_H := nm_D.map ab_toC
abbrev nm_A1 : List ab_C := nm_D.map ab_toA
set_option maxRecDepth 1000000 in
set_option maxHeartbeats 40000000 in
theorem nm_c0 (X : Option (Nat × (Nat → Int32))) : nm_steps X 400 13 (0, [(0, .retAddr 0)], [], [], 0, 0) = some (23, nm_lv, [], nm_H1, 106, 103614) := by rfl
end mg_0

section mg_1
/-! CONTRACTS over the pure machine -/
/-- from this place the method ends with this answer and heap -/
def px_Z (T : px_T) (X : Option (Nat × (Nat → Int32))) (P : List px_M) (M : px_M) (pc : Nat) (lv : List (Nat × Value)) (st : List Value) (hp : px_H) (r : Option Value) (hp' : px_H) : Prop :=
  ∃ n0 k : Nat, ∀ n, n0 ≤ n → ∀ N0 nc ns : Nat, nc ≤ (px_rm M).cells → ns ≤ (px_rm M).slots → px_run T X P (px_call T P ab_nn n) M N0 k (pc, lv, st, hp, nc, ns) = some (r, hp')
/-- a call ends with this answer and heap -/
def px_C (T : px_T) (P : List px_M) (mi : Nat) (av : List Value) (hp : px_H) (r : Option Value) (hp' : px_H) : Prop := ∃ n0 : Nat, ∀ n, n0 ≤ n → px_call T P ab_nn n mi av hp = some (r, hp')
section px_q1
variable {T : px_T} {X : Option (Nat × (Nat → Int32))} {P : List px_M} {M : px_M}
variable {pc pc1 len : Nat} {lv lv1 : List (Nat × Value)} {st st1 : List Value} {hp hp1 hp' : px_H} {r : Option Value}
theorem px_C_of {N : px_M} {mi : Nat} {av : List Value} (hN : P[mi]? = some N) (hl : (lg_sl av).length ≤ px_ml N) (h : px_Z T none P N 0 (lv_args 0 av) [] hp r hp') : px_C T P mi av hp r hp' := ab_call_ok hN hl h
theorem px_Z_its (k : Nat) (h : ∀ (call : Nat → List Value → px_H → Option px_A) (N0 nc ns : Nat), px_its T X P call M N0 k (pc, lv, st, hp, nc, ns) = some (pc1, lv1, st1, hp1, nc, ns)) (hR : px_Z T X P M pc1 lv1 st1 hp1 r hp') : px_Z T X P M pc lv st hp r hp' := by
  obtain ⟨n0, k2, h2⟩ := hR
  exact ⟨n0, k + k2, fun n hn N0 nc ns q1 q2 => px_its_run k (h _ N0 nc ns) (h2 n hn N0 nc ns q1 q2)⟩
theorem px_q_get {idx ci k a : Nat} {fl : Int} {fs : List Value} {v : Value} (hf : px_find pc (px_cd M) = some (len, .getfield idx)) (hj : px_find idx (px_cp M) = some (0, ci, k, fl)) (hx : hp[a]? = some (.inr (ci, fs))) (hv : fs[k]? = some v)
    (hR : px_Z T X P M (pc + len) lv (v :: st) hp r hp') : px_Z T X P M pc lv (.ref a :: st) hp r hp' :=
  px_Z_its 1 (fun call N0 nc ns => by simp only [px_its, px_step, hf, px_alu, hj, hx, Nat.beq_refl, hv]) hR
theorem px_q_iast {a t n : Nat} {f : Nat → Int32} {j x : Int32} (hf : px_find pc (px_cd M) = some (len, .iastore)) (hx : hp[a]? = some (.inl (t, n, .inl f))) (ht : T.1[t]? = some .int) (hj : px_inR j n = true)
    (hR : px_Z T X P M (pc + len) lv st (hp.set a (.inl (t, n, .inl (upd f j.toNatClampNeg x)))) r hp') : px_Z T X P M pc lv (.int x :: .int j :: .ref a :: st) hp r hp' :=
  px_Z_its 1 (fun call N0 nc ns => by simp only [px_its, px_step, hf, px_alu, px_ast, hx, ht, hj, Option.map_some]) hR
theorem px_q_icmp {c : ClassFile.Cond} {off : Int} {x y : Int32} {bb : Bool} (hf : px_find pc (px_cd M) = some (len, .if_icmp c off)) (hc : px_cmp c x y = bb)
    (hR : px_Z T X P M (bif bb then px_tgt pc off else pc + 3) lv st hp r hp') : px_Z T X P M pc lv (.int y :: .int x :: st) hp r hp' :=
  px_Z_its 1 (fun call N0 nc ns => by cases bb <;> simp only [px_its, px_step, hf, px_alu, hc, cond_true, cond_false]) hR
theorem px_q_if {c : ClassFile.Cond} {off : Int} {x : Int32} {bb : Bool} (hf : px_find pc (px_cd M) = some (len, .ifCond c off)) (hc : px_cmp c x 0 = bb)
    (hR : px_Z T X P M (bif bb then px_tgt pc off else pc + 3) lv st hp r hp') : px_Z T X P M pc lv (.int x :: st) hp r hp' :=
  px_Z_its 1 (fun call N0 nc ns => by cases bb <;> simp only [px_its, px_step, hf, px_alu, hc, cond_true, cond_false]) hR
theorem px_q_ret (hf : px_find pc (px_cd M) = some (len, .return_)) (hr : px_rt M = none) : px_Z T X P M pc lv [] hp none hp :=
  ⟨0, 1, fun n _ N0 nc ns q1 q2 => by simp only [px_run, px_step, hf, px_alu, hr, decide_eq_true q1, decide_eq_true q2]⟩
end px_q1
section px_q2
variable {T : px_T} {X : Option (Nat × (Nat → Int32))} {P : List px_M} {M : px_M} {N0 pc len nc ns : Nat} {lv : List (Nat × Value)} {st : List Value} {hp hp1 : px_H} {r : Option Value} {call : Nat → List Value → px_H → Option px_A}
theorem px_i_virt {idx mi n a : Nat} {ci : Int} {fs : List Value} {N : px_M} (hf : px_find pc (px_cd M) = some (len, .invokevirtual idx)) (hj : px_find idx (px_cp M) = some (1, mi, n, ci)) (hn : st[n]? = some (.ref a)) (hx : hp[a]? = some (.inr (ci.toNat, fs))) (hN : P[mi]? = some N)
    (hl : n + 1 ≤ st.length) (h8 : ((st.drop (n + 1)).map fun v => v.category).sum ≤ 8) (hce : (px_rm N).cells = 0) (hsl : (px_rm N).slots = 0) (hcall : call mi (st.take (n + 1)).reverse hp = some (r, hp1)) (q1 : nc ≤ (px_rm M).cells) (q2 : ns ≤ (px_rm M).slots) :
    px_step T X P call M N0 (pc, lv, st, hp, nc, ns) = some (.inl (pc + 3, lv, r.toList ++ st.drop (n + 1), hp1, nc, ns)) := by
  simp only [px_step, hf, px_alu, hj, hn, hx, Nat.beq_refl, hN, decide_eq_true hl, decide_eq_true h8, hce, hsl, Nat.add_zero, decide_eq_true q1, decide_eq_true q2, true_or, decide_true, hcall]
end px_q2
/-! 'Spc': contracts of methods that a pure call may stand on -/
section px_q3
variable {T : px_T} {X : Option (Nat × (Nat → Int32))} {P : List px_M}
set_option maxHeartbeats 8000000 in
/-- a step asks at most one call -/
theorem px_step_dep {c1 : Nat → List Value → px_H → Option px_A} {M : px_M} {N0 : Nat} {S : px_S} {x : px_S ⊕ px_A} (h : px_step T X P c1 M N0 S = some x) :
    ∃ (mi : Nat) (av : List Value) (hq : px_H), ∀ c : Nat → List Value → px_H → Option px_A, (∀ r, c1 mi av hq = some r → c mi av hq = some r) → px_step T X P c M N0 S = some x := by
  obtain ⟨pc, lv, st, hp, nc, ns⟩ := S
  unfold px_step at h
  simp only at h
  rcases hf : px_find pc (px_cd M) with _ | ⟨len, i⟩
  · rw [hf] at h; cases h
  rw [hf] at h
  simp only at h
  rcases ha : px_alu i st with _ | st'
  · rw [ha] at h
    have go : ∀ (n mi : Nat) (c : Nat → List Value → px_H → Option px_A), (∀ r, c1 mi (st.take n).reverse hp = some r → c mi (st.take n).reverse hp = some r) →
        ((match P[mi]? with
          | none => none
          | some N => match decide (n ≤ st.length), decide (((st.drop n).map fun v => v.category).sum ≤ 8), decide (nc + (px_rm N).cells ≤ (px_rm M).cells), decide (ns + (px_rm N).slots ≤ (px_rm M).slots), decide ((px_rm N).cells = 0 ∨ hp.length = N0 + nc) with
            | true, true, true, true, true => match c1 mi (st.take n).reverse hp with
              | none => none
              | some (r, hp') => some (.inl (pc + 3, lv, r.toList ++ st.drop n, hp', nc + (px_rm N).cells, ns + (px_rm N).slots))
            | _, _, _, _, _ => none : Option (px_S ⊕ px_A)) = some x) →
        ((match P[mi]? with
          | none => none
          | some N => match decide (n ≤ st.length), decide (((st.drop n).map fun v => v.category).sum ≤ 8), decide (nc + (px_rm N).cells ≤ (px_rm M).cells), decide (ns + (px_rm N).slots ≤ (px_rm M).slots), decide ((px_rm N).cells = 0 ∨ hp.length = N0 + nc) with
            | true, true, true, true, true => match c mi (st.take n).reverse hp with
              | none => none
              | some (r, hp') => some (.inl (pc + 3, lv, r.toList ++ st.drop n, hp', nc + (px_rm N).cells, ns + (px_rm N).slots))
            | _, _, _, _, _ => none : Option (px_S ⊕ px_A)) = some x) := by
      intro n mi c hc h1
      rcases h9 : c1 mi (st.take n).reverse hp with _ | q
      · simp only [h9] at h1
        split at h1
        · cases h1
        · split at h1 <;> cases h1
      · rw [h9] at h1
        rw [hc q h9]
        exact h1
    cases i
    case invokevirtual idx =>
      simp only at h
      split at h
      · rename_i mi n ci hj
        split at h
        · rename_i a hn
          split at h
          · rename_i c0 fs hq
            split at h
            · rename_i hb
              exact ⟨mi, (st.take (n + 1)).reverse, hp, fun c hc => by
                unfold px_step
                simp only [hf, ha, hj, hn, hq, hb]
                exact go (n + 1) mi c hc h⟩
            · cases h
          · cases h
        · cases h
      · cases h
    case invokestatic idx =>
      simp only at h
      split at h
      · rename_i mi n z hj
        exact ⟨mi, (st.take n).reverse, hp, fun c hc => by
          unfold px_step
          simp only [hf, ha, hj]
          exact go n mi c hc h⟩
      · rename_i w z1 z2 hj
        exact ⟨0, [], [], fun c _ => by
          unfold px_step
          simp only [hf, ha, hj]
          exact h⟩
      · cases h
    case invokespecial idx =>
      simp only at h
      split at h
      · rename_i z1 z2 z3 hj
        exact ⟨0, [], [], fun c _ => by
          unfold px_step
          simp only [hf, ha, hj]
          exact h⟩
      · rename_i mi n z hj
        split at h
        · rename_i a hn
          exact ⟨mi, (st.take (n + 1)).reverse, hp, fun c hc => by
            unfold px_step
            simp only [hf, ha, hj, hn]
            exact go (n + 1) mi c hc h⟩
        · cases h
      · cases h
    all_goals
      exact ⟨0, [], [], fun c _ => by
        unfold px_step
        simp only [hf, ha]
        exact h⟩
  · rw [ha] at h
    exact ⟨0, [], [], fun c _ => by
      unfold px_step
      simp only [hf, ha]
      exact h⟩
theorem px_spc_run {c1 : Nat → List Value → px_H → Option px_A} (hc : ∀ mi av hp r, c1 mi av hp = some r → px_C T P mi av hp r.1 r.2) (M : px_M) (N0 : Nat) : ∀ (k : Nat) (S : px_S) (r : px_A), px_run T X P c1 M N0 k S = some r →
    ∃ n0 : Nat, ∀ n, n0 ≤ n → px_run T X P (px_call T P ab_nn n) M N0 k S = some r := by
  intro k
  induction k with
  | zero => intro S r h; cases h
  | succ k ih =>
    intro S r h
    unfold px_run at h
    have hstep : ∀ x, px_step T X P c1 M N0 S = some x → ∃ n0 : Nat, ∀ n, n0 ≤ n → px_step T X P (px_call T P ab_nn n) M N0 S = some x := by
      intro x hx
      obtain ⟨mi, av, hq, hd⟩ := px_step_dep hx
      rcases h9 : c1 mi av hq with _ | q
      · exact ⟨0, fun n _ => hd _ (fun r hr => by rw [h9] at hr; cases hr)⟩
      · obtain ⟨n0, h0⟩ := hc mi av hq q h9
        exact ⟨n0, fun n hn => hd _ (fun r hr => by rw [h9] at hr; cases hr; exact h0 n hn)⟩
    split at h
    · cases h
    · rename_i S' hs
      obtain ⟨n1, h1⟩ := hstep _ hs
      obtain ⟨n2, h2⟩ := ih S' r h
      exact ⟨max n1 n2, fun n hn => by unfold px_run; rw [h1 n (by omega)]; exact h2 n (by omega)⟩
    · rename_i r9 hs
      cases h
      obtain ⟨n1, h1⟩ := hstep _ hs
      exact ⟨n1, fun n hn => by unfold px_run; rw [h1 n hn]⟩
theorem px_spc {Spc : Nat → List Value → px_H → Option px_A} (hS : ∀ mi av hp r, Spc mi av hp = some r → px_C T P mi av hp r.1 r.2) : ∀ (n mi : Nat) (av : List Value) (hp : px_H) (r : px_A), px_call T P Spc n mi av hp = some r → px_C T P mi av hp r.1 r.2 := by
  intro n
  induction n with
  | zero => intro mi av hp r h; cases h
  | succ n ih =>
    intro mi av hp r h
    unfold px_call at h
    split at h
    · rename_i r9 hs
      cases h
      exact hS mi av hp r hs
    split at h
    · cases h
    rename_i M hM
    split at h
    · cases h
    rename_i hl
    obtain ⟨n0, h0⟩ := px_spc_run ih M _ n _ r h
    refine ⟨max n0 n + 1, fun k hk => ?_⟩
    obtain ⟨j, rfl⟩ : ∃ j, k = j + 1 := ⟨k - 1, by omega⟩
    unfold px_call
    simp only [hM, hl]
    have h1 := px_run_mono n (j - n) (h0 j (by omega))
    rwa [show n + (j - n) = j by omega] at h1
end px_q3
end mg_1

section mg_2
/-! the methods by their names -/
abbrev mi_Chest_init : Nat := 0
abbrev mm_Chest_init : px_M := nm_m0
abbrev mi_Chest_copy : Nat := 1
abbrev mm_Chest_copy : px_M := nm_m1
abbrev mi_Chest_lay : Nat := 2
abbrev mm_Chest_lay : px_M := nm_m2
abbrev mi_Chest_setPart : Nat := 3
abbrev mm_Chest_setPart : px_M := nm_m3
abbrev mi_Chest_startAnew : Nat := 4
abbrev mm_Chest_startAnew : px_M := nm_m4
abbrev mi_Chest_part : Nat := 5
abbrev mm_Chest_part : px_M := nm_m5
abbrev mi_Course_kinOf : Nat := 6
abbrev mm_Course_kinOf : px_M := nm_m6
abbrev mi_Course_satSince : Nat := 7
abbrev mm_Course_satSince : px_M := nm_m7
abbrev mi_Course_barredBy : Nat := 8
abbrev mm_Course_barredBy : px_M := nm_m8
abbrev mi_Course_barredAtFirst : Nat := 9
abbrev mm_Course_barredAtFirst : px_M := nm_m9
abbrev mi_Chest_open : Nat := 10
abbrev mm_Chest_open : px_M := nm_m10
abbrev mi_I_bitCount : Nat := 11
abbrev mm_I_bitCount : px_M := nm_m11
abbrev mi_Chest_isOver : Nat := 12
abbrev mm_Chest_isOver : px_M := nm_m12
abbrev mi_Chest_takeOut : Nat := 13
abbrev mm_Chest_takeOut : px_M := nm_m13
abbrev mi_Chest_close : Nat := 14
abbrev mm_Chest_close : px_M := nm_m14
abbrev mi_Rule_init : Nat := 15
abbrev mm_Rule_init : px_M := nm_m15
abbrev mi_Course_init : Nat := 16
abbrev mm_Course_init : px_M := nm_m16
abbrev mi_Course_set : Nat := 17
abbrev mm_Course_set : px_M := nm_m17
abbrev mi_Town_hasDrawing : Nat := 18
abbrev mm_Town_hasDrawing : px_M := nm_m18
abbrev mi_Town_deadOn : Nat := 19
abbrev mm_Town_deadOn : px_M := nm_m19
abbrev mi_Town_indebtedOn : Nat := 20
abbrev mm_Town_indebtedOn : px_M := nm_m20
abbrev mi_Town_awayOn : Nat := 21
abbrev mm_Town_awayOn : px_M := nm_m21
abbrev mi_Town_ofHouse : Nat := 22
abbrev mm_Town_ofHouse : px_M := nm_m22
abbrev mi_Course_ready : Nat := 23
abbrev mm_Course_ready : px_M := nm_m23
abbrev mi_Course_lineAgainst : Nat := 24
abbrev mm_Course_lineAgainst : px_M := nm_m24
abbrev mi_Course_foretell : Nat := 25
abbrev mm_Course_foretell : px_M := nm_m25
abbrev mi_Row_init : Nat := 26
abbrev mm_Row_init : px_M := nm_m26
abbrev mi_Row_clear : Nat := 27
abbrev mm_Row_clear : px_M := nm_m27
abbrev mi_Row_tell : Nat := 28
abbrev mm_Row_tell : px_M := nm_m28
abbrev mi_Row_tellOne : Nat := 29
abbrev mm_Row_tellOne : px_M := nm_m29
abbrev mi_Rule_read : Nat := 30
abbrev mm_Rule_read : px_M := nm_m30
abbrev mi_Table_init : Nat := 31
abbrev mm_Table_init : px_M := nm_m31
abbrev mi_Table_hash : Nat := 32
abbrev mm_Table_hash : px_M := nm_m32
abbrev mi_Table_clear : Nat := 33
abbrev mm_Table_clear : px_M := nm_m33
abbrev mi_Table_add : Nat := 34
abbrev mm_Table_add : px_M := nm_m34
abbrev mi_Table_sittingAt : Nat := 35
abbrev mm_Table_sittingAt : px_M := nm_m35
abbrev mi_Text_init : Nat := 36
abbrev mm_Text_init : px_M := nm_m36
abbrev mi_Text_add : Nat := 37
abbrev mm_Text_add : px_M := nm_m37
abbrev mi_Text_cut : Nat := 38
abbrev mm_Text_cut : px_M := nm_m38
abbrev mi_Text_behind : Nat := 39
abbrev mm_Text_behind : px_M := nm_m39
abbrev mi_Text_firstFault : Nat := 40
abbrev mm_Text_firstFault : px_M := nm_m40
abbrev mi_Town_init : Nat := 41
abbrev mm_Town_init : px_M := nm_m41
abbrev mi_Town_addPerson : Nat := 42
abbrev mm_Town_addPerson : px_M := nm_m42
abbrev mi_Town_addDrawing : Nat := 43
abbrev mm_Town_addDrawing : px_M := nm_m43
abbrev mi_Town_lastDay : Nat := 44
abbrev mm_Town_lastDay : px_M := nm_m44
abbrev mi_Town_clearDebts : Nat := 45
abbrev mm_Town_clearDebts : px_M := nm_m45
abbrev mi_Town_hasPerson : Nat := 46
abbrev mm_Town_hasPerson : px_M := nm_m46
abbrev mi_Town_hasAll : Nat := 47
abbrev mm_Town_hasAll : px_M := nm_m47
abbrev mi_Walk_init : Nat := 48
abbrev mm_Walk_init : px_M := nm_m48
abbrev mi_Walk_start : Nat := 49
abbrev mm_Walk_start : px_M := nm_m49
abbrev mi_Walk_openAll : Nat := 50
abbrev mm_Walk_openAll : px_M := nm_m50
abbrev mi_Walk_drawEach : Nat := 51
abbrev mm_Walk_drawEach : px_M := nm_m51
abbrev mi_Walk_drawAll : Nat := 52
abbrev mm_Walk_drawAll : px_M := nm_m52
abbrev mi_Walk_pass : Nat := 53
abbrev mm_Walk_pass : px_M := nm_m53
abbrev mi_Walk_goOnWith : Nat := 54
abbrev mm_Walk_goOnWith : px_M := nm_m54
abbrev mi_Walk_chanceOfAll : Nat := 55
abbrev mm_Walk_chanceOfAll : px_M := nm_m55
abbrev mi_Walk_chanceOfAny : Nat := 56
abbrev mm_Walk_chanceOfAny : px_M := nm_m56
abbrev mi_X_lastIn : Nat := 57
abbrev mm_X_lastIn : px_M := nm_m57
abbrev mi_Walk_chanceSince : Nat := 58
abbrev mm_Walk_chanceSince : px_M := nm_m58
abbrev mi_Walk_chanceOfFilled : Nat := 59
abbrev mm_Walk_chanceOfFilled : px_M := nm_m59
abbrev mi_Walk_chanceOfLess : Nat := 60
abbrev mm_Walk_chanceOfLess : px_M := nm_m60
abbrev mi_Walk_mayFill : Nat := 61
abbrev mm_Walk_mayFill : px_M := nm_m61
abbrev mi_Walk_whoAlwaysSit : Nat := 62
abbrev mm_Walk_whoAlwaysSit : px_M := nm_m62
abbrev mi_Walk_whoMaySit : Nat := 63
abbrev mm_Walk_whoMaySit : px_M := nm_m63
abbrev mi_Walk_howUnlike : Nat := 64
abbrev mm_Walk_howUnlike : px_M := nm_m64
abbrev mi_X_init : Nat := 65
abbrev mm_X_init : px_M := nm_m65
abbrev mi_X_person : Nat := 66
abbrev mm_X_person : px_M := nm_m66
abbrev mi_X_isDay : Nat := 67
abbrev mm_X_isDay : px_M := nm_m67
abbrev mi_X_debt : Nat := 68
abbrev mm_X_debt : px_M := nm_m68
abbrev mi_X_away : Nat := 69
abbrev mm_X_away : px_M := nm_m69
abbrev mi_X_dies : Nat := 70
abbrev mm_X_dies : px_M := nm_m70
abbrev mi_X_dayOnSheet : Nat := 71
abbrev mm_X_dayOnSheet : px_M := nm_m71
abbrev mi_X_sheet : Nat := 72
abbrev mm_X_sheet : px_M := nm_m72
abbrev mi_X_isBag : Nat := 73
abbrev mm_X_isBag : px_M := nm_m73
abbrev mi_X_pack : Nat := 74
abbrev mm_X_pack : px_M := nm_m74
abbrev mi_X_renew : Nat := 75
abbrev mm_X_renew : px_M := nm_m75
abbrev mi_X_drawing : Nat := 76
abbrev mm_X_drawing : px_M := nm_m76
abbrev mi_X_sign : Nat := 77
abbrev mm_X_sign : px_M := nm_m77
abbrev mi_X_end : Nat := 78
abbrev mm_X_end : px_M := nm_m78
abbrev mi_X_readInto : Nat := 79
abbrev mm_X_readInto : px_M := nm_m79
abbrev mi_X_rule : Nat := 80
abbrev mm_X_rule : px_M := nm_m80
abbrev mi_X_other : Nat := 81
abbrev mm_X_other : px_M := nm_m81
abbrev mi_X_isDrawingLeft : Nat := 82
abbrev mm_X_isDrawingLeft : px_M := nm_m82
abbrev mi_X_readyNow : Nat := 83
abbrev mm_X_readyNow : px_M := nm_m83
abbrev mi_X_bars : Nat := 84
abbrev mm_X_bars : px_M := nm_m84
abbrev mi_X_drawSlip : Nat := 85
abbrev mm_X_drawSlip : px_M := nm_m85
abbrev mi_X_run : Nat := 86
abbrev mm_X_run : px_M := nm_m86
abbrev mi_X_slipAt : Nat := 87
abbrev mm_X_slipAt : px_M := nm_m87
abbrev mi_X_areSlips : Nat := 88
abbrev mm_X_areSlips : px_M := nm_m88
abbrev mi_X_follow : Nat := 89
abbrev mm_X_follow : px_M := nm_m89
abbrev mi_X_judge : Nat := 90
abbrev mm_X_judge : px_M := nm_m90
abbrev mi_X_hold : Nat := 91
abbrev mm_X_hold : px_M := nm_m91
abbrev mi_X_begin : Nat := 92
abbrev mm_X_begin : px_M := nm_m92
abbrev mi_X_bag : Nat := 93
abbrev mm_X_bag : px_M := nm_m93
abbrev mi_X_sat : Nat := 94
abbrev mm_X_sat : px_M := nm_m94
abbrev mi_X_isAhead : Nat := 95
abbrev mm_X_isAhead : px_M := nm_m95
abbrev mi_X_walkBy : Nat := 96
abbrev mm_X_walkBy : px_M := nm_m96
abbrev mi_X_chance : Nat := 97
abbrev mm_X_chance : px_M := nm_m97
abbrev mi_X_each : Nat := 98
abbrev mm_X_each : px_M := nm_m98
abbrev mi_X_ever : Nat := 99
abbrev mm_X_ever : px_M := nm_m99
abbrev mi_X_empty : Nat := 100
abbrev mm_X_empty : px_M := nm_m100
abbrev mi_X_vain : Nat := 101
abbrev mm_X_vain : px_M := nm_m101
abbrev mi_X_house : Nat := 102
abbrev mm_X_house : px_M := nm_m102
abbrev mi_X_ways : Nat := 103
abbrev mm_X_ways : px_M := nm_m103
abbrev mi_X_sure : Nat := 104
abbrev mm_X_sure : px_M := nm_m104
abbrev mi_X_sit : Nat := 105
abbrev mm_X_sit : px_M := nm_m105
abbrev mi_X_known : Nat := 106
abbrev mm_X_known : px_M := nm_m106
abbrev mi_X_canPack : Nat := 107
abbrev mm_X_canPack : px_M := nm_m107
abbrev mi_X_fullestWay : Nat := 108
abbrev mm_X_fullestWay : px_M := nm_m108
abbrev mi_X_packing : Nat := 109
abbrev mm_X_packing : px_M := nm_m109
abbrev mi_X_supposePacked : Nat := 110
abbrev mm_X_supposePacked : px_M := nm_m110
abbrev mi_X_walkPacked : Nat := 111
abbrev mm_X_walkPacked : px_M := nm_m111
abbrev mi_X_best : Nat := 112
abbrev mm_X_best : px_M := nm_m112
abbrev mi_X_never : Nat := 113
abbrev mm_X_never : px_M := nm_m113
abbrev mi_X_even : Nat := 114
abbrev mm_X_even : px_M := nm_m114
abbrev mi_X_fair : Nat := 115
abbrev mm_X_fair : px_M := nm_m115
abbrev mi_X_war : Nat := 116
abbrev mm_X_war : px_M := nm_m116
abbrev mi_X_list : Nat := 117
abbrev mm_X_list : px_M := nm_m117
abbrev mi_X_wipe : Nat := 118
abbrev mm_X_wipe : px_M := nm_m118
abbrev mi_X_walkAsListed : Nat := 119
abbrev mm_X_walkAsListed : px_M := nm_m119
abbrev mi_X_old : Nat := 120
abbrev mm_X_old : px_M := nm_m120
abbrev mi_X_seldom : Nat := 121
abbrev mm_X_seldom : px_M := nm_m121
abbrev mi_X_seed : Nat := 122
abbrev mm_X_seed : px_M := nm_m122
abbrev mi_X_keep : Nat := 123
abbrev mm_X_keep : px_M := nm_m123
abbrev mi_X_again : Nat := 124
abbrev mm_X_again : px_M := nm_m124
abbrev mi_X_count : Nat := 125
abbrev mm_X_count : px_M := nm_m125
abbrev mi_X_row : Nat := 126
abbrev mm_X_row : px_M := nm_m126
abbrev mi_M_in : Nat := 127
abbrev mm_M_in : px_M := nm_m127
abbrev mi_M_has : Nat := 128
abbrev mm_M_has : px_M := nm_m128
abbrev mi_M_flag : Nat := 129
abbrev mm_M_flag : px_M := nm_m129
abbrev mi_M_enters : Nat := 130
abbrev mm_M_enters : px_M := nm_m130
abbrev mi_M_isPerson : Nat := 131
abbrev mm_M_isPerson : px_M := nm_m131
abbrev mi_M_isSet : Nat := 132
abbrev mm_M_isSet : px_M := nm_m132
abbrev mi_M_person : Nat := 133
abbrev mm_M_person : px_M := nm_m133
abbrev mi_M_debt : Nat := 134
abbrev mm_M_debt : px_M := nm_m134
abbrev mi_M_away : Nat := 135
abbrev mm_M_away : px_M := nm_m135
abbrev mi_M_dies : Nat := 136
abbrev mm_M_dies : px_M := nm_m136
abbrev mi_M_sheet : Nat := 137
abbrev mm_M_sheet : px_M := nm_m137
abbrev mi_M_isBag : Nat := 138
abbrev mm_M_isBag : px_M := nm_m138
abbrev mi_M_pack : Nat := 139
abbrev mm_M_pack : px_M := nm_m139
abbrev mi_M_renew : Nat := 140
abbrev mm_M_renew : px_M := nm_m140
abbrev mi_M_drawing : Nat := 141
abbrev mm_M_drawing : px_M := nm_m141
abbrev mi_M_sign : Nat := 142
abbrev mm_M_sign : px_M := nm_m142
abbrev mi_M_end : Nat := 143
abbrev mm_M_end : px_M := nm_m143
abbrev mi_M_comes : Nat := 144
abbrev mm_M_comes : px_M := nm_m144
abbrev mi_M_readsLine : Nat := 145
abbrev mm_M_readsLine : px_M := nm_m145
abbrev mi_M_readsRule : Nat := 146
abbrev mm_M_readsRule : px_M := nm_m146
abbrev mi_M_rule : Nat := 147
abbrev mm_M_rule : px_M := nm_m147
abbrev mi_M_other : Nat := 148
abbrev mm_M_other : px_M := nm_m148
abbrev mi_M_isDead : Nat := 149
abbrev mm_M_isDead : px_M := nm_m149
abbrev mi_M_doesBar : Nat := 150
abbrev mm_M_doesBar : px_M := nm_m150
abbrev mi_M_barredBy : Nat := 151
abbrev mm_M_barredBy : px_M := nm_m151
abbrev mi_M_opens : Nat := 152
abbrev mm_M_opens : px_M := nm_m152
abbrev mi_M_isOver : Nat := 153
abbrev mm_M_isOver : px_M := nm_m153
abbrev mi_M_takes : Nat := 154
abbrev mm_M_takes : px_M := nm_m154
abbrev mi_M_closes : Nat := 155
abbrev mm_M_closes : px_M := nm_m155
abbrev mi_M_isAsBefore : Nat := 156
abbrev mm_M_isAsBefore : px_M := nm_m156
abbrev mi_M_first : Nat := 157
abbrev mm_M_first : px_M := nm_m157
abbrev mi_M_second : Nat := 158
abbrev mm_M_second : px_M := nm_m158
abbrev mi_M_unpacks : Nat := 159
abbrev mm_M_unpacks : px_M := nm_m159
abbrev mi_M_remembers : Nat := 160
abbrev mm_M_remembers : px_M := nm_m160
abbrev mi_M_comesBack : Nat := 161
abbrev mm_M_comesBack : px_M := nm_m161
abbrev mi_M_draws : Nat := 162
abbrev mm_M_draws : px_M := nm_m162
abbrev mi_M_nth : Nat := 163
abbrev mm_M_nth : px_M := nm_m163
abbrev mi_M_bars : Nat := 164
abbrev mm_M_bars : px_M := nm_m164
abbrev mi_M_run : Nat := 165
abbrev mm_M_run : px_M := nm_m165
abbrev mi_M_goesBy : Nat := 166
abbrev mm_M_goesBy : px_M := nm_m166
abbrev mi_M_judge : Nat := 167
abbrev mm_M_judge : px_M := nm_m167
abbrev mi_M_hold : Nat := 168
abbrev mm_M_hold : px_M := nm_m168
abbrev mi_M_begin : Nat := 169
abbrev mm_M_begin : px_M := nm_m169
abbrev mi_M_bag : Nat := 170
abbrev mm_M_bag : px_M := nm_m170
abbrev mi_M_sat : Nat := 171
abbrev mm_M_sat : px_M := nm_m171
abbrev mi_M_empties : Nat := 172
abbrev mm_M_empties : px_M := nm_m172
abbrev mi_M_placeOf : Nat := 173
abbrev mm_M_placeOf : px_M := nm_m173
abbrev mi_M_adds : Nat := 174
abbrev mm_M_adds : px_M := nm_m174
abbrev mi_M_looksAt : Nat := 175
abbrev mm_M_looksAt : px_M := nm_m175
abbrev mi_M_opensAll : Nat := 176
abbrev mm_M_opensAll : px_M := nm_m176
abbrev mi_M_drawsFrom : Nat := 177
abbrev mm_M_drawsFrom : px_M := nm_m177
abbrev mi_M_parts : Nat := 178
abbrev mm_M_parts : px_M := nm_m178
abbrev mi_M_goesThrough : Nat := 179
abbrev mm_M_goesThrough : px_M := nm_m179
abbrev mi_M_reaches : Nat := 180
abbrev mm_M_reaches : px_M := nm_m180
abbrev mi_M_reachesNow : Nat := 181
abbrev mm_M_reachesNow : px_M := nm_m181
abbrev mi_M_satAt : Nat := 182
abbrev mm_M_satAt : px_M := nm_m182
abbrev mi_M_notes : Nat := 183
abbrev mm_M_notes : px_M := nm_m183
abbrev mi_M_isLeft : Nat := 184
abbrev mm_M_isLeft : px_M := nm_m184
abbrev mi_M_endPart : Nat := 185
abbrev mm_M_endPart : px_M := nm_m185
abbrev mi_M_anyOf : Nat := 186
abbrev mm_M_anyOf : px_M := nm_m186
abbrev mi_M_asks : Nat := 187
abbrev mm_M_asks : px_M := nm_m187
abbrev mi_M_chance : Nat := 188
abbrev mm_M_chance : px_M := nm_m188
abbrev mi_M_each : Nat := 189
abbrev mm_M_each : px_M := nm_m189
abbrev mi_M_ever : Nat := 190
abbrev mm_M_ever : px_M := nm_m190
abbrev mi_M_filled : Nat := 191
abbrev mm_M_filled : px_M := nm_m191
abbrev mi_M_empty : Nat := 192
abbrev mm_M_empty : px_M := nm_m192
abbrev mi_M_vain : Nat := 193
abbrev mm_M_vain : px_M := nm_m193
abbrev mi_M_housed : Nat := 194
abbrev mm_M_housed : px_M := nm_m194
abbrev mi_M_house : Nat := 195
abbrev mm_M_house : px_M := nm_m195
abbrev mi_M_ways : Nat := 196
abbrev mm_M_ways : px_M := nm_m196
abbrev mi_M_sureBits : Nat := 197
abbrev mm_M_sureBits : px_M := nm_m197
abbrev mi_M_someBits : Nat := 198
abbrev mm_M_someBits : px_M := nm_m198
abbrev mi_M_sure : Nat := 199
abbrev mm_M_sure : px_M := nm_m199
abbrev mi_M_sit : Nat := 200
abbrev mm_M_sit : px_M := nm_m200
abbrev mi_M_known : Nat := 201
abbrev mm_M_known : px_M := nm_m201
abbrev mi_M_tries : Nat := 202
abbrev mm_M_tries : px_M := nm_m202
abbrev mi_M_isPacking : Nat := 203
abbrev mm_M_isPacking : px_M := nm_m203
abbrev mi_M_packing : Nat := 204
abbrev mm_M_packing : px_M := nm_m204
abbrev mi_M_best : Nat := 205
abbrev mm_M_best : px_M := nm_m205
abbrev mi_M_never : Nat := 206
abbrev mm_M_never : px_M := nm_m206
abbrev mi_M_unlike : Nat := 207
abbrev mm_M_unlike : px_M := nm_m207
abbrev mi_M_even : Nat := 208
abbrev mm_M_even : px_M := nm_m208
abbrev mi_M_fair : Nat := 209
abbrev mm_M_fair : px_M := nm_m209
abbrev mi_M_sumBelow : Nat := 210
abbrev mm_M_sumBelow : px_M := nm_m210
abbrev mi_M_war : Nat := 211
abbrev mm_M_war : px_M := nm_m211
abbrev mi_M_list : Nat := 212
abbrev mm_M_list : px_M := nm_m212
abbrev mi_M_wipe : Nat := 213
abbrev mm_M_wipe : px_M := nm_m213
abbrev mi_M_keepsListed : Nat := 214
abbrev mm_M_keepsListed : px_M := nm_m214
abbrev mi_M_lets : Nat := 215
abbrev mm_M_lets : px_M := nm_m215
abbrev mi_M_old : Nat := 216
abbrev mm_M_old : px_M := nm_m216
abbrev mi_M_seldom : Nat := 217
abbrev mm_M_seldom : px_M := nm_m217
abbrev mi_M_seed : Nat := 218
abbrev mm_M_seed : px_M := nm_m218
abbrev mi_M_keep : Nat := 219
abbrev mm_M_keep : px_M := nm_m219
abbrev mi_M_again : Nat := 220
abbrev mm_M_again : px_M := nm_m220
abbrev mi_M_toldBits : Nat := 221
abbrev mm_M_toldBits : px_M := nm_m221
abbrev mi_M_count : Nat := 222
abbrev mm_M_count : px_M := nm_m222
abbrev mi_M_init : Nat := 223
abbrev mm_M_init : px_M := nm_m223
abbrev mi_M_row : Nat := 224
abbrev mm_M_row : px_M := nm_m224
end mg_2

section mg_3
abbrev nm_nse : String := "java/util/NoSuchElementException"
abbrev nm_sup : List String := ["java/lang/RuntimeException", "java/lang/Exception"]
abbrev nm_rpc : Nat := 1666
abbrev nm_rix : Nat := 200
abbrev nm_vix : Nat := 7
abbrev nm_kix : Nat := 13
abbrev nm_xik : Nat := 348
abbrev nm_xic : Nat := 350
abbrev nm_lhh : List (Nat × Nat × Nat × Nat) := [(0, 8, 11, 13)]
abbrev nm_ly : MethodName := ⟨"NamesInBagsLaw", "row", "(LNamesInBags;I[J)I"⟩
def nm_isD : Cond → Bool
  | .declares _ => true
  | .castable _ _ => true
  | _ => false
set_option maxRecDepth 1000000 in
theorem nm_x1 : ∀ w ∈ vx_at0 "NamesInBags" nm_xic nm_nse nm_sup, goodWord w = true ∨ nm_isD w = true := by decide +kernel
set_option maxRecDepth 1000000 in
theorem nm_x0 : ∀ w ∈ vx_at0 "NamesInBags" nm_xic nm_nse nm_sup, w ∈ lw_tbl := by decide +kernel
set_option maxRecDepth 1000000 in
theorem nm_x2 : ∀ w ∈ Cond.classLink "NamesInBags" nm_xik nm_nse :: Cond.initialized nm_nse :: vx_at0 "NamesInBags" nm_xic nm_nse nm_sup, vx_ot w = true := by decide +kernel
abbrev nm_xws : List Cond := [Cond.classLink "NamesInBags" nm_xik nm_nse, Cond.initialized nm_nse, Cond.classLink "NamesInBagsLaw" nm_kix nm_nse, Cond.codeWith nm_ly (px_by nm_lrow1) 4 (some .int) nm_lhh, Cond.methodLink "NamesInBagsLaw" nm_rix nm_ly, Cond.static nm_ly, Cond.initialized "NamesInBagsLaw", Cond.initialized Bundle.tN]
set_option maxRecDepth 1000000 in
theorem nm_x3 : ∀ w ∈ nm_xws, w ∈ lw_tbl ∧ goodWord w = true := by decide +kernel
set_option maxRecDepth 1000000 in
theorem nm_x4 : ∀ w ∈ [Cond.laysStatic Bundle.tN "UNASSIGNED_STACK" Bundle.steD, Cond.laysStatic Bundle.tN "SUPPRESSED_SENTINEL" Bundle.listD], w ∈ lw_tbl := by decide +kernel
theorem nm_x5 : Cond.methodLink "NamesInBagsLaw" nm_vix (px_nm nm_xrow1) ∈ nm_ALL := nm_C11_A (1, [11, nm_vix, 126], 0) (by decide +kernel)
theorem nm_x6 : Cond.instanceMethod (px_nm nm_xrow1) ∈ nm_ALL := nm_C11_A (3, [126], 0) (by decide +kernel)
theorem nm_x7 : Cond.selects (px_nm nm_xrow1).cls (px_nm nm_xrow1) (px_nm nm_xrow1) ∈ nm_ALL := nm_C11_A (5, [126], 0) (by decide +kernel)
theorem nm_x8 : Cond.initialized (px_nm nm_xrow1).cls ∈ nm_ALL := nm_C11_A (6, [126], 0) (by decide +kernel)
theorem nm_x9 : Cond.code (px_nm nm_xrow1) (px_by nm_xrow1) (px_ml nm_xrow1) (px_rt nm_xrow1) ∈ nm_ALL := nm_C11_A (2, [126], 0) (by decide +kernel)
end mg_3

section mg_4
/-! NamesInBagsModel.empties: the hash's part of a table is -1, its size 0 -/
theorem nm_ofNat_toInt (k : Nat) (h : k < 2147483648) : (Int32.ofNat k).toInt = k := by
  rw [Int32.toInt_ofNat', show Int32.size = 4294967296 from rfl]
  apply Int.bmod_eq_of_le <;> omega
theorem nm_ofNat_clamp (k : Nat) (h : k < 2147483648) : (Int32.ofNat k).toNatClampNeg = k := by
  unfold Int32.toNatClampNeg
  rw [nm_ofNat_toInt k h]
  rfl
theorem nm_emp_idx (tn k : Nat) (h : tn ≤ 2) (hk : k < 8192) : Int32.ofNat tn * (Int16.ofInt 8192).toInt32 + Int32.ofNat k = Int32.ofNat (tn * 8192 + k) := by
  rw [show (Int16.ofInt 8192).toInt32 = Int32.ofNat 8192 from by decide, ← Int32.ofNat_mul, ← Int32.ofNat_add]
theorem nm_emp_loop {ch th a tn : Nat} {fs : List Value} {hp1 : px_H} (htn : tn ≤ 2) (ha : hp1[a]? = some (.inr (9, fs))) (hne : ch ≠ a) (hch : ch < hp1.length) (hfs : fs[44]? = some (.ref ch)) (ht : nm_T.1[th]? = some .int) :
    ∀ (d k lo : Nat) (f : Nat → Int32), k + d = 8192 → lo = tn * 8192 + k → px_Z nm_T none nm_P mm_M_empties 9 [(2, .int (Int32.ofNat k)), (0, .ref a), (1, .int (Int32.ofNat tn))] [] (hp1.set ch (.inl (th, 24576, .inl f))) none
      (hp1.set ch (.inl (th, 24576, .inl (fun j => if lo ≤ j ∧ j < tn * 8192 + 8192 then -1 else f j)))) := by
  intro d
  induction d with
  | zero =>
    intro k lo f hk hlo
    have hk : k = 8192 := by omega
    subst hk
    subst hlo
    have hfe : (fun j => if tn * 8192 + 8192 ≤ j ∧ j < tn * 8192 + 8192 then -1 else f j) = f := by
      funext j
      rw [if_neg (by omega)]
    rw [hfe]
    refine px_Z_its (pc1 := 13) (lv1 := [(2, .int (Int32.ofNat 8192)), (0, .ref a), (1, .int (Int32.ofNat tn))]) (st1 := [.int (Int16.ofInt 8192).toInt32, .int (Int32.ofNat 8192)]) (hp1 := hp1.set ch (.inl (th, 24576, .inl f))) 2 (fun _ _ _ _ => rfl) ?_
    refine px_q_icmp (bb := true) (len := 3) (c := .ge) (off := 22) rfl (by decide) ?_
    exact px_q_ret (len := 1) rfl rfl
  | succ d ih =>
    intro k lo f hk hlo
    subst hlo
    have hk2 : k < 8192 := by omega
    have hidx := nm_emp_idx tn k htn hk2
    have hcl := nm_ofNat_clamp (tn * 8192 + k) (by omega)
    refine px_Z_its (pc1 := 13) (lv1 := [(2, .int (Int32.ofNat k)), (0, .ref a), (1, .int (Int32.ofNat tn))]) (st1 := [.int (Int16.ofInt 8192).toInt32, .int (Int32.ofNat k)]) (hp1 := hp1.set ch (.inl (th, 24576, .inl f))) 2 (fun _ _ _ _ => rfl) ?_
    refine px_q_icmp (bb := false) (len := 3) (c := .ge) (off := 22) rfl ?_ ?_
    · simp only [px_cmp, decide_eq_false_iff_not, Int32.le_iff_toInt_le, nm_ofNat_toInt k (by omega)]
      rw [show (Int16.ofInt 8192).toInt32.toInt = 8192 from by decide]
      omega
    refine px_Z_its (pc1 := 17) (lv1 := [(2, .int (Int32.ofNat k)), (0, .ref a), (1, .int (Int32.ofNat tn))]) (st1 := [.ref a]) (hp1 := hp1.set ch (.inl (th, 24576, .inl f))) 1 (fun _ _ _ _ => rfl) ?_
    refine px_q_get (len := 3) (idx := 260) (ci := 9) (k := 44) (fl := 3) (fs := fs) (v := .ref ch) rfl rfl (by rw [List.getElem?_set_ne hne]; exact ha) hfs ?_
    refine px_Z_its (pc1 := 28) (lv1 := [(2, .int (Int32.ofNat k)), (0, .ref a), (1, .int (Int32.ofNat tn))]) (st1 := [.int (Int32.ofInt (-1)), .int (Int32.ofNat tn * (Int16.ofInt 8192).toInt32 + Int32.ofNat k), .ref ch]) (hp1 := hp1.set ch (.inl (th, 24576, .inl f))) 6 (fun _ _ _ _ => rfl) ?_
    rw [hidx]
    refine px_q_iast (len := 1) (t := th) (n := 24576) (f := f) rfl (List.getElem?_set_self hch) ht ?_ ?_
    · simp only [px_inR, Bool.and_eq_true, decide_eq_true_eq, nm_ofNat_toInt (tn * 8192 + k) (by omega)]
      omega
    rw [List.set_set, hcl]
    refine px_Z_its (pc1 := 9) (lv1 := [(2, .int (Int32.ofNat k + Int32.ofInt 1)), (0, .ref a), (1, .int (Int32.ofNat tn))]) (st1 := []) (hp1 := hp1.set ch (.inl (th, 24576, .inl (upd f (tn * 8192 + k) (Int32.ofInt (-1)))))) 2 (fun _ _ _ _ => rfl) ?_
    rw [show Int32.ofNat k + Int32.ofInt 1 = Int32.ofNat (k + 1) from by rw [Int32.ofNat_add]; rfl]
    have h1 := ih (k + 1) (tn * 8192 + (k + 1)) (upd f (tn * 8192 + k) (Int32.ofInt (-1))) (by omega) rfl
    have hfe : (fun j => if tn * 8192 + (k + 1) ≤ j ∧ j < tn * 8192 + 8192 then -1 else upd f (tn * 8192 + k) (Int32.ofInt (-1)) j) = (fun j => if tn * 8192 + k ≤ j ∧ j < tn * 8192 + 8192 then -1 else f j) := by
      funext j
      unfold upd
      by_cases hj : j = tn * 8192 + k
      · subst hj
        rw [if_neg (by omega), if_pos rfl, if_pos (by omega)]
        rfl
      · rw [if_neg hj]
        by_cases h2 : tn * 8192 + (k + 1) ≤ j ∧ j < tn * 8192 + 8192
        · rw [if_pos h2, if_pos (by omega)]
        · rw [if_neg h2, if_neg (by omega)]
    rw [hfe] at h1
    exact h1
/-- what empties does -/
def nm_empH (hp : px_H) (cs ts ch th tn : Nat) (g f : Nat → Int32) : px_H :=
  (hp.set cs (.inl (ts, 3, .inl (upd g tn (Int32.ofInt 0))))).set ch (.inl (th, 24576, .inl (fun j => if tn * 8192 ≤ j ∧ j < tn * 8192 + 8192 then -1 else f j)))
theorem nm_emp {a cs ts ch th tn : Nat} {fs : List Value} {hp : px_H} {g f : Nat → Int32} (htn : tn ≤ 2) (ha : hp[a]? = some (.inr (9, fs))) (h43 : fs[43]? = some (.ref cs)) (h44 : fs[44]? = some (.ref ch))
    (hcs : hp[cs]? = some (.inl (ts, 3, .inl g))) (hch : hp[ch]? = some (.inl (th, 24576, .inl f))) (hts : nm_T.1[ts]? = some .int) (hth : nm_T.1[th]? = some .int) (hne : ch ≠ cs) :
    px_C nm_T nm_P mi_M_empties [.ref a, .int (Int32.ofNat tn)] hp none (nm_empH hp cs ts ch th tn g f) := by
  have h1 : cs ≠ a := fun h => by rw [h, ha] at hcs; cases hcs
  have h2 : ch ≠ a := fun h => by rw [h, ha] at hch; cases hch
  have hlc : ch < hp.length := (List.getElem?_eq_some_iff.mp hch).1
  refine px_C_of (N := mm_M_empties) rfl (Nat.le_of_ble_eq_true rfl) ?_
  refine px_Z_its (pc1 := 1) (lv1 := [(0, .ref a), (1, .int (Int32.ofNat tn))]) (st1 := [.ref a]) (hp1 := hp) 1 (fun _ _ _ _ => rfl) ?_
  refine px_q_get (len := 3) (idx := 257) (ci := 9) (k := 43) (fl := 3) (fs := fs) (v := .ref cs) rfl rfl ha h43 ?_
  refine px_Z_its (pc1 := 6) (lv1 := [(0, .ref a), (1, .int (Int32.ofNat tn))]) (st1 := [.int (Int32.ofInt 0), .int (Int32.ofNat tn), .ref cs]) (hp1 := hp) 2 (fun _ _ _ _ => rfl) ?_
  refine px_q_iast (len := 1) (t := ts) (n := 3) (f := g) rfl hcs hts ?_ ?_
  · simp only [px_inR, Bool.and_eq_true, decide_eq_true_eq, nm_ofNat_toInt tn (by omega)]
    omega
  rw [nm_ofNat_clamp tn (by omega)]
  refine px_Z_its (pc1 := 9) (lv1 := [(2, .int (Int32.ofNat 0)), (0, .ref a), (1, .int (Int32.ofNat tn))]) (st1 := []) (hp1 := hp.set cs (.inl (ts, 3, .inl (upd g tn (Int32.ofInt 0))))) 2 (fun _ _ _ _ => rfl) ?_
  have hhp : hp.set cs (.inl (ts, 3, .inl (upd g tn (Int32.ofInt 0)))) = (hp.set cs (.inl (ts, 3, .inl (upd g tn (Int32.ofInt 0))))).set ch (.inl (th, 24576, .inl f)) := by
    have h9 : (hp.set cs (.inl (ts, 3, .inl (upd g tn (Int32.ofInt 0)))))[ch]? = some (.inl (th, 24576, .inl f)) := by rw [List.getElem?_set_ne (Ne.symm hne)]; exact hch
    obtain ⟨h10, h11⟩ := List.getElem?_eq_some_iff.mp h9
    rw [← h11, List.set_getElem_self]
  rw [hhp]
  have h3 := nm_emp_loop (ch := ch) (th := th) (a := a) (tn := tn) (fs := fs) (hp1 := hp.set cs (.inl (ts, 3, .inl (upd g tn (Int32.ofInt 0))))) htn (by rw [List.getElem?_set_ne h1]; exact ha) h2 (by rw [List.length_set]; exact hlc) h44 hth 8192 0 (tn * 8192) f (by omega) (Nat.add_zero _).symm
  exact h3
end mg_4
