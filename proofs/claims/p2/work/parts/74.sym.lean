/-! CONTRACTS over the pure machine -/
/-- from this place the method ends with this answer and heap -/
def px_Z (T : px_T) (X : Option (Nat × (Nat → Int32))) (P : List px_M) (M : px_M) (pc : Nat) (lv : List (Nat × Value)) (st : List Value) (hp : px_H) (r : Option Value) (hp' : px_H) : Prop :=
  ∃ n0 k : Nat, ∀ n, n0 ≤ n → ∀ N0 nc ns : Nat, nc ≤ (px_rm M).cells → ns ≤ (px_rm M).slots → px_run T X P (px_call T P ab_nn n) M N0 k (pc, lv, st, hp, nc, ns) = some (r, hp')
/-- a call ends with this answer and heap -/
def px_C (T : px_T) (P : List px_M) (mi : Nat) (av : List Value) (hp : px_H) (r : Option Value) (hp' : px_H) : Prop := ∃ n0 : Nat, ∀ n, n0 ≤ n → px_call T P ab_nn n mi av hp = some (r, hp')
section px_q1
variable {T : px_T} {X : Option (Nat × (Nat → Int32))} {P : List px_M} {M : px_M}
variable {pc pc1 len : Nat} {lv lv1 : List (Nat × Value)} {st st1 : List Value} {hp hp1 hp' : px_H} {r : Option Value}
theorem px_C_of {N : px_M} {mi : Nat} {av : List Value} (hN : P[mi]? = some N) (hl : (lg_sl av).length ≤ px_ml N) (h : px_Z T none P N 0 (lv_args 0 av) [] hp r hp') : px_C T P mi av hp r hp' := ab_call_ok hN hl h
theorem px_Z_its (k : Nat) (h : ∀ (call : Nat → List Value → px_H → Option px_A) (N0 nc ns : Nat), px_its T X P call M N0 k (pc, lv, st, hp, nc, ns) = some (pc1, lv1, st1, hp1, nc, ns)) (hR : px_Z T X P M pc1 lv1 st1 hp1 r hp') : px_Z T X P M pc lv st hp r hp' := by
  obtain ⟨n0, k2, h2⟩ := hR
  exact ⟨n0, k + k2, fun n hn N0 nc ns q1 q2 => px_its_run k (h _ N0 nc ns) (h2 n hn N0 nc ns q1 q2)⟩
theorem px_q_get {idx ci k a : Nat} {fl : Int} {fs : List Value} {v : Value} (hf : px_find pc (px_cd M) = some (len, .getfield idx)) (hj : px_find idx (px_cp M) = some (0, ci, k, fl)) (hx : hp[a]? = some (.inr (ci, fs))) (hv : fs[k]? = some v)
    (hR : px_Z T X P M (pc + len) lv (v :: st) hp r hp') : px_Z T X P M pc lv (.ref a :: st) hp r hp' :=
  px_Z_its 1 (fun call N0 nc ns => by simp only [px_its, px_step, hf, px_alu, hj, hx, Nat.beq_refl, hv]) hR
theorem px_q_iast {a t n : Nat} {f : Nat → Int32} {j x : Int32} (hf : px_find pc (px_cd M) = some (len, .iastore)) (hx : hp[a]? = some (.inl (t, n, .inl f))) (ht : T.1[t]? = some .int) (hj : px_inR j n = true)
    (hR : px_Z T X P M (pc + len) lv st (hp.set a (.inl (t, n, .inl (upd f j.toNatClampNeg x)))) r hp') : px_Z T X P M pc lv (.int x :: .int j :: .ref a :: st) hp r hp' :=
  px_Z_its 1 (fun call N0 nc ns => by simp only [px_its, px_step, hf, px_alu, px_ast, hx, ht, hj, Option.map_some]) hR
theorem px_q_icmp {c : ClassFile.Cond} {off : Int} {x y : Int32} {bb : Bool} (hf : px_find pc (px_cd M) = some (len, .if_icmp c off)) (hc : px_cmp c x y = bb)
    (hR : px_Z T X P M (bif bb then px_tgt pc off else pc + 3) lv st hp r hp') : px_Z T X P M pc lv (.int y :: .int x :: st) hp r hp' :=
  px_Z_its 1 (fun call N0 nc ns => by cases bb <;> simp only [px_its, px_step, hf, px_alu, hc, cond_true, cond_false]) hR
theorem px_q_if {c : ClassFile.Cond} {off : Int} {x : Int32} {bb : Bool} (hf : px_find pc (px_cd M) = some (len, .ifCond c off)) (hc : px_cmp c x 0 = bb)
    (hR : px_Z T X P M (bif bb then px_tgt pc off else pc + 3) lv st hp r hp') : px_Z T X P M pc lv (.int x :: st) hp r hp' :=
  px_Z_its 1 (fun call N0 nc ns => by cases bb <;> simp only [px_its, px_step, hf, px_alu, hc, cond_true, cond_false]) hR
theorem px_q_ret (hf : px_find pc (px_cd M) = some (len, .return_)) (hr : px_rt M = none) : px_Z T X P M pc lv [] hp none hp :=
  ⟨0, 1, fun n _ N0 nc ns q1 q2 => by simp only [px_run, px_step, hf, px_alu, hr, decide_eq_true q1, decide_eq_true q2]⟩
end px_q1
section px_q2
variable {T : px_T} {X : Option (Nat × (Nat → Int32))} {P : List px_M} {M : px_M} {N0 pc len nc ns : Nat} {lv : List (Nat × Value)} {st : List Value} {hp hp1 : px_H} {r : Option Value} {call : Nat → List Value → px_H → Option px_A}
theorem px_i_virt {idx mi n a : Nat} {ci : Int} {fs : List Value} {N : px_M} (hf : px_find pc (px_cd M) = some (len, .invokevirtual idx)) (hj : px_find idx (px_cp M) = some (1, mi, n, ci)) (hn : st[n]? = some (.ref a)) (hx : hp[a]? = some (.inr (ci.toNat, fs))) (hN : P[mi]? = some N)
    (hl : n + 1 ≤ st.length) (h8 : ((st.drop (n + 1)).map fun v => v.category).sum ≤ 8) (hce : (px_rm N).cells = 0) (hsl : (px_rm N).slots = 0) (hcall : call mi (st.take (n + 1)).reverse hp = some (r, hp1)) (q1 : nc ≤ (px_rm M).cells) (q2 : ns ≤ (px_rm M).slots) :
    px_step T X P call M N0 (pc, lv, st, hp, nc, ns) = some (.inl (pc + 3, lv, r.toList ++ st.drop (n + 1), hp1, nc, ns)) := by
  simp only [px_step, hf, px_alu, hj, hn, hx, Nat.beq_refl, hN, decide_eq_true hl, decide_eq_true h8, hce, hsl, Nat.add_zero, decide_eq_true q1, decide_eq_true q2, true_or, decide_true, hcall]
end px_q2
/-! 'Spc': contracts of methods that a pure call may stand on -/
section px_q3
variable {T : px_T} {X : Option (Nat × (Nat → Int32))} {P : List px_M}
set_option maxHeartbeats 8000000 in
/-- a step asks at most one call -/
theorem px_step_dep {c1 : Nat → List Value → px_H → Option px_A} {M : px_M} {N0 : Nat} {S : px_S} {x : px_S ⊕ px_A} (h : px_step T X P c1 M N0 S = some x) :
    ∃ (mi : Nat) (av : List Value) (hq : px_H), ∀ c : Nat → List Value → px_H → Option px_A, (∀ r, c1 mi av hq = some r → c mi av hq = some r) → px_step T X P c M N0 S = some x := by
  obtain ⟨pc, lv, st, hp, nc, ns⟩ := S
  unfold px_step at h
  simp only at h
  rcases hf : px_find pc (px_cd M) with _ | ⟨len, i⟩
  · rw [hf] at h; cases h
  rw [hf] at h
  simp only at h
  rcases ha : px_alu i st with _ | st'
  · rw [ha] at h
    have go : ∀ (n mi : Nat) (c : Nat → List Value → px_H → Option px_A), (∀ r, c1 mi (st.take n).reverse hp = some r → c mi (st.take n).reverse hp = some r) →
        ((match P[mi]? with
          | none => none
          | some N => match decide (n ≤ st.length), decide (((st.drop n).map fun v => v.category).sum ≤ 8), decide (nc + (px_rm N).cells ≤ (px_rm M).cells), decide (ns + (px_rm N).slots ≤ (px_rm M).slots), decide ((px_rm N).cells = 0 ∨ hp.length = N0 + nc) with
            | true, true, true, true, true => match c1 mi (st.take n).reverse hp with
              | none => none
              | some (r, hp') => some (.inl (pc + 3, lv, r.toList ++ st.drop n, hp', nc + (px_rm N).cells, ns + (px_rm N).slots))
            | _, _, _, _, _ => none : Option (px_S ⊕ px_A)) = some x) →
        ((match P[mi]? with
          | none => none
          | some N => match decide (n ≤ st.length), decide (((st.drop n).map fun v => v.category).sum ≤ 8), decide (nc + (px_rm N).cells ≤ (px_rm M).cells), decide (ns + (px_rm N).slots ≤ (px_rm M).slots), decide ((px_rm N).cells = 0 ∨ hp.length = N0 + nc) with
            | true, true, true, true, true => match c mi (st.take n).reverse hp with
              | none => none
              | some (r, hp') => some (.inl (pc + 3, lv, r.toList ++ st.drop n, hp', nc + (px_rm N).cells, ns + (px_rm N).slots))
            | _, _, _, _, _ => none : Option (px_S ⊕ px_A)) = some x) := by
      intro n mi c hc h1
      rcases h9 : c1 mi (st.take n).reverse hp with _ | q
      · simp only [h9] at h1
        split at h1
        · cases h1
        · split at h1 <;> cases h1
      · rw [h9] at h1
        rw [hc q h9]
        exact h1
    cases i
    case invokevirtual idx =>
      simp only at h
      split at h
      · rename_i mi n ci hj
        split at h
        · rename_i a hn
          split at h
          · rename_i c0 fs hq
            split at h
            · rename_i hb
              exact ⟨mi, (st.take (n + 1)).reverse, hp, fun c hc => by
                unfold px_step
                simp only [hf, ha, hj, hn, hq, hb]
                exact go (n + 1) mi c hc h⟩
            · cases h
          · cases h
        · cases h
      · cases h
    case invokestatic idx =>
      simp only at h
      split at h
      · rename_i mi n z hj
        exact ⟨mi, (st.take n).reverse, hp, fun c hc => by
          unfold px_step
          simp only [hf, ha, hj]
          exact go n mi c hc h⟩
      · rename_i w z1 z2 hj
        exact ⟨0, [], [], fun c _ => by
          unfold px_step
          simp only [hf, ha, hj]
          exact h⟩
      · cases h
    case invokespecial idx =>
      simp only at h
      split at h
      · rename_i z1 z2 z3 hj
        exact ⟨0, [], [], fun c _ => by
          unfold px_step
          simp only [hf, ha, hj]
          exact h⟩
      · rename_i mi n z hj
        split at h
        · rename_i a hn
          exact ⟨mi, (st.take (n + 1)).reverse, hp, fun c hc => by
            unfold px_step
            simp only [hf, ha, hj, hn]
            exact go (n + 1) mi c hc h⟩
        · cases h
      · cases h
    all_goals
      exact ⟨0, [], [], fun c _ => by
        unfold px_step
        simp only [hf, ha]
        exact h⟩
  · rw [ha] at h
    exact ⟨0, [], [], fun c _ => by
      unfold px_step
      simp only [hf, ha]
      exact h⟩
theorem px_spc_run {c1 : Nat → List Value → px_H → Option px_A} (hc : ∀ mi av hp r, c1 mi av hp = some r → px_C T P mi av hp r.1 r.2) (M : px_M) (N0 : Nat) : ∀ (k : Nat) (S : px_S) (r : px_A), px_run T X P c1 M N0 k S = some r →
    ∃ n0 : Nat, ∀ n, n0 ≤ n → px_run T X P (px_call T P ab_nn n) M N0 k S = some r := by
  intro k
  induction k with
  | zero => intro S r h; cases h
  | succ k ih =>
    intro S r h
    unfold px_run at h
    have hstep : ∀ x, px_step T X P c1 M N0 S = some x → ∃ n0 : Nat, ∀ n, n0 ≤ n → px_step T X P (px_call T P ab_nn n) M N0 S = some x := by
      intro x hx
      obtain ⟨mi, av, hq, hd⟩ := px_step_dep hx
      rcases h9 : c1 mi av hq with _ | q
      · exact ⟨0, fun n _ => hd _ (fun r hr => by rw [h9] at hr; cases hr)⟩
      · obtain ⟨n0, h0⟩ := hc mi av hq q h9
        exact ⟨n0, fun n hn => hd _ (fun r hr => by rw [h9] at hr; cases hr; exact h0 n hn)⟩
    split at h
    · cases h
    · rename_i S' hs
      obtain ⟨n1, h1⟩ := hstep _ hs
      obtain ⟨n2, h2⟩ := ih S' r h
      exact ⟨max n1 n2, fun n hn => by unfold px_run; rw [h1 n (by omega)]; exact h2 n (by omega)⟩
    · rename_i r9 hs
      cases h
      obtain ⟨n1, h1⟩ := hstep _ hs
      exact ⟨n1, fun n hn => by unfold px_run; rw [h1 n hn]⟩
theorem px_spc {Spc : Nat → List Value → px_H → Option px_A} (hS : ∀ mi av hp r, Spc mi av hp = some r → px_C T P mi av hp r.1 r.2) : ∀ (n mi : Nat) (av : List Value) (hp : px_H) (r : px_A), px_call T P Spc n mi av hp = some r → px_C T P mi av hp r.1 r.2 := by
  intro n
  induction n with
  | zero => intro mi av hp r h; cases h
  | succ n ih =>
    intro mi av hp r h
    unfold px_call at h
    split at h
    · rename_i r9 hs
      cases h
      exact hS mi av hp r hs
    split at h
    · cases h
    rename_i M hM
    split at h
    · cases h
    rename_i hl
    obtain ⟨n0, h0⟩ := px_spc_run ih M _ n _ r h
    refine ⟨max n0 n + 1, fun k hk => ?_⟩
    obtain ⟨j, rfl⟩ : ∃ j, k = j + 1 := ⟨k - 1, by omega⟩
    unfold px_call
    simp only [hM, hl]
    have h1 := px_run_mono n (j - n) (h0 j (by omega))
    rwa [show n + (j - n) = j by omega] at h1
end px_q3
