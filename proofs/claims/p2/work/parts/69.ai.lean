section ab_s10
variable {T : px_T} {P : List px_M} {xs : Nat → Int32}
/-- where a run comes to: an end, or a place at which it was stopped -/
def ab_Fin (T : px_T) (X : Option (Nat × (Nat → Int32))) (P : List px_M) (M : px_M) (xs : Nat → Int32) (pc : Nat) (lv : List (Nat × Value)) (st : List Value) (hp : px_H) (outs : List ab_O) (stops : List (Nat × ab_S)) : Prop :=
  (∃ (r : Option Value) (hp' : px_H) (o : ab_O), o ∈ outs ∧ ab_o' xs o r hp' ∧ ∃ n0 k : Nat, ∀ n, n0 ≤ n → ∀ N0 nc ns : Nat, nc ≤ (px_rm M).cells → ns ≤ (px_rm M).slots → px_run T X P (px_call T P ab_nn n) M N0 k (pc, lv, st, hp, nc, ns) = some (r, hp')) ∨
  (∃ (pc' : Nat) (lv' : List (Nat × Value)) (st' : List Value) (hp' : px_H) (A' : ab_S), (pc', A') ∈ stops ∧ ab_s xs A' lv' st' hp' ∧ ∃ n0 k : Nat, ∀ n, n0 ≤ n → ∀ N0 nc ns : Nat, nc ≤ (px_rm M).cells → ns ≤ (px_rm M).slots → px_its T X P (px_call T P ab_nn n) M N0 k (pc, lv, st, hp, nc, ns) = some (pc', lv', st', hp', nc, ns))
theorem ab_Fin_its {X : Option (Nat × (Nat → Int32))} {M : px_M} {pc pc1 : Nat} {lv lv1 : List (Nat × Value)} {st st1 : List Value} {hp hp1 : px_H} {outs outs1 : List ab_O} {stops stops1 : List (Nat × ab_S)}
    (h : ∃ n0 k : Nat, ∀ n, n0 ≤ n → ∀ N0 nc ns : Nat, nc ≤ (px_rm M).cells → ns ≤ (px_rm M).slots → px_its T X P (px_call T P ab_nn n) M N0 k (pc, lv, st, hp, nc, ns) = some (pc1, lv1, st1, hp1, nc, ns))
    (hF : ab_Fin T X P M xs pc1 lv1 st1 hp1 outs1 stops1) (ho : ∀ o ∈ outs1, o ∈ outs) (hs : ∀ q ∈ stops1, q ∈ stops) : ab_Fin T X P M xs pc lv st hp outs stops := by
  obtain ⟨n1, k1, h1⟩ := h
  rcases hF with ⟨r, hp', o, m1, m2, n0, k, h2⟩ | ⟨pc', lv', st', hp', A', m1, m2, n0, k, h2⟩
  · refine Or.inl ⟨r, hp', o, ho _ m1, m2, max n0 n1, k1 + k, fun n hn N0 nc ns q1 q2 => ?_⟩
    exact px_its_run k1 (h1 n (by omega) N0 nc ns q1 q2) (h2 n (by omega) N0 nc ns q1 q2)
  · refine Or.inr ⟨pc', lv', st', hp', A', hs _ m1, m2, max n0 n1, k1 + k, fun n hn N0 nc ns q1 q2 => ?_⟩
    exact px_its_add k1 (h1 n (by omega) N0 nc ns q1 q2) (h2 n (by omega) N0 nc ns q1 q2)
theorem ab_ret_ok {X : Option (Nat × (Nat → Int32))} {M : px_M} {pc len : Nat} {i : Instr} {A : ab_S} {o : ab_O} {lv : List (Nat × Value)} {st : List Value} {hp : px_H} (hf : px_find pc (px_cd M) = some (len, i)) (h : ab_ret M i A = some o) (hA : ab_s xs A lv st hp) :
    ∃ r : Option Value, ab_o' xs o r hp ∧ ∀ (call : Nat → List Value → px_H → Option px_A) (N0 nc ns : Nat), nc ≤ (px_rm M).cells → ns ≤ (px_rm M).slots → px_step T X P call M N0 (pc, lv, st, hp, nc, ns) = some (.inr (r, hp)) := by
  obtain ⟨h1, h2, h3, h4⟩ := hA
  unfold ab_ret at h
  split at h
  · rename_i a1 a2 r9 o9 hst hrt
    cases h
    rw [hst] at h2
    obtain ⟨v, s, rfl, g1, k1⟩ := ab_st_cons h2
    obtain ⟨x, rfl, hx⟩ := ab_f0 g1.1
    cases s with
    | cons => exact absurd k1 (by simp [ab_st])
    | nil => exact ⟨some (.int x), ⟨ab_kill_ok (fun l w q1 q2 => ab_isl_at l w q1 q2) g1, h3, h4⟩, fun call N0 nc ns q1 q2 => by simp only [px_step, hf, px_alu, hrt, decide_eq_true q1, decide_eq_true q2, px_zr]⟩
  · rename_i a1 a2 r9 o9 hst hrt
    split at h
    · rename_i hb
      cases h
      rw [hst] at h2
      obtain ⟨v, s, rfl, g1, k1⟩ := ab_st_cons h2
      obtain ⟨x, rfl, hx⟩ := ab_f0 g1.1
      have hz : (decide (x = 0) || decide (x = 1)) = true := by
        have b0 := hx.1
        have b1 := hx.2
        simp only at b0 b1
        simp only [Bool.or_eq_true, decide_eq_true_eq, ← Int32.toInt_inj]
        have z0 : (0 : Int32).toInt = 0 := rfl
        have z1 : (1 : Int32).toInt = 1 := rfl
        omega
      cases s with
      | cons => exact absurd k1 (by simp [ab_st])
      | nil => exact ⟨some (.int x), ⟨ab_kill_ok (fun l w q1 q2 => ab_isl_at l w q1 q2) g1, h3, h4⟩, fun call N0 nc ns q1 q2 => by simp only [px_step, hf, px_alu, hrt, decide_eq_true q1, decide_eq_true q2, px_zr, hz]⟩
    · cases h
  · rename_i x9 o9 hst hrt
    cases h
    rw [hst] at h2
    obtain ⟨v, s, rfl, g1, k1⟩ := ab_st_cons h2
    obtain ⟨z1, z2, z3⟩ := x9
    obtain ⟨x, rfl, hx⟩ := ab_f1 g1.1
    cases s with
    | cons => exact absurd k1 (by simp [ab_st])
    | nil => exact ⟨some (.long x), ⟨ab_kill_ok (fun l w q1 q2 => ab_isl_at l w q1 q2) g1, h3, h4⟩, fun call N0 nc ns q1 q2 => by simp only [px_step, hf, px_alu, hrt, decide_eq_true q1, decide_eq_true q2]⟩
  · rename_i hst hrt
    cases h
    rw [hst] at h2
    cases st with
    | cons => exact absurd h2 (by simp [ab_st])
    | nil => exact ⟨none, ⟨trivial, h3, h4⟩, fun call N0 nc ns q1 q2 => by simp only [px_step, hf, px_alu, hrt, decide_eq_true q1, decide_eq_true q2]⟩
  · cases h
/-- a callee that ends, as a call -/
theorem ab_call_ok {N : px_M} {mi : Nat} (hN : P[mi]? = some N) {av : List Value} {hp hp' : px_H} {r : Option Value} (hl : (lg_sl av).length ≤ px_ml N)
    (h : ∃ n0 k : Nat, ∀ n, n0 ≤ n → ∀ N0 nc ns : Nat, nc ≤ (px_rm N).cells → ns ≤ (px_rm N).slots → px_run T none P (px_call T P ab_nn n) N N0 k (0, lv_args 0 av, [], hp, nc, ns) = some (r, hp')) :
    ∃ n0 : Nat, ∀ n, n0 ≤ n → px_call T P ab_nn n mi av hp = some (r, hp') := by
  obtain ⟨n0, k, h⟩ := h
  refine ⟨max n0 k + 1, fun n hn => ?_⟩
  obtain ⟨m, rfl⟩ : ∃ m, n = m + 1 := ⟨n - 1, by omega⟩
  unfold px_call
  simp only [hN, decide_eq_true hl]
  have h1 := h m (by omega) hp.length 0 0 (Nat.zero_le _) (Nat.zero_le _)
  have h2 := px_run_mono k (m - k) h1
  rwa [show k + (m - k) = m by omega] at h2
theorem ab_back_ok {A : ab_S} {lv : List (Nat × Value)} {st : List Value} {hp hp' : px_H} {o : ab_O} {r : Option Value} (hA : ab_s xs A lv st hp) (ho : ab_o' xs o r hp') (k : Nat) : ab_s xs (ab_back A k o) lv (r.toList ++ st.drop k) hp' := by
  obtain ⟨h1, h2, h3, h4⟩ := hA
  obtain ⟨g1, g2, g3⟩ := ho
  have hP : ∀ l w, ab_isf l = false → ab_at xs lv hp l = some w → ab_at xs lv hp' l = some w := fun l w q1 q2 => ab_isf_at l w q1 q2
  refine ⟨fun j a hm => ?_, ?_, g2, g3⟩
  · obtain ⟨⟨j0, a0⟩, hm0, he⟩ := List.mem_map.mp hm
    cases he
    obtain ⟨v, hv, hav⟩ := h1 _ _ hm0
    exact ⟨v, hv, ab_kill_ok hP hav⟩
  · have hd := ab_kill_st hP (ab_st_drop k h2)
    obtain ⟨oa, oh, ox⟩ := o
    cases oa with
    | none => cases r with
      | none => exact hd
      | some v => exact absurd g1 (by simp)
    | some a => cases r with
      | none => exact absurd g1 (by simp)
      | some v => exact ⟨ab_v_mono (fun l w q => ab_nil_at l w q) g1, hd⟩
set_option maxHeartbeats 8000000 in
theorem ab_run_ok : ∀ (n : Nat) (L : Option Nat) (stop : List Nat) (M : px_M) (pc : Nat) (A : ab_S) (o : List ab_O × List (Nat × ab_S)) (X : Option (Nat × (Nat → Int32))) (lv : List (Nat × Value)) (st : List Value) (hp : px_H),
    ab_run T P n L stop M pc A = some o → ab_s xs A lv st hp → (∀ n, L = some n → X = some (n, xs)) → ab_Fin T X P M xs pc lv st hp o.1 o.2 := by
  intro n
  induction n with
  | zero => intro L stop M pc A o X lv st hp h; cases h
  | succ n ih =>
    intro L stop M pc A o X lv st hp h hA hX
    have hcallee : ∀ (k mi : Nat) (N : px_M) (couts : List ab_O), P[mi]? = some N → ab_callok N k A.2.1 = true → ab_run T P n none [] N 0 (ab_args 0 ((A.2.1.take k).reverse.map (ab_kill ab_isl)), [], A.2.2) = some (couts, []) →
        ∃ (r : Option Value) (hp' : px_H) (oc : ab_O), oc ∈ couts ∧ ab_s xs (ab_back A k oc) lv (r.toList ++ st.drop k) hp' ∧ k ≤ st.length ∧ ((st.drop k).map fun v => v.category).sum ≤ 8 ∧ (px_rm N).cells = 0 ∧ (px_rm N).slots = 0 ∧ ∃ n0 : Nat, ∀ n, n0 ≤ n → px_call T P ab_nn n mi (st.take k).reverse hp = some (r, hp') := by
      intro k mi N couts hN hok hrun
      simp only [ab_callok, Bool.and_eq_true, decide_eq_true_eq] at hok
      obtain ⟨c1, c2, c3, c4, c5⟩ := hok
      obtain ⟨h1, h2, h3, h4⟩ := id hA
      have hcat := ab_st_cat h2
      have hlen := ab_st_len h2
      have hargs := ab_kill_st (P := ab_isl) (lv' := lv_args 0 (st.take k).reverse) (fun l w q1 q2 => ab_isl_at l w q1 q2) (ab_st_rev (ab_st_take k h2))
      have hF := ih none [] N 0 _ _ none (lv_args 0 (st.take k).reverse) [] hp hrun ⟨fun j a hm => ab_args_ok 0 hargs j a hm, trivial, h3, h4⟩ (fun n hn => by cases hn)
      have hsl : (lg_sl (st.take k).reverse).length ≤ px_ml N := by
        rw [ab_lg', List.map_reverse, List.sum_reverse, List.map_take, ← hcat, ← List.map_take]
        exact c5
      rcases hF with ⟨r, hp', oc, m1, m2, hr⟩ | ⟨pc', lv', st', hp', A', m1, -⟩
      · exact ⟨r, hp', oc, m1, ab_back_ok hA m2 k, by rw [← hlen]; exact c1, by rw [List.map_drop, ← hcat, ← List.map_drop]; exact c2, c3, c4, ab_call_ok hN hsl hr⟩
      · cases m1
    unfold ab_run at h
    split at h
    · cases h
      exact Or.inr ⟨pc, lv, st, hp, A, List.mem_singleton.mpr rfl, hA, 0, 0, fun _ _ _ _ _ _ _ => rfl⟩
    split at h
    · cases h
    rename_i len i hf
    split at h
    · rename_i o9 hr
      cases h
      obtain ⟨r, g1, g2⟩ := ab_ret_ok (X := X) (T := T) (P := P) hf hr hA
      exact Or.inl ⟨r, hp, o9, List.mem_singleton.mpr rfl, g1, 0, 1, fun n hn N0 nc ns q1 q2 => by simp only [px_run, g2 _ _ _ _ q1 q2]⟩
    rename_i hr
    simp only at h
    split at h
    · -- invokevirtual
      rename_i idx
      split at h
      · rename_i mi na ci hj
        split at h
        · rename_i c1 c2 c o9 hna
          split at h
          · rename_i ci' fs hc
            split at h
            · rename_i hci
              split at h
              · cases h
              · rename_i N hN
                split at h
                · cases h
                · rename_i hok
                  split at h
                  · rename_i couts hrun
                    obtain ⟨r, hp', oc, m1, m2, d1, d2, d3, d4, n0, hcl⟩ := hcallee _ _ _ _ hN hok hrun
                    obtain ⟨x, e1, e2, e3⟩ := ab_all_ok h oc m1
                    obtain ⟨vs, hx, -, -⟩ := ab_obj hA.2.2.1 hc
                    have hlt : na < st.length := by omega
                    have hst : st[na]? = some (.ref c) := by
                      have hd := ab_st_drop na hA.2.1
                      have hnl : na < A.2.1.length := by rw [ab_st_len hA.2.1]; exact hlt
                      rw [List.drop_eq_getElem_cons hnl, List.drop_eq_getElem_cons hlt] at hd
                      have he : A.2.1[na] = ((2, c1, c2, [c]), o9) := by
                        have := List.getElem?_eq_getElem hnl
                        rw [hna] at this
                        exact (Option.some.inj this).symm
                      rw [he] at hd
                      rw [List.getElem?_eq_getElem hlt, ab_ref1 hd.1]
                    refine ab_Fin_its ⟨n0, 1, fun n hn N0 nc ns q1 q2 => ?_⟩ (ih L stop M (pc + 3) _ _ X lv _ hp' e1 m2 hX) e2 e3
                    simp only [px_its, px_step, hf, px_alu, hj, hst, hx, hci, hN, decide_eq_true d1, decide_eq_true d2, d3, d4, Nat.add_zero, decide_eq_true q1, decide_eq_true q2, true_or, decide_true, hcl n hn]
                  · cases h
            · cases h
          · cases h
        · cases h
      · cases h
    · -- invokestatic
      rename_i idx
      split at h
      · rename_i mi na z9 hj
        split at h
        · cases h
        · rename_i N hN
          split at h
          · cases h
          · rename_i hok
            split at h
            · rename_i couts hrun
              obtain ⟨r, hp', oc, m1, m2, d1, d2, d3, d4, n0, hcl⟩ := hcallee _ _ _ _ hN hok hrun
              obtain ⟨x, e1, e2, e3⟩ := ab_all_ok h oc m1
              refine ab_Fin_its ⟨n0, 1, fun n hn N0 nc ns q1 q2 => ?_⟩ (ih L stop M (pc + 3) _ _ X lv _ hp' e1 m2 hX) e2 e3
              simp only [px_its, px_step, hf, px_alu, hj, hN, decide_eq_true d1, decide_eq_true d2, d3, d4, Nat.add_zero, decide_eq_true q1, decide_eq_true q2, true_or, decide_true, hcl n hn]
            · cases h
      · rename_i w z1 z2 hj
        split at h
        · rename_i st' hm hd
          obtain ⟨st'', g1, g2⟩ := ab_math_ok hm hA.2.1
          have hd2 : decide (((st.drop 2).map fun v => v.category).sum ≤ 8) = true := by
            rw [List.map_drop, ← ab_st_cat hA.2.1, ← List.map_drop]
            exact hd
          refine ab_Fin_its ⟨0, 1, fun n hn N0 nc ns q1 q2 => ?_⟩ (ih L stop M (pc + 3) _ _ X lv st'' hp h ⟨hA.1, g2, hA.2.2.1, hA.2.2.2⟩ hX) (fun _ h => h) (fun _ h => h)
          simp only [px_its, px_step, hf, px_alu, hj, g1, hd2, decide_eq_true q1, decide_eq_true q2]
        · cases h
      · cases h
    · -- a step
      split at h
      · cases h
      · rename_i outs hs
        obtain ⟨pc1, lv1, st1, hp1, A1, m1, m2, k, hk⟩ := ab_step_ok (P := P) hA hX hs
        obtain ⟨x, e1, e2, e3⟩ := ab_all_ok h _ m1
        exact ab_Fin_its ⟨0, k, fun n hn N0 nc ns q1 q2 => hk _ _ _ _⟩ (ih L stop M pc1 A1 _ X lv1 st1 hp1 e1 m2 hX) e2 e3
end ab_s10
