/-! the second interpreter is sound -/
section ac_s6
variable {T : px_T} {P : List px_M} {G : List ab_C} {FA : Nat → List Nat} {Φ : Nat → px_H → Prop} {ws : List (Nat × Nat)} {wa : List Nat} {xs : Nat → Int32} {K : List ac_K} {lps : List ac_L}
theorem ac_back_ok {γ : Nat → Int} {A : ac_S} {lv : List (Nat × Value)} {st : List Value} {hp hp' : px_H} {o : ac_Out} {r : Option Value} (hA : ac_s G Φ xs γ A lv st hp) (ho : ac_o' G Φ xs o r hp') (k : Nat) : ac_s G Φ xs γ (ac_back A k o) lv (r.toList ++ st.drop k) hp' := by
  obtain ⟨h1, h2, h3, h4, h5, h6, h7⟩ := hA
  obtain ⟨g1, g2, g3, g4, g5⟩ := ho
  have hP : ∀ l w, ab_isf l = false → ab_at xs lv hp l = some w → ab_at xs lv hp' l = some w := fun l w q1 q2 => ab_isf_at l w q1 q2
  refine ⟨fun j a hm => ?_, ?_, g2, g3, g4, g5, h7⟩
  · obtain ⟨⟨j0, a0⟩, hm0, he⟩ := List.mem_map.mp hm
    cases he
    obtain ⟨v, hv, hav⟩ := h1 _ _ hm0
    exact ⟨v, hv, ab_kill_ok hP hav⟩
  · have hd := ab_kill_st hP (ab_st_drop k h2)
    obtain ⟨oa, oh, ox, of⟩ := o
    cases oa with
    | none => cases r with
      | none => exact hd
      | some v => exact absurd g1 (by simp)
    | some a => cases r with
      | none => exact absurd g1 (by simp)
      | some v => exact ⟨ab_v_mono (fun l w q => ab_nil_at l w q) g1, hd⟩
theorem ac_rfn_ok {γ : Nat → Int} {lv : List (Nat × Value)} {st : List Value} {hp hp' : px_H} {args : List ab_V} {av : List Value} (hargs : ∀ (i : Nat) (a : ab_V) (v : Value), args[i]? = some a → av[i]? = some v → ab_v xs lv hp a v) :
    ∀ {rf : List (Nat × ab_B)} {A : ac_S}, (∀ q ∈ rf, ∃ v z, av[q.1]? = some v ∧ ab_num v = some z ∧ ab_in q.2 z) → ac_s G Φ xs γ A lv st hp' → ac_s G Φ xs γ (ac_rfn G args rf A) lv st hp' := by
  intro rf
  induction rf with
  | nil => intro A _ hA; exact hA
  | cons q r ih =>
    intro A hr hA
    unfold ac_rfn
    refine ih (fun q' h => hr q' (List.mem_cons_of_mem _ h)) ?_
    split
    · rename_i a ha
      split
      · rename_i l hl
        split
        · exact hA
        · rename_i hb
          refine ac_refine_ok hA (fun l' hl' => ?_)
          cases hl'
          obtain ⟨v, z, e1, e2, e3⟩ := hr q List.mem_cons_self
          obtain ⟨w, w1, w2⟩ := (hargs _ _ _ ha e1).2 l hl
          exact ⟨w, z, ab_isf_at l w hb w1, by rw [w2]; exact e2, e3⟩
      · exact hA
    · exact hA
theorem ac_argm_ok {lv : List (Nat × Value)} {hp : px_H} : ∀ {as : List ab_V} {fs : List ab_F} {av : List Value}, ac_argm as fs = true → ab_st xs lv hp as av → ac_argv fs av := by
  intro as
  induction as with
  | nil =>
    intro fs av h hs
    cases fs with
    | nil => cases av <;> first | trivial | exact absurd hs (by simp [ab_st])
    | cons => cases h
  | cons a r ih =>
    intro fs av h hs
    cases fs with
    | nil => cases h
    | cons f s =>
      obtain ⟨v, s', rfl, h1, h2⟩ := ab_st_cons hs
      simp only [ac_argm, Bool.and_eq_true] at h
      exact ⟨ab_le_ok h.1 h1.1, ih h.2 h2⟩
theorem ac_pick_ok {mi : Nat} {args : List ab_V} {κ : ac_K} : ∀ {K : List ac_K}, ac_pick mi args K = some κ → κ ∈ K ∧ κ.1 = mi ∧ ac_argm args κ.2.1 = true := by
  intro K
  induction K with
  | nil => intro h; cases h
  | cons q r ih =>
    intro h
    unfold ac_pick at h
    split at h
    · rename_i hb
      cases h
      simp only [Bool.and_eq_true] at hb
      exact ⟨List.mem_cons_self, Nat.eq_of_beq_eq_true hb.1, hb.2⟩
    · obtain ⟨h1, h2⟩ := ih h
      exact ⟨List.mem_cons_of_mem _ h1, h2⟩
theorem ac_st_get {lv : List (Nat × Value)} {hp : px_H} : ∀ {as : List ab_V} {st : List Value} {i : Nat} {a : ab_V} {v : Value}, ab_st xs lv hp as st → as[i]? = some a → st[i]? = some v → ab_v xs lv hp a v := by
  intro as
  induction as with
  | nil => intro st i a v _ h; simp at h
  | cons b r ih =>
    intro st i a v hs ha hv
    obtain ⟨u, s, rfl, h1, h2⟩ := ab_st_cons hs
    cases i with
    | zero =>
      simp only [List.getElem?_cons_zero, Option.some.injEq] at ha hv
      subst ha hv
      exact h1
    | succ i => exact ih h2 ha hv
theorem ac_after_ok (hFl : ac_Fl FA Φ) (hFG : ∀ i, ∀ c ∈ FA i, ∃ q, G[c]? = some (.inr q)) {γ : Nat → Int} {A : ac_S} {lv : List (Nat × Value)} {st : List Value} {hp hp' : px_H} {κ : ac_K} {o : Option ab_F × List (Nat × ab_B) × List Nat} {r : Option Value} {k : Nat} (hA : ac_s G Φ xs γ A lv st hp) (hG : ab_h G hp') (hr : ac_rv o.1 r)
    (hrf : ∀ q ∈ o.2.1, ∃ v z, (st.take k).reverse[q.1]? = some v ∧ ab_num v = some z ∧ ab_in q.2 z) (hfl : ∀ i ∈ o.2.2, Φ i hp') (hfr : px_fr κ.2.2.2.2.1 κ.2.2.2.2.2 hp hp') : ac_s G Φ xs γ (ac_after G FA κ A k (A.2.1.take k).reverse o) lv (r.toList ++ st.drop k) hp' := by
  obtain ⟨h1, h2, h3, h4, h5, h6, h7⟩ := hA
  have hargs := ab_st_rev (ab_st_take k h2)
  refine ac_rfn_ok (hp := hp) (av := (st.take k).reverse) (fun i a v ha hv => ac_st_get hargs ha hv) hrf ?_
  have hP : ∀ l w, ab_isf l = false → ab_at xs lv hp l = some w → ab_at xs lv hp' l = some w := fun l w q1 q2 => ab_isf_at l w q1 q2
  refine ⟨fun j a hm => ?_, ?_, hG, fun q hq v hv => ?_, h5, fun i hi => ?_, h7⟩
  · obtain ⟨⟨j0, a0⟩, hm0, he⟩ := List.mem_map.mp hm
    cases he
    obtain ⟨v, hv, hav⟩ := h1 _ _ hm0
    exact ⟨v, hv, ab_kill_ok hP hav⟩
  · have hd := ab_kill_st hP (ab_st_drop k h2)
    obtain ⟨oa, ob, oc⟩ := o
    cases oa with
    | none => cases r with
      | none => exact hd
      | some v => exact absurd hr (by simp [ac_rv])
    | some a => cases r with
      | none => exact absurd hr (by simp [ac_rv])
      | some v => exact ⟨⟨hr, ab_o_none _ _ _ _⟩, hd⟩
  · obtain ⟨hm, hk⟩ := List.mem_filter.mp hq
    simp only [Bool.not_eq_true'] at hk
    have hnot : (q.1, q.2.1) ∉ κ.2.2.2.2.1 := by
      intro hin
      have : ac_has κ.2.2.2.2.1 q.1 q.2.1 = true := by
        simp only [ac_has, List.any_eq_true, Bool.and_eq_true]
        exact ⟨_, hin, Nat.beq_refl _, Nat.beq_refl _⟩
      rw [this] at hk
      cases hk
    refine h4 q hm v ?_
    unfold ac_fv at hv ⊢
    rcases hc : hp[q.1]? with _ | (x | ⟨ci, vs⟩)
    · have hlen : hp'.length = hp.length := by rw [← hG.1, h3.1]
      have hn : hp'[q.1]? = none := by
        rw [List.getElem?_eq_none_iff] at hc ⊢
        omega
      rw [hn] at hv
      cases hv
    · exfalso
      have hlt := (List.getElem?_eq_some_iff.mp hc).1
      rcases hg : G[q.1]? with _ | a
      · rw [List.getElem?_eq_none_iff, h3.1] at hg
        omega
      · have e1 := h3.2 _ _ _ hg hc
        obtain ⟨y, hy, e2⟩ := ac_cell hG hg
        rw [hy] at hv
        cases a with
        | inl a => exact absurd e1 (by simp [ab_c])
        | inr a => cases y with
          | inl y => cases hv
          | inr y => exact absurd e2 (by simp [ab_c])
    · obtain ⟨vs', f1, f2, f3⟩ := hfr.2 _ _ _ hc
      rw [f1] at hv
      simp only at hv ⊢
      rw [← f3 _ hnot]
      exact hv
  · rcases List.mem_append.mp hi with hi | hi
    · exact hfl i hi
    · obtain ⟨hm, hk⟩ := List.mem_filter.mp hi
      refine hFl i hp hp' (fun c hc => ?_) (h6 i hm)
      have hnot : c ∉ κ.2.2.2.2.2 := by
        intro hin
        have := List.all_eq_true.mp hk c hin
        simp only [Bool.not_eq_true'] at this
        exact ac_in_no this hc
      obtain ⟨q, hq⟩ := hFG i c hc
      obtain ⟨x, hx, hxc⟩ := ac_cell h3 hq
      cases x with
      | inr y => exact absurd hxc (by simp [ab_c])
      | inl y => rw [hfr.1 c y hnot hx, hx]
set_option maxHeartbeats 8000000 in
theorem ac_run_ok (hFl : ac_Fl FA Φ) (hFG : ∀ i, ∀ c ∈ FA i, ∃ q, G[c]? = some (.inr q)) (hK : ∀ κ ∈ K, ac_ok T P G Φ κ) :
    ∀ (n : Nat) (fresh : Bool) (stop : List Nat) (me : Nat) (M : px_M) (pc : Nat) (A : ac_S) (o : List ac_Out × List (Nat × ac_S)) (X : Option (Nat × (Nat → Int32))) (γ : Nat → Int) (lv : List (Nat × Value)) (st : List Value) (hp : px_H),
    ac_run T P G FA K lps ws wa n fresh stop me M pc A = some o → ac_s G Φ xs γ A lv st hp → ac_Fin T X P M G Φ ws wa xs γ pc lv st hp o.1 o.2 := by
  intro n
  induction n with
  | zero => intro fresh stop me M pc A o X γ lv st hp h; cases h
  | succ n ih =>
    intro fresh stop me M pc A o X γ lv st hp h hA
    have hcallee : ∀ (k mi : Nat) (N : px_M), P[mi]? = some N → ab_callok N k A.2.1 = true → (k ≤ st.length ∧ ((st.drop k).map fun v => v.category).sum ≤ 8 ∧ (px_rm N).cells = 0 ∧ (px_rm N).slots = 0 ∧ (lg_sl (st.take k).reverse).length ≤ px_ml N) := by
      intro k mi N hN hok
      simp only [ab_callok, Bool.and_eq_true, decide_eq_true_eq] at hok
      obtain ⟨c1, c2, c3, c4, c5⟩ := hok
      have hcat := ab_st_cat hA.2.1
      have hlen := ab_st_len hA.2.1
      refine ⟨by rw [← hlen]; exact c1, by rw [List.map_drop, ← hcat, ← List.map_drop]; exact c2, c3, c4, ?_⟩
      rw [ab_lg', List.map_reverse, List.sum_reverse, List.map_take, ← hcat, ← List.map_take]
      exact c5
    have hcall : ∀ (k mi : Nat) (o : List ac_Out × List (Nat × ac_S)),
        (∀ (N : px_M) (r : Option Value) (hp' : px_H), P[mi]? = some N → k ≤ st.length → ((st.drop k).map fun v => v.category).sum ≤ 8 → (px_rm N).cells = 0 → (px_rm N).slots = 0 → ∀ call : Nat → List Value → px_H → Option px_A, call mi (st.take k).reverse hp = some (r, hp') → ∀ N0 nc ns : Nat, nc ≤ (px_rm M).cells → ns ≤ (px_rm M).slots → px_its T X P call M N0 1 (pc, lv, st, hp, nc, ns) = some (pc + 3, lv, r.toList ++ st.drop k, hp', nc, ns)) →
        (match P[mi]? with
              | none => none
              | some N => match ab_callok N k A.2.1 with
                | false => none
                | true => match ac_pick mi (A.2.1.take k).reverse K with
                  | some κ => match ac_kok ws wa κ A with
                    | false => none
                    | true => ab_all (fun o => ac_run T P G FA K lps ws wa n false stop me M (pc + 3) (ac_after G FA κ A k (A.2.1.take k).reverse o)) κ.2.2.2.1
                  | none => match ac_run T P G FA K lps ws wa n false [] mi N 0 (ab_args 0 ((A.2.1.take k).reverse.map (ab_kill ab_isl)), [], A.2.2.1, A.2.2.2.1, A.2.2.2.2.1, []) with
                    | some (outs, []) => ab_all (fun o => ac_run T P G FA K lps ws wa n false stop me M (pc + 3) (ac_back A k o)) (ac_prune G outs)
                    | _ => none) = some o → ac_Fin T X P M G Φ ws wa xs γ pc lv st hp o.1 o.2 := by
      intro k mi o hst h
      split at h
      · cases h
      rename_i N hN
      split at h
      · cases h
      rename_i hok
      obtain ⟨d1, d2, d3, d4, d5⟩ := hcallee k mi N hN hok
      split at h
      · -- a contract
        rename_i κ hκ
        split at h
        · cases h
        rename_i hkok
        obtain ⟨p1, p2, p3⟩ := ac_pick_ok hκ
        simp only [ac_kok, Bool.and_eq_true, List.all_eq_true] at hkok
        obtain ⟨q1, q2, q3⟩ := hkok
        obtain ⟨r, hp', oc, m1, ⟨n0, m2⟩, m3, m4, m5, m6, m7⟩ := hK κ p1 (st.take k).reverse hp hA.2.2.1 (ac_argm_ok p3 (ab_st_rev (ab_st_take k hA.2.1))) (fun i hi => hA.2.2.2.2.2.1 i (ac_in_ok (q1 i hi)))
        obtain ⟨x, e1, e2, e3⟩ := ab_all_ok h oc m1
        rw [p2] at m2
        refine ac_Fin_its ⟨n0, 1, fun n hn N0 nc ns b1 b2 => hst N r hp' hN d1 d2 d3 d4 _ (m2 n hn) N0 nc ns b1 b2⟩ (px_fr_mono m7 (fun q hq => ac_has_ok (q2 q hq)) (fun c hc => ac_in_ok (q3 c hc))) (ih false stop me M (pc + 3) _ _ X γ lv _ hp' e1 (ac_after_ok hFl hFG hA m3 m4 m5 m6 m7)) e2 e3
      · -- inlined
        split at h
        · rename_i couts hrun
          obtain ⟨h1, h2, h3, h4, h5, h6, h7⟩ := id hA
          have hargs := ab_kill_st (P := ab_isl) (lv' := lv_args 0 (st.take k).reverse) (fun l w q1 q2 => ab_isl_at l w q1 q2) (ab_st_rev (ab_st_take k h2))
          have hF := ih false [] mi N 0 _ _ none (fun _ => 0) (lv_args 0 (st.take k).reverse) [] hp hrun ⟨fun j a hm => ab_args_ok 0 hargs j a hm, trivial, h3, h4, h5, h6, fun q hq => by cases hq⟩
          rcases hF with ⟨r, hp', oc, m1, m2, m3, hr⟩ | ⟨pc', lv', st', hp', A', m1, -⟩
          · obtain ⟨n0, hcl⟩ := ab_call_ok hN d5 hr
            obtain ⟨oc, m1, m2⟩ := ac_prune_ok m1 m2
            obtain ⟨x, e1, e2, e3⟩ := ab_all_ok h oc m1
            exact ac_Fin_its ⟨n0, 1, fun n hn N0 nc ns b1 b2 => hst N r hp' hN d1 d2 d3 d4 _ (hcl n hn) N0 nc ns b1 b2⟩ m3 (ih false stop me M (pc + 3) _ _ X γ lv _ hp' e1 (ac_back_ok hA m2 k)) e2 e3
          · cases m1
        · cases h
    unfold ac_run at h
    split at h
    · cases h
      exact Or.inr ⟨pc, lv, st, hp, A, List.mem_singleton.mpr rfl, hA, px_fr_rf _ _ _, 0, 0, fun _ _ _ _ _ _ _ => rfl⟩
    split at h
    · -- a loop
      rename_i ctr wd hlp
      split at h
      · cases h
      rename_i Bs hen
      have hent : ∀ {L9 : List ac_S}, ac_enter G ctr A L9 = some Bs → ∃ B ∈ Bs, ac_le G ctr A B = true := by
        intro L9
        induction L9 with
        | nil => intro h; cases h
        | cons B r ih9 =>
          intro h
          unfold ac_enter at h
          split at h
          · rename_i hle
            cases h
            exact ⟨B, List.mem_cons_self, hle⟩
          · exact ih9 h
      obtain ⟨B, hB, hle⟩ := hent hen
      obtain ⟨γ', g1, g2, g3⟩ := ac_le_ok hle hA
      exact ac_go_ok (fun B o hB γ' lv st hp hs => ih true (pc :: stop) me M pc B o X γ' lv st hp hB hs) Bs o h B hB γ' lv st hp g1 g2 g3
    split at h
    · cases h
    rename_i len i hf
    split at h
    · rename_i o9 hr
      cases h
      obtain ⟨r, g1, g2⟩ := ac_ret_ok (X := X) (T := T) (P := P) hf hr hA
      exact Or.inl ⟨r, hp, o9, List.mem_singleton.mpr rfl, g1, px_fr_rf _ _ _, 0, 1, fun n hn N0 nc ns q1 q2 => by simp only [px_run, g2 _ _ _ _ q1 q2]⟩
    rename_i hr
    simp only at h
    split at h
    · -- invokevirtual
      rename_i idx
      split at h
      · rename_i mi na ci hj
        split at h
        · rename_i c1 c2 cs o9 hna
          split at h
          · rename_i hcl
            refine hcall (na + 1) mi o (fun N r hp' hN d1 d2 d3 d4 call hc N0 nc ns b1 b2 => ?_) h
            have hlt : na < st.length := by omega
            have hst9 : st[na]? = some (st[na]'hlt) := List.getElem?_eq_getElem hlt
            have hv := ac_st_get hA.2.1 hna hst9
            obtain ⟨c, hc1, hc2⟩ := ab_f2 hv.1
            have hcc := List.all_eq_true.mp hcl c hc2
            unfold ac_cl at hcc
            split at hcc
            · rename_i ci' fs hg
              obtain ⟨vs, hx, -, -⟩ := ac_obj hA.2.2.1 hg
              rw [hc1] at hst9
              simp only [px_its, px_step, hf, px_alu, hj, hst9, hx, hcc, hN, decide_eq_true d1, decide_eq_true d2, d3, d4, Nat.add_zero, decide_eq_true b1, decide_eq_true b2, true_or, decide_true, hc]
            · cases hcc
          · cases h
        · cases h
      · cases h
    · -- invokestatic
      rename_i idx
      split at h
      · rename_i mi na z9 hj
        refine hcall na mi o (fun N r hp' hN d1 d2 d3 d4 call hc N0 nc ns b1 b2 => ?_) h
        simp only [px_its, px_step, hf, px_alu, hj, hN, decide_eq_true d1, decide_eq_true d2, d3, d4, Nat.add_zero, decide_eq_true b1, decide_eq_true b2, true_or, decide_true, hc]
      · rename_i w z1 z2 hj
        split at h
        · rename_i st' hm hd
          obtain ⟨st'', g1, g2⟩ := ab_math_ok hm hA.2.1
          have hd2 : decide (((st.drop 2).map fun v => v.category).sum ≤ 8) = true := by
            rw [List.map_drop, ← ab_st_cat hA.2.1, ← List.map_drop]
            exact hd
          refine ac_Fin_its ⟨0, 1, fun n hn N0 nc ns q1 q2 => ?_⟩ (px_fr_rf _ _ _) (ih false stop me M (pc + 3) _ _ X γ lv st'' hp h ⟨hA.1, g2, hA.2.2⟩) (fun _ h => h) (fun _ h => h)
          simp only [px_its, px_step, hf, px_alu, hj, g1, hd2, decide_eq_true q1, decide_eq_true q2]
        · cases h
      · cases h
    · -- a step
      split at h
      · cases h
      · rename_i outs hs
        obtain ⟨pc1, lv1, st1, hp1, A1, m1, m2, m3, k, hk⟩ := ac_step_ok (P := P) (X := X) hFl hA hs
        obtain ⟨x, e1, e2, e3⟩ := ab_all_ok h _ m1
        exact ac_Fin_its ⟨0, k, fun n hn N0 nc ns q1 q2 => hk _ _ _ _⟩ m3 (ih false stop me M pc1 A1 _ X γ lv1 st1 hp1 e1 m2) e2 e3
end ac_s6
/-! contracts by the interpreter -/
def ac_exp : List ab_F → List (List ab_F)
  | [] => [[]]
  | f :: r => match f.1 with
    | 2 => (f.2.2.2.map (fun c => (ac_exp r).map (fun s => (2, 0, 0, [c]) :: s))).flatten
    | _ => (ac_exp r).map (fun s => f :: s)
def ac_ini : Nat → List ab_F → List ab_V
  | _, [] => []
  | i, f :: r => (f, match Nat.beq f.1 0 with
    | true => some (2, i, 0)
    | false => none) :: ac_ini (i + 1) r
def ac_gh (fs : List ab_F) : List (Int × Int) := fs.map (fun f => match Nat.beq f.1 0 with
  | true => (f.2.1, f.2.2.1)
  | false => ab_topi)
def ac_rok (fs : List ab_F) (o : ac_Out) (q : Option ab_F × List (Nat × ab_B) × List Nat) : Bool :=
  (match o.1, q.1 with
    | none, none => true
    | some a, some f => ab_le a.1 f
    | _, _ => false) && (q.2.1.all (fun p => match fs[p.1]?, o.2.2.1[p.1]? with
    | some f, some b => Nat.beq f.1 0 && (decide (p.2.1 ≤ b.1) && decide (b.2 ≤ p.2.2))
    | _, _ => false) && q.2.2.all (fun i => ac_in i o.2.2.2))
def ac_check (T : px_T) (P : List px_M) (G : List ab_C) (FA : Nat → List Nat) (K : List ac_K) (lps : List ac_L) (n : Nat) (κ : ac_K) : Bool :=
  match P[κ.1]? with
  | none => false
  | some N => (ac_exp κ.2.1).all (fun fs => decide (((ac_ini 0 fs).map ab_cat).sum ≤ px_ml N) && (match ac_run T P G FA K lps κ.2.2.2.2.1 κ.2.2.2.2.2 n false [] κ.1 N 0 (ab_args 0 (ac_ini 0 fs), [], [], ac_gh fs, κ.2.2.1, []) with
    | some (outs, []) => outs.all (fun o => κ.2.2.2.1.any (ac_rok fs o))
    | _ => false))
theorem ac_exp_ok : ∀ {fs : List ab_F} {av : List Value}, ac_argv fs av → ∃ gs ∈ ac_exp fs, ac_argv gs av := by
  intro fs
  induction fs with
  | nil => intro av h; exact ⟨[], List.mem_singleton.mpr rfl, h⟩
  | cons f r ih =>
    intro av h
    cases av with
    | nil => exact absurd h (by simp [ac_argv])
    | cons v s =>
      obtain ⟨h1, h2⟩ := h
      obtain ⟨gs, hm, hg⟩ := ih h2
      obtain ⟨k, a1, a2, rs⟩ := f
      unfold ac_exp
      split
      · rename_i hk
        simp only at hk
        subst hk
        obtain ⟨c, rfl, hc⟩ := ab_f2 h1
        exact ⟨(2, 0, 0, [c]) :: gs, List.mem_flatten.mpr ⟨_, List.mem_map.mpr ⟨c, hc, rfl⟩, List.mem_map.mpr ⟨gs, hm, rfl⟩⟩, ⟨rfl, List.mem_singleton.mpr rfl⟩, hg⟩
      · exact ⟨_, List.mem_map.mpr ⟨gs, hm, rfl⟩, h1, hg⟩
def ac_xs (av : List Value) (i : Nat) : Int32 := match av[i]? with
  | some (.int x) => x
  | _ => 0
theorem ac_ini_ok {av : List Value} {lv : List (Nat × Value)} {hp : px_H} : ∀ {fs : List ab_F} {bv : List Value} {i : Nat}, ac_argv fs bv → (∀ j, bv[j]? = av[i + j]?) → ab_st (ac_xs av) lv hp (ac_ini i fs) bv := by
  intro fs
  induction fs with
  | nil => intro bv i h _; cases bv <;> first | trivial | exact absurd h (by simp [ac_argv])
  | cons f r ih =>
    intro bv i h hj
    cases bv with
    | nil => exact absurd h (by simp [ac_argv])
    | cons v s =>
      obtain ⟨h1, h2⟩ := h
      refine ⟨⟨h1, fun l hl => ?_⟩, ih h2 (fun j => ?_)⟩
      · split at hl
        · rename_i hk
          cases hl
          obtain ⟨k, a1, a2, rs⟩ := f
          obtain ⟨x, rfl, -⟩ := ab_k0 hk h1
          refine ⟨.int (ac_xs av i), rfl, ?_⟩
          have := hj 0
          simp only [List.getElem?_cons_zero, Nat.add_zero] at this
          unfold ac_xs
          rw [← this]
        · cases hl
      · have := hj (j + 1)
        simp only [List.getElem?_cons_succ] at this
        rw [this]
        congr 1
        omega
theorem ac_argv_get : ∀ {fs : List ab_F} {av : List Value} {i : Nat} {f : ab_F}, ac_argv fs av → fs[i]? = some f → ∃ v, av[i]? = some v ∧ ab_f f v := by
  intro fs
  induction fs with
  | nil => intro av i f _ h; simp at h
  | cons g r ih =>
    intro av i f h hf
    cases av with
    | nil => exact absurd h (by simp [ac_argv])
    | cons v s =>
      obtain ⟨h1, h2⟩ := h
      cases i with
      | zero => simp only [List.getElem?_cons_zero, Option.some.injEq] at hf; subst hf; exact ⟨v, rfl, h1⟩
      | succ i =>
        obtain ⟨w, e1, e2⟩ := ih (av := s) (i := i) h2 (by simpa using hf)
        exact ⟨w, by simpa using e1, e2⟩
theorem ac_check_ok {T : px_T} {P : List px_M} {G : List ab_C} {FA : Nat → List Nat} {Φ : Nat → px_H → Prop} {K : List ac_K} {lps : List ac_L} {n : Nat} {κ : ac_K} (hFl : ac_Fl FA Φ) (hFG : ∀ i, ∀ c ∈ FA i, ∃ q, G[c]? = some (.inr q)) (hK : ∀ κ ∈ K, ac_ok T P G Φ κ) (h : ac_check T P G FA K lps n κ = true) : ac_ok T P G Φ κ := by
  intro av hp hG hav hfl
  unfold ac_check at h
  split at h
  · cases h
  rename_i N hN
  obtain ⟨gs, hm, hgs⟩ := ac_exp_ok hav
  have h1 := List.all_eq_true.mp h gs hm
  simp only [Bool.and_eq_true, decide_eq_true_eq] at h1
  obtain ⟨h1, h2⟩ := h1
  split at h2
  · rename_i outs hrun
    have hst : ab_st (ac_xs av) (lv_args 0 av) hp (ac_ini 0 gs) av := ac_ini_ok hgs (fun j => by rw [Nat.zero_add])
    have hx : ab_x (ac_gh gs) (ac_xs av) := by
      intro j q hq
      unfold ac_gh at hq
      rw [List.getElem?_map] at hq
      rcases hg : gs[j]? with _ | f
      · rw [hg] at hq; cases hq
      · rw [hg] at hq
        cases hq
        obtain ⟨v, e1, e2⟩ := ac_argv_get hgs hg
        cases hk : Nat.beq f.1 0 with
        | true =>
          simp only [hk]
          obtain ⟨k, a1, a2, rs⟩ := f
          obtain ⟨x, rfl, hx⟩ := ab_k0 hk e2
          unfold ac_xs
          rw [e1]
          exact hx
        | false =>
          simp only [hk]
          exact ab_i32 _
    have hF := ac_run_ok (xs := ac_xs av) (Φ := Φ) hFl hFG hK n false [] κ.1 N 0 _ _ none (fun _ => 0) (lv_args 0 av) [] hp hrun ⟨fun j a hm => ab_args_ok 0 hst j a hm, trivial, hG, fun q hq => (by cases hq), hx, hfl, fun q hq => (by cases hq)⟩
    rcases hF with ⟨r, hp', oc, m1, m2, m3, hr⟩ | ⟨pc', lv', st', hp', A', m1, -⟩
    · obtain ⟨q, hq, hrok⟩ := List.any_eq_true.mp (List.all_eq_true.mp h2 oc m1)
      have hl : (lg_sl av).length ≤ px_ml N := by
        rw [ab_lg', ← ab_st_cat hst]
        exact h1
      simp only [ac_rok, Bool.and_eq_true, List.all_eq_true] at hrok
      obtain ⟨w1, w2, w3⟩ := hrok
      refine ⟨r, hp', q, hq, ab_call_ok hN hl hr, m2.2.1, ?_, fun p hp9 => ?_, fun i hi => m2.2.2.2.2 i (ac_in_ok (w3 i hi)), m3⟩
      · have g1 := m2.1
        unfold ac_rv
        cases h8 : oc.1 with
        | none =>
          rw [h8] at w1 g1
          cases h9 : q.1 with
          | none => cases r <;> first | trivial | exact absurd g1 (by simp)
          | some f => rw [h9] at w1; cases w1
        | some a =>
          rw [h8] at w1 g1
          cases h9 : q.1 with
          | none => rw [h9] at w1; cases w1
          | some f =>
            rw [h9] at w1
            cases r with
            | none => exact absurd g1 (by simp)
            | some v => exact ab_le_ok w1 g1.1
      · have := w2 p hp9
        split at this
        · rename_i f b hf hb
          simp only [Bool.and_eq_true, decide_eq_true_eq] at this
          obtain ⟨v, e1, e2⟩ := ac_argv_get hgs hf
          obtain ⟨k, a1, a2, rs⟩ := f
          obtain ⟨x, rfl, -⟩ := ab_k0 this.1 e2
          have hxb := m2.2.2.2.1 _ _ hb
          have hxe : ac_xs av p.1 = x := by unfold ac_xs; rw [e1]
          rw [hxe] at hxb
          exact ⟨.int x, x.toInt, e1, rfl, Int.le_trans this.2.1 hxb.1, Int.le_trans hxb.2 this.2.2⟩
        · cases this
    · cases m1
  · cases h2
