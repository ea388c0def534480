section ac_s4
variable {T : px_T} {X : Option (Nat × (Nat → Int32))} {P : List px_M} {G : List ab_C} {FA : Nat → List Nat} {Φ : Nat → px_H → Prop} {ws : List (Nat × Nat)} {wa : List Nat} {xs : Nat → Int32} {γ : Nat → Int} {A : ac_S} {lv : List (Nat × Value)} {st : List Value} {hp : px_H} {M : px_M} {pc : Nat} {outs : List (Nat × ac_S)}
theorem ac_at_set {c ci k : Nat} {vs : List Value} {u : Value} {cs : List Nat} (hx : hp[c]? = some (.inr (ci, vs))) (hc : c ∈ cs) {l : ab_L} {w : Value} (hl : ab_at xs lv hp l = some w) (hk : ac_kf cs k l = false) : ab_at xs lv (hp.set c (.inr (ci, vs.set k u))) l = some w := by
  refine ab_at_set hx hl rfl ?_
  obtain ⟨a, b, d⟩ := l
  simp only [ac_kf, Bool.and_eq_false_iff] at hk
  simp only [ab_kf, Bool.and_eq_false_iff]
  rcases hk with h | h | h
  · exact Or.inl h
  · refine Or.inr (Or.inl (ab_beq_ne (fun e => ac_in_no h (by rw [e]; exact hc))))
  · exact Or.inr (Or.inr h)
theorem ac_fv_set {c ci k : Nat} {vs : List Value} {u : Value} (hx : hp[c]? = some (.inr (ci, vs))) (hk : k < vs.length) (d m : Nat) : ac_fv (hp.set c (.inr (ci, vs.set k u))) d m = if d = c ∧ m = k then some u else ac_fv hp d m := by
  unfold ac_fv
  by_cases h : d = c
  · subst h
    rw [List.getElem?_set_self (List.getElem?_eq_some_iff.mp hx).1, hx]
    simp only
    by_cases hm : m = k
    · subst hm
      rw [List.getElem?_set_self hk]
      simp
    · rw [List.getElem?_set_ne (Ne.symm hm), if_neg (fun h => hm h.2)]
  · rw [List.getElem?_set_ne (Ne.symm h), if_neg (fun h9 => h h9.1)]
theorem px_fr_obj {c ci k : Nat} {vs : List Value} {u : Value} (hx : hp[c]? = some (.inr (ci, vs))) (hw : (c, k) ∈ ws) : px_fr ws wa hp (hp.set c (.inr (ci, vs.set k u))) := by
  refine ⟨fun d q hd hq => ?_, fun d ci' vs' hv => ?_⟩
  · rw [List.getElem?_set_ne (fun e => by subst e; rw [hx] at hq; cases hq)]
    exact hq
  · by_cases h : d = c
    · subst h
      rw [hx] at hv
      cases hv
      refine ⟨vs.set k u, List.getElem?_set_self (List.getElem?_eq_some_iff.mp hx).1, List.length_set, fun m hm => ?_⟩
      rw [List.getElem?_set_ne (fun e => hm (by rw [← e]; exact hw))]
    · refine ⟨vs', ?_, rfl, fun _ _ => rfl⟩
      rw [List.getElem?_set_ne (Ne.symm h)]
      exact hv
theorem ac_put_ok (hFl : ac_Fl FA Φ) (hA : ac_s G Φ xs γ A lv st hp) {cs : List Nat} {c ci k : Nat} {vs : List Value} {u : Value} {a : ab_V} {f : ab_F} {r : List ab_V} {s : List Value} (hc : c ∈ cs) (hx : hp[c]? = some (.inr (ci, vs))) (hk : k < vs.length) (hau : ab_v xs lv hp a u) (hf1 : ac_f1 G ci k c = some f) (hle : ab_le a.1 f = true) (hr : ab_st xs lv hp r s) {ov' : List ac_O}
    (hov : ∀ q ∈ ov', q = (c, k, a.1) ∨ (q ∈ A.2.2.1 ∧ (Nat.beq q.2.1 k && ac_in q.1 cs) = false)) :
    ac_s G Φ xs γ (A.1.map (fun p => (p.1, ab_kill (ac_kf cs k) p.2)), r.map (ab_kill (ac_kf cs k)), ov', A.2.2.2.1, ac_flt FA cs A.2.2.2.2.1, A.2.2.2.2.2) lv s (hp.set c (.inr (ci, vs.set k u))) := by
  obtain ⟨h1, h2, h3, h4, h5, h6, h7⟩ := hA
  have hP : ∀ l w, ac_kf cs k l = false → ab_at xs lv hp l = some w → ab_at xs lv (hp.set c (.inr (ci, vs.set k u))) l = some w := fun l w q1 q2 => ac_at_set hx hc q2 q1
  refine ⟨fun j b hm => ?_, ab_kill_st hP hr, ⟨by simp only [List.length_set]; exact h3.1, fun m b z hb hz => ?_⟩, fun q hq v hv => ?_, h5, ac_flt_ok hFl hc h6, h7⟩
  · obtain ⟨⟨j0, b0⟩, hm0, he⟩ := List.mem_map.mp hm
    cases he
    obtain ⟨w, hw, hbw⟩ := h1 _ _ hm0
    exact ⟨w, hw, ab_kill_ok hP hbw⟩
  · by_cases hmc : m = c
    · subst hmc
      rw [List.getElem?_set_self (List.getElem?_eq_some_iff.mp hx).1] at hz
      cases hz
      have hold := h3.2 _ _ _ hb hx
      unfold ac_f1 at hf1
      rw [hb] at hf1
      cases b with
      | inr q9 => exact absurd hold (by simp [ab_c])
      | inl q9 =>
        obtain ⟨ci', fs⟩ := q9
        obtain ⟨rfl, hlen, hall⟩ := hold
        simp only [Nat.beq_refl] at hf1
        refine ⟨rfl, by rw [List.length_set]; exact hlen, fun n g w hn hw => ?_⟩
        by_cases hnk : n = k
        · subst hnk
          rw [List.getElem?_set_self hk] at hw
          cases hw
          rw [hf1] at hn
          cases hn
          exact ab_le_ok hle hau.1
        · rw [List.getElem?_set_ne (Ne.symm hnk)] at hw
          exact hall _ _ _ hn hw
    · rw [List.getElem?_set_ne (Ne.symm hmc)] at hz
      exact h3.2 _ _ _ hb hz
  · rw [ac_fv_set hx hk] at hv
    rcases hov q hq with rfl | ⟨hm, hn⟩
    · rw [if_pos ⟨rfl, rfl⟩] at hv
      cases hv
      exact hau.1
    · split at hv
      · rename_i he
        exfalso
        rw [he.1, he.2, Nat.beq_refl, Bool.true_and] at hn
        exact ac_in_no hn hc
      · exact h4 q hm v hv
set_option maxHeartbeats 8000000 in
set_option maxRecDepth 10000 in
theorem ac_step_ok (hFl : ac_Fl FA Φ) (hA : ac_s G Φ xs γ A lv st hp) (h : ac_step T G FA ws wa M pc A = some outs) : ac_R T X P M G Φ ws wa xs γ pc lv st hp outs := by
  obtain ⟨h1, h2, h3, h4, h5, h6, h7⟩ := id hA
  have rf := px_fr_rf ws wa hp
  unfold ac_step at h
  split at h
  · cases h
  rename_i len i hf
  split at h
  · rename_i st' ha
    cases h
    obtain ⟨st'', e1, e2⟩ := ac_alu_ok ha h2
    exact ac_one (List.mem_singleton.mpr rfl) ⟨h1, e2, h3, h4, h5, h6, h7⟩ rf (fun call N0 nc ns => by simp only [px_step, hf, e1])
  rename_i ha
  cases i
  case iload j =>
    simp only at h
    split at h
    · rename_i a hja
      split at h
      · rename_i hk
        cases h
        obtain ⟨v, hv, hav⟩ := h1 _ _ (px_find_mem hja)
        have hld := ac_ld_ok hA hv hav
        obtain ⟨⟨k, a1, a2, r⟩, o⟩ := a
        obtain ⟨x, rfl, hx⟩ := ab_k0 hk hav.1
        exact ac_one (st' := .int x :: st) (List.mem_singleton.mpr rfl) ⟨h1, ⟨hld, h2⟩, h3, h4, h5, h6, h7⟩ rf (fun call N0 nc ns => by simp only [px_step, hf, px_alu, hv])
      · cases h
    · cases h
  case iload_n j =>
    simp only at h
    split at h
    · rename_i a hja
      split at h
      · rename_i hk
        cases h
        obtain ⟨v, hv, hav⟩ := h1 _ _ (px_find_mem hja)
        have hld := ac_ld_ok hA hv hav
        obtain ⟨⟨k, a1, a2, r⟩, o⟩ := a
        obtain ⟨x, rfl, hx⟩ := ab_k0 hk hav.1
        exact ac_one (st' := .int x :: st) (List.mem_singleton.mpr rfl) ⟨h1, ⟨hld, h2⟩, h3, h4, h5, h6, h7⟩ rf (fun call N0 nc ns => by simp only [px_step, hf, px_alu, hv])
      · cases h
    · cases h
  case lload j =>
    simp only at h
    split at h
    · rename_i a hja
      split at h
      · rename_i hk
        cases h
        obtain ⟨v, hv, hav⟩ := h1 _ _ (px_find_mem hja)
        have hld := ac_ld_ok hA hv hav
        obtain ⟨⟨k, a1, a2, r⟩, o⟩ := a
        obtain ⟨x, rfl, hx⟩ := ab_k1' hk hav.1
        exact ac_one (st' := .long x :: st) (List.mem_singleton.mpr rfl) ⟨h1, ⟨hld, h2⟩, h3, h4, h5, h6, h7⟩ rf (fun call N0 nc ns => by simp only [px_step, hf, px_alu, hv])
      · cases h
    · cases h
  case lload_n j =>
    simp only at h
    split at h
    · rename_i a hja
      split at h
      · rename_i hk
        cases h
        obtain ⟨v, hv, hav⟩ := h1 _ _ (px_find_mem hja)
        have hld := ac_ld_ok hA hv hav
        obtain ⟨⟨k, a1, a2, r⟩, o⟩ := a
        obtain ⟨x, rfl, hx⟩ := ab_k1' hk hav.1
        exact ac_one (st' := .long x :: st) (List.mem_singleton.mpr rfl) ⟨h1, ⟨hld, h2⟩, h3, h4, h5, h6, h7⟩ rf (fun call N0 nc ns => by simp only [px_step, hf, px_alu, hv])
      · cases h
    · cases h
  case aload j =>
    simp only at h
    split at h
    · rename_i a hja
      split at h
      · rename_i hk
        cases h
        obtain ⟨v, hv, hav⟩ := h1 _ _ (px_find_mem hja)
        obtain ⟨⟨k, a1, a2, r⟩, o⟩ := a
        obtain ⟨c, rfl, hc⟩ := ab_k2 hk hav.1
        exact ac_one (st' := .ref c :: st) (List.mem_singleton.mpr rfl) ⟨h1, ⟨⟨hav.1, ab_o_none _ _ _ _⟩, h2⟩, h3, h4, h5, h6, h7⟩ rf (fun call N0 nc ns => by simp only [px_step, hf, px_alu, hv])
      · cases h
    · cases h
  case aload_n j =>
    simp only at h
    split at h
    · rename_i a hja
      split at h
      · rename_i hk
        cases h
        obtain ⟨v, hv, hav⟩ := h1 _ _ (px_find_mem hja)
        obtain ⟨⟨k, a1, a2, r⟩, o⟩ := a
        obtain ⟨c, rfl, hc⟩ := ab_k2 hk hav.1
        exact ac_one (st' := .ref c :: st) (List.mem_singleton.mpr rfl) ⟨h1, ⟨⟨hav.1, ab_o_none _ _ _ _⟩, h2⟩, h3, h4, h5, h6, h7⟩ rf (fun call N0 nc ns => by simp only [px_step, hf, px_alu, hv])
      · cases h
    · cases h
  case istore j =>
    simp only at h
    split at h
    · rename_i a r hst
      split at h
      · rename_i hk
        cases h
        simp only [Bool.and_eq_true] at hk
        rw [hst] at h2
        obtain ⟨v, s, rfl, hav, hr⟩ := ab_st_cons h2
        have hav' := hav
        obtain ⟨⟨k, a1, a2, rr⟩, o⟩ := a
        obtain ⟨x, rfl, hx⟩ := ab_k0 hk.1 hav.1
        exact ac_one (List.mem_singleton.mpr rfl) (ac_sto1_ok hA hav' hr _ (ac_no1 h7 _ _)) rf (fun call N0 nc ns => by simp only [px_step, hf, px_alu, hk.2])
      · cases h
    · cases h
  case istore_n j =>
    simp only at h
    split at h
    · rename_i a r hst
      split at h
      · rename_i hk
        cases h
        simp only [Bool.and_eq_true] at hk
        rw [hst] at h2
        obtain ⟨v, s, rfl, hav, hr⟩ := ab_st_cons h2
        have hav' := hav
        obtain ⟨⟨k, a1, a2, rr⟩, o⟩ := a
        obtain ⟨x, rfl, hx⟩ := ab_k0 hk.1 hav.1
        exact ac_one (List.mem_singleton.mpr rfl) (ac_sto1_ok hA hav' hr _ (ac_no1 h7 _ _)) rf (fun call N0 nc ns => by simp only [px_step, hf, px_alu, hk.2])
      · cases h
    · cases h
  case astore j =>
    simp only at h
    split at h
    · rename_i a r hst
      split at h
      · rename_i hk
        cases h
        simp only [Bool.and_eq_true] at hk
        rw [hst] at h2
        obtain ⟨v, s, rfl, hav, hr⟩ := ab_st_cons h2
        have hav' := hav
        obtain ⟨⟨k, a1, a2, rr⟩, o⟩ := a
        obtain ⟨x, rfl, hx⟩ := ab_k2 hk.1 hav.1
        exact ac_one (List.mem_singleton.mpr rfl) (ac_sto1_ok hA hav' hr _ (ac_no1 h7 _ _)) rf (fun call N0 nc ns => by simp only [px_step, hf, px_alu, hk.2])
      · cases h
    · cases h
  case astore_n j =>
    simp only at h
    split at h
    · rename_i a r hst
      split at h
      · rename_i hk
        cases h
        simp only [Bool.and_eq_true] at hk
        rw [hst] at h2
        obtain ⟨v, s, rfl, hav, hr⟩ := ab_st_cons h2
        have hav' := hav
        obtain ⟨⟨k, a1, a2, rr⟩, o⟩ := a
        obtain ⟨x, rfl, hx⟩ := ab_k2 hk.1 hav.1
        exact ac_one (List.mem_singleton.mpr rfl) (ac_sto1_ok hA hav' hr _ (ac_no1 h7 _ _)) rf (fun call N0 nc ns => by simp only [px_step, hf, px_alu, hk.2])
      · cases h
    · cases h
  case lstore j =>
    simp only at h
    split at h
    · rename_i a r hst
      split at h
      · rename_i hk
        cases h
        simp only [Bool.and_eq_true] at hk
        rw [hst] at h2
        obtain ⟨v, s, rfl, hav, hr⟩ := ab_st_cons h2
        have hav' := hav
        obtain ⟨⟨k, a1, a2, rr⟩, o⟩ := a
        obtain ⟨x, rfl, hx⟩ := ab_k1' hk.1 hav.1
        exact ac_one (List.mem_singleton.mpr rfl) (ac_sto2_ok hA hav' hr _ (ac_no2 h7 _ _)) rf (fun call N0 nc ns => by simp only [px_step, hf, px_alu, hk.2])
      · cases h
    · cases h
  case lstore_n j =>
    simp only at h
    split at h
    · rename_i a r hst
      split at h
      · rename_i hk
        cases h
        simp only [Bool.and_eq_true] at hk
        rw [hst] at h2
        obtain ⟨v, s, rfl, hav, hr⟩ := ab_st_cons h2
        have hav' := hav
        obtain ⟨⟨k, a1, a2, rr⟩, o⟩ := a
        obtain ⟨x, rfl, hx⟩ := ab_k1' hk.1 hav.1
        exact ac_one (List.mem_singleton.mpr rfl) (ac_sto2_ok hA hav' hr _ (ac_no2 h7 _ _)) rf (fun call N0 nc ns => by simp only [px_step, hf, px_alu, hk.2])
      · cases h
    · cases h
  case iinc j n =>
    simp only at h
    split at h
    · rename_i a1 a2 r o hja hj
      cases h
      obtain ⟨v, hv, hav⟩ := h1 _ _ (px_find_mem hja)
      obtain ⟨x, rfl, hx⟩ := ab_f0 hav.1
      have hq := ab_bi_ok (f := fun x y => x + y) (rule := ab_radd ab_topi) ab_add_ok hx (b := ((Int32.ofInt n).toInt, (Int32.ofInt n).toInt)) (y := Int32.ofInt n) ⟨Int.le_refl _, Int.le_refl _⟩
      have hrl : ac_rl γ (match decide (-2147483648 ≤ a1 + (Int32.ofInt n).toInt) && decide (a2 + (Int32.ofInt n).toInt ≤ 2147483647) with
            | true => ac_inc j (Int32.ofInt n).toInt A.2.2.2.2.2
            | false => ac_no j A.2.2.2.2.2) (px_st1 lv j (.int (x + Int32.ofInt n))) := by
        split
        · rename_i hb
          simp only [Bool.and_eq_true, decide_eq_true_eq] at hb
          intro q hq9
          obtain ⟨⟨j0, c0⟩, hm, he⟩ := List.mem_map.mp hq9
          obtain ⟨z, hz1, hz2⟩ := h7 _ hm
          simp only at he hz1 hz2
          split at he
          · rename_i hjj
            have hjj := Nat.eq_of_beq_eq_true hjj
            subst hjj
            subst he
            rw [hv] at hz1
            cases hz1
            refine ⟨x + Int32.ofInt n, ?_, ?_⟩
            · unfold px_st1 px_find
              rw [Nat.beq_refl]
            · have b0 := hx.1
              have b1 := hx.2
              simp only at b0 b1
              rw [Int32.toInt_add, ab_bmod32 (by omega) (by omega), hz2]
              simp only
              omega
          · rename_i hjj
            subst he
            exact ⟨z, ab_sto1_find hz1 (Nat.ne_of_beq_eq_false hjj) (fun _ hc => by cases hc), hz2⟩
        · exact ac_no1 h7 _ _
      exact ac_one (List.mem_singleton.mpr rfl) (ac_sto1_ok hA (v := .int (x + Int32.ofInt n)) ⟨⟨rfl, hq.1, hq.2⟩, ab_o_none _ _ _ _⟩ h2 _ hrl) rf (fun call N0 nc ns => by simp only [px_step, hf, px_alu, hv, hj])
    · cases h
  case ifCond c off =>
    simp only at h
    split at h
    · rename_i x o r hst
      cases h
      rw [hst] at h2
      obtain ⟨v, s, rfl, hav, hr⟩ := ab_st_cons h2
      obtain ⟨z1, z2, z3⟩ := x
      obtain ⟨y, rfl, hy⟩ := ab_f0 hav.1
      cases hc : px_cmp c y 0 with
      | true =>
        obtain ⟨A', m1, m2⟩ := ac_to_ok (ac_rest hA hr) hav (ab_const_ok 0) rfl rfl ((ab_cmp_rel c y 0).1 hc) (px_tgt pc off)
        exact ac_one (List.mem_append_left _ m1) m2 rf (fun call N0 nc ns => by simp only [px_step, hf, px_alu, hc])
      | false =>
        obtain ⟨A', m1, m2⟩ := ac_to_ok (ac_rest hA hr) hav (ab_const_ok 0) rfl rfl ((ab_cmp_rel c y 0).2 hc) (pc + 3)
        exact ac_one (List.mem_append_right _ m1) m2 rf (fun call N0 nc ns => by simp only [px_step, hf, px_alu, hc])
    · cases h
  case if_icmp c off =>
    simp only at h
    split at h
    · rename_i y o' x o r hst
      cases h
      rw [hst] at h2
      obtain ⟨v, s, rfl, hav, hr0⟩ := ab_st_cons h2
      obtain ⟨w, s, rfl, haw, hr⟩ := ab_st_cons hr0
      obtain ⟨z1, z2, z3⟩ := x
      obtain ⟨t1, t2, t3⟩ := y
      obtain ⟨b, rfl, hb⟩ := ab_f0 hav.1
      obtain ⟨a, rfl, ha9⟩ := ab_f0 haw.1
      cases hc : px_cmp c a b with
      | true =>
        obtain ⟨A', m1, m2⟩ := ac_to_ok (ac_rest hA hr) haw hav rfl rfl ((ab_cmp_rel c a b).1 hc) (px_tgt pc off)
        exact ac_one (List.mem_append_left _ m1) m2 rf (fun call N0 nc ns => by simp only [px_step, hf, px_alu, hc])
      | false =>
        obtain ⟨A', m1, m2⟩ := ac_to_ok (ac_rest hA hr) haw hav rfl rfl ((ab_cmp_rel c a b).2 hc) (pc + 3)
        exact ac_one (List.mem_append_right _ m1) m2 rf (fun call N0 nc ns => by simp only [px_step, hf, px_alu, hc])
    · cases h
  case goto off =>
    cases h
    exact ac_one (List.mem_singleton.mpr rfl) hA rf (fun call N0 nc ns => by simp only [px_step, hf, px_alu])
  case ldc idx =>
    simp only at h
    split at h
    · rename_i v hj
      cases h
      exact ac_one (st' := .int (Int32.ofInt v) :: st) (List.mem_singleton.mpr rfl) ⟨h1, ⟨ab_const_ok _, h2⟩, h3, h4, h5, h6, h7⟩ rf (fun call N0 nc ns => by simp only [px_step, hf, px_alu, hj])
    · cases h
  case ldc_w idx =>
    simp only at h
    split at h
    · rename_i v hj
      cases h
      exact ac_one (st' := .int (Int32.ofInt v) :: st) (List.mem_singleton.mpr rfl) ⟨h1, ⟨ab_const_ok _, h2⟩, h3, h4, h5, h6, h7⟩ rf (fun call N0 nc ns => by simp only [px_step, hf, px_alu, hj])
    · cases h
  case ldc2_w idx =>
    simp only at h
    split at h
    · rename_i v hj
      cases h
      exact ac_one (st' := .long (Int64.ofInt v) :: st) (List.mem_singleton.mpr rfl) ⟨h1, ⟨⟨⟨rfl, Int.le_refl _, Int.le_refl _⟩, ab_o_none _ _ _ _⟩, h2⟩, h3, h4, h5, h6, h7⟩ rf (fun call N0 nc ns => by simp only [px_step, hf, px_alu, hj])
    · cases h
  case tableswitch dflt lo hi offs =>
    simp only at h
    split at h
    · rename_i x o r hst
      split at h
      · rename_i hsz
        cases h
        have hsz := of_decide_eq_true hsz
        rw [hst] at h2
        obtain ⟨v, s, rfl, hav, hr⟩ := ab_st_cons h2
        obtain ⟨z1, z2, z3⟩ := x
        obtain ⟨y, rfl, hy⟩ := ab_f0 hav.1
        by_cases c1 : y.toInt < lo
        · obtain ⟨A', m1, m2⟩ := ac_toc_ok (ac_rest hA hr) hav rfl (c := .lt) (b := lo) c1 (px_tgt pc dflt)
          exact ac_one (List.mem_append_right _ (List.mem_append_left _ m1)) m2 rf (fun call N0 nc ns => by simp only [px_step, hf, px_alu, decide_eq_true c1, Bool.true_or])
        · by_cases c2 : hi < y.toInt
          · obtain ⟨A', m1, m2⟩ := ac_toc_ok (ac_rest hA hr) hav rfl (c := .gt) (b := hi) c2 (px_tgt pc dflt)
            exact ac_one (List.mem_append_right _ (List.mem_append_right _ m1)) m2 rf (fun call N0 nc ns => by simp only [px_step, hf, px_alu, decide_eq_true c2, Bool.or_true])
          · have hlt : (y.toInt - lo).toNat < offs.size := by omega
            have hoff : offs[(y.toInt - lo).toNat]? = some (offs[(y.toInt - lo).toNat]'hlt) := Array.getElem?_eq_getElem hlt
            obtain ⟨A', m1, m2⟩ := ac_toc_ok (ac_rest hA hr) hav rfl (c := .eq) (b := lo + ((y.toInt - lo).toNat : Int)) (show y.toInt = _ by omega) (px_tgt pc (offs[(y.toInt - lo).toNat]'hlt))
            refine ac_one (pc' := px_tgt pc (offs[(y.toInt - lo).toNat]'hlt)) (A' := A') (List.mem_append_left _ (List.mem_flatMap.mpr ⟨(y.toInt - lo).toNat, List.mem_range.mpr hlt, ?_⟩)) m2 rf (fun call N0 nc ns => by simp only [px_step, hf, px_alu, decide_eq_false c1, decide_eq_false c2, Bool.or_self, hoff])
            simp only [hoff]
            exact m1
      · cases h
    · cases h
  case lookupswitch dflt ps =>
    simp only at h
    split at h
    · rename_i x o r hst
      split at h
      · rename_i hok
        cases h
        simp only [Bool.and_eq_true, decide_eq_true_eq, List.all_eq_true] at hok
        rw [hst] at h2
        obtain ⟨v, s, rfl, hav, hr⟩ := ab_st_cons h2
        obtain ⟨z1, z2, z3⟩ := x
        obtain ⟨y, rfl, hy⟩ := ab_f0 hav.1
        have hoff : Op.lookupswitch.offset ps.toList dflt y.toInt = dflt ∨ ∃ q ∈ ps.toList, Op.lookupswitch.offset ps.toList dflt y.toInt = q.2 := by
          rcases hfd : ps.toList.find? (·.1 == y.toInt) with _ | ⟨a, b⟩
          · exact Or.inl (Op.lookupswitch.offset_none hfd)
          · exact Or.inr ⟨(a, b), List.mem_of_find?_eq_some hfd, Op.lookupswitch.offset_some hfd⟩
        rcases hoff with he | ⟨q, hq, he⟩
        · exact ac_one List.mem_cons_self (ac_rest hA hr) rf (fun call N0 nc ns => by simp only [px_step, hf, px_alu, he, decide_eq_true hok.1])
        · exact ac_one (List.mem_cons_of_mem _ (List.mem_map.mpr ⟨q, hq, rfl⟩)) (ac_rest hA hr) rf (fun call N0 nc ns => by simp only [px_step, hf, px_alu, he, decide_eq_true (hok.2 q hq)])
      · cases h
    · cases h
  case getfield idx =>
    simp only at h
    split at h
    · rename_i ci k fl c1 c2 c o r hj hst
      rw [hst] at h2
      obtain ⟨v, s, rfl, hav, hr⟩ := ab_st_cons h2
      have hv := ab_ref1 hav
      subst hv
      split at h
      · rename_i f0 f e1 e2
        cases h
        obtain ⟨vs, u, hx, hu, -, -⟩ := ac_f1_ok h3 e1
        have hfv : ac_fv hp c k = some u := by unfold ac_fv; rw [hx]; exact hu
        have hfu := ac_fF_ok h3 h4 e2 hfv
        refine ac_one (st' := u :: s) (List.mem_singleton.mpr rfl) ⟨h1, ⟨⟨hfu, fun l hl => ?_⟩, hr⟩, h3, h4, h5, h6, h7⟩ rf (fun call N0 nc ns => by simp only [px_step, hf, px_alu, hj, hx, Nat.beq_refl, hu])
        split at hl
        · cases hl
          exact ⟨u, hfv, rfl⟩
        · cases hl
      · cases h
    · rename_i ci k fl c1 c2 cs o r hno hj hst
      rw [hst] at h2
      obtain ⟨v, s, rfl, hav, hr⟩ := ab_st_cons h2
      obtain ⟨c, rfl, hc⟩ := ab_f2 hav.1
      split at h
      · rename_i f hfm
        cases h
        obtain ⟨vs, u, hx, hu, hfu⟩ := ac_fm_ok h3 hfm hc
        exact ac_one (st' := u :: s) (List.mem_singleton.mpr rfl) ⟨h1, ⟨⟨hfu, ab_o_none _ _ _ _⟩, hr⟩, h3, h4, h5, h6, h7⟩ rf (fun call N0 nc ns => by simp only [px_step, hf, px_alu, hj, hx, Nat.beq_refl, hu])
      · cases h
    · cases h
  case putfield idx =>
    simp only at h
    split at h
    · rename_i ci k fl a c1 c2 cs o r hj hst
      rw [hst] at h2
      obtain ⟨u, s0, rfl, hau, hr0⟩ := ab_st_cons h2
      obtain ⟨v, s, rfl, hav, hr⟩ := ab_st_cons hr0
      obtain ⟨c, rfl, hc⟩ := ab_f2 hav.1
      split at h
      · rename_i n tys hT
        split at h
        · rename_i ty hty hfl
          split at h
          · rename_i hok
            cases h
            simp only [Bool.and_eq_true] at hok
            have hp1 := List.all_eq_true.mp hok.2 c hc
            unfold ac_p1 at hp1
            split at hp1
            · rename_i f hf1
              simp only [Bool.and_eq_true] at hp1
              obtain ⟨vs, w, hx, -, -, hlt⟩ := ac_f1_ok h3 hf1
              refine ac_one (lv' := lv) (st' := s) (hp' := hp.set c (.inr (ci, vs.set k u))) (List.mem_singleton.mpr rfl) (ac_put_ok hFl hA hc hx hlt hau hf1 hp1.1 hr ?_) (px_fr_obj hx (ac_has_ok hp1.2)) (fun call N0 nc ns => by simp only [px_step, hf, px_alu, hj, hx, hT, Nat.beq_refl, hty, decide_eq_true hlt, hfl, ab_fits_ok hok.1 hau.1])
              intro q hq
              split at hq
              · rename_i c9
                cases List.mem_singleton.mp hc
                rcases List.mem_cons.mp hq with he | hq
                · exact Or.inl he
                · obtain ⟨q1, q2⟩ := List.mem_filter.mp hq
                  exact Or.inr ⟨q1, (Bool.not_eq_true' _).mp q2⟩
              · obtain ⟨q1, q2⟩ := List.mem_filter.mp hq
                exact Or.inr ⟨q1, (Bool.not_eq_true' _).mp q2⟩
            · cases hp1
          · cases h
        · cases h
      · cases h
    · cases h
  case iaload =>
    obtain ⟨j, a, s, v, A', rfl, e1, e2, e3⟩ := ac_aload_ok (X := X) hA h
    exact ac_one e2 e3 rf (fun call N0 nc ns => by simp only [px_step, hf, px_alu, e1, Option.map_some])
  case baload =>
    obtain ⟨j, a, s, v, A', rfl, e1, e2, e3⟩ := ac_aload_ok (X := X) hA h
    exact ac_one e2 e3 rf (fun call N0 nc ns => by simp only [px_step, hf, px_alu, e1, Option.map_some])
  case laload =>
    obtain ⟨j, a, s, v, A', rfl, e1, e2, e3⟩ := ac_aload_ok (X := X) hA h
    exact ac_one e2 e3 rf (fun call N0 nc ns => by simp only [px_step, hf, px_alu, e1, Option.map_some])
  case aaload =>
    obtain ⟨j, a, s, v, A', rfl, e1, e2, e3⟩ := ac_aload_ok (X := X) hA h
    exact ac_one e2 e3 rf (fun call N0 nc ns => by simp only [px_step, hf, px_alu, e1, Option.map_some])
  case iastore =>
    obtain ⟨v, j, a, s, hp', A', rfl, e1, e2, e3, e4⟩ := ac_astore_ok (ws := ws) hFl hA h
    exact ac_one e2 e3 e4 (fun call N0 nc ns => by simp only [px_step, hf, px_alu, e1, Option.map_some])
  case bastore =>
    obtain ⟨v, j, a, s, hp', A', rfl, e1, e2, e3, e4⟩ := ac_astore_ok (ws := ws) hFl hA h
    exact ac_one e2 e3 e4 (fun call N0 nc ns => by simp only [px_step, hf, px_alu, e1, Option.map_some])
  case lastore =>
    obtain ⟨v, j, a, s, hp', A', rfl, e1, e2, e3, e4⟩ := ac_astore_ok (ws := ws) hFl hA h
    exact ac_one e2 e3 e4 (fun call N0 nc ns => by simp only [px_step, hf, px_alu, e1, Option.map_some])
  case lcmp =>
    simp only at h
    split at h
    · rename_i y o' x o r c off hst hf2
      cases h
      rw [hst] at h2
      obtain ⟨v, s0, rfl, hav, hr0⟩ := ab_st_cons h2
      obtain ⟨w, s, rfl, haw, hr⟩ := ab_st_cons hr0
      obtain ⟨z1, z2, z3⟩ := x
      obtain ⟨t1, t2, t3⟩ := y
      obtain ⟨b, rfl, hb⟩ := ab_f1 hav.1
      obtain ⟨a, rfl, ha9⟩ := ab_f1 haw.1
      cases hc : px_cmp c (lg_cmp a b) 0 with
      | true =>
        obtain ⟨A', m1, m2⟩ := ac_to_ok (ac_rest hA hr) haw hav rfl rfl ((ab_lcmp_rel c a b).1 hc) (px_tgt (pc + len) off)
        exact ⟨_, _, _, _, A', List.mem_append_left _ m1, m2, rf, 2, fun call N0 nc ns => by simp only [px_its, px_step, hf, px_alu, px_lc, hf2, hc]⟩
      | false =>
        obtain ⟨A', m1, m2⟩ := ac_to_ok (ac_rest hA hr) haw hav rfl rfl ((ab_lcmp_rel c a b).2 hc) (pc + len + 3)
        exact ⟨_, _, _, _, A', List.mem_append_right _ m1, m2, rf, 2, fun call N0 nc ns => by simp only [px_its, px_step, hf, px_alu, px_lc, hf2, hc]⟩
    · cases h
  all_goals cases h
end ac_s4
