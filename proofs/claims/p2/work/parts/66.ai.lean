theorem ab_toc_ok {xs : Nat → Int32} {lv : List (Nat × Value)} {st : List Value} {hp : px_H} {A : ab_S} (hA : ab_s xs A lv st hp) {c : ClassFile.Cond} {x : ab_V} {v : Value} {a b : Int} (hx : ab_v xs lv hp x v) (hv : ab_num v = some a) (hr : ab_rel c a b) (q : Nat) : ∃ A', (q, A') ∈ ab_to q c x (ab_const b) A ∧ ab_s xs A' lv st hp := by
  obtain ⟨⟨kx, x1, x2, rx⟩, ox⟩ := x
  have h := ab_cnd_ok hr (ab_num_f hx.1 hv) (show ab_in (b, b) b from ⟨Int.le_refl _, Int.le_refl _⟩)
  have e : ab_if c ((kx, x1, x2, rx), ox) (ab_const b) A = some (ab_refine A ox (ab_cnd c (x1, x2) (b, b)).1) := if_pos ⟨Int.le_trans h.1.1 h.1.2, Int.le_trans h.2.1 h.2.2⟩
  refine ⟨_, by unfold ab_to; rw [e]; exact List.mem_singleton.mpr rfl, ab_refine_ok hA (fun l hl => ?_)⟩
  obtain ⟨u, hu, e2⟩ := hx.2 l hl
  exact ⟨u, a, hu, by rw [e2, hv], h.1⟩
theorem ab_lcmp_rel (c : ClassFile.Cond) (x y : Int64) : (px_cmp c (lg_cmp x y) 0 = true → ab_rel c x.toInt y.toInt) ∧ (px_cmp c (lg_cmp x y) 0 = false → ab_rel (ab_neg c) x.toInt y.toInt) := by
  have z0 : (0 : Int32).toInt = 0 := rfl
  have z1 : (1 : Int32).toInt = 1 := rfl
  have z2 : (-1 : Int32).toInt = -1 := rfl
  have h := ab_cmp_rel c (lg_cmp x y) 0
  rw [z0] at h
  have e : (x > y ∧ (lg_cmp x y).toInt = 1) ∨ (x = y ∧ (lg_cmp x y).toInt = 0) ∨ (x < y ∧ (lg_cmp x y).toInt = -1) := by
    unfold lg_cmp
    split
    · rename_i h1; exact Or.inl ⟨h1, z1⟩
    · split
      · rename_i h1 h2; exact Or.inr (Or.inl ⟨h2, z0⟩)
      · rename_i h1 h2
        refine Or.inr (Or.inr ⟨?_, z2⟩)
        rw [GT.gt, Int64.lt_iff_toInt_lt] at h1
        rw [← Int64.toInt_inj] at h2
        rw [Int64.lt_iff_toInt_lt]
        omega
  rw [GT.gt, Int64.lt_iff_toInt_lt, Int64.lt_iff_toInt_lt, ← Int64.toInt_inj] at e
  refine ⟨fun h1 => ?_, fun h1 => ?_⟩
  · have h2 := h.1 h1
    cases c <;> simp only [ab_rel] at h2 ⊢ <;> omega
  · have h2 := h.2 h1
    cases c <;> simp only [ab_rel, ab_neg] at h2 ⊢ <;> omega
section ab_s7
variable {xs : Nat → Int32} {lv : List (Nat × Value)} {st : List Value} {hp : px_H} {A : ab_S} {T : px_T} {X : Option (Nat × (Nat → Int32))} {P : List px_M} {M : px_M} {pc : Nat} {outs : List (Nat × ab_S)} {L : Option Nat}
theorem ab_rest (hA : ab_s xs A lv st hp) {r : List ab_V} {s : List Value} (hr : ab_st xs lv hp r s) : ab_s xs (A.1, r, A.2.2) lv s hp := ⟨hA.1, hr, hA.2.2.1, hA.2.2.2⟩
set_option maxHeartbeats 8000000 in
set_option maxRecDepth 10000 in
theorem ab_step_ok (hA : ab_s xs A lv st hp) (hX : ∀ n, L = some n → X = some (n, xs)) (h : ab_step T L M pc A = some outs) : ab_R T X P M xs pc lv st hp outs := by
  obtain ⟨h1, h2, h3, h4⟩ := id hA
  unfold ab_step at h
  split at h
  · cases h
  rename_i len i hf
  split at h
  · rename_i st' ha
    cases h
    obtain ⟨st'', e1, e2⟩ := ab_alu_ok ha h2
    exact ab_one (List.mem_singleton.mpr rfl) ⟨h1, e2, h3, h4⟩ (fun call N0 nc ns => by simp only [px_step, hf, e1])
  rename_i ha
  cases i
  case iload j =>
    simp only at h
    split at h
    · rename_i a hja
      split at h
      · rename_i hk
        cases h
        obtain ⟨v, hv, hav⟩ := h1 _ _ (px_find_mem hja)
        obtain ⟨⟨k, a1, a2, r⟩, o⟩ := a
        obtain ⟨x, rfl, hx⟩ := ab_k0 hk hav.1
        exact ab_one (st' := .int x :: st) (List.mem_singleton.mpr rfl) ⟨h1, ⟨ab_ld_ok hA hv hav, h2⟩, h3, h4⟩ (fun call N0 nc ns => by simp only [px_step, hf, px_alu, hv])
      · cases h
    · cases h
  case iload_n j =>
    simp only at h
    split at h
    · rename_i a hja
      split at h
      · rename_i hk
        cases h
        obtain ⟨v, hv, hav⟩ := h1 _ _ (px_find_mem hja)
        obtain ⟨⟨k, a1, a2, r⟩, o⟩ := a
        obtain ⟨x, rfl, hx⟩ := ab_k0 hk hav.1
        exact ab_one (st' := .int x :: st) (List.mem_singleton.mpr rfl) ⟨h1, ⟨ab_ld_ok hA hv hav, h2⟩, h3, h4⟩ (fun call N0 nc ns => by simp only [px_step, hf, px_alu, hv])
      · cases h
    · cases h
  case lload j =>
    simp only at h
    split at h
    · rename_i a hja
      split at h
      · rename_i hk
        cases h
        obtain ⟨v, hv, hav⟩ := h1 _ _ (px_find_mem hja)
        obtain ⟨⟨k, a1, a2, r⟩, o⟩ := a
        obtain ⟨x, rfl, hx⟩ := ab_k1' hk hav.1
        exact ab_one (st' := .long x :: st) (List.mem_singleton.mpr rfl) ⟨h1, ⟨ab_ld_ok hA hv hav, h2⟩, h3, h4⟩ (fun call N0 nc ns => by simp only [px_step, hf, px_alu, hv])
      · cases h
    · cases h
  case lload_n j =>
    simp only at h
    split at h
    · rename_i a hja
      split at h
      · rename_i hk
        cases h
        obtain ⟨v, hv, hav⟩ := h1 _ _ (px_find_mem hja)
        obtain ⟨⟨k, a1, a2, r⟩, o⟩ := a
        obtain ⟨x, rfl, hx⟩ := ab_k1' hk hav.1
        exact ab_one (st' := .long x :: st) (List.mem_singleton.mpr rfl) ⟨h1, ⟨ab_ld_ok hA hv hav, h2⟩, h3, h4⟩ (fun call N0 nc ns => by simp only [px_step, hf, px_alu, hv])
      · cases h
    · cases h
  case aload j =>
    simp only at h
    split at h
    · rename_i a hja
      split at h
      · rename_i hk
        cases h
        obtain ⟨v, hv, hav⟩ := h1 _ _ (px_find_mem hja)
        obtain ⟨⟨k, a1, a2, r⟩, o⟩ := a
        have hv2 : (∃ c, v = .ref c) ∨ ∃ c, v = .retAddr c := by
          simp only [Bool.or_eq_true] at hk
          rcases hk with hk | hk
          · obtain ⟨c, rfl, -⟩ := ab_k2 hk hav.1; exact Or.inl ⟨c, rfl⟩
          · have := Nat.eq_of_beq_eq_true hk
            subst this
            have h9 := hav.1
            cases v <;> first | exact Or.inr ⟨_, rfl⟩ | (exact absurd h9.1 (by decide)) | (exact absurd h9 (by simp [ab_f]))
        rcases hv2 with ⟨c, rfl⟩ | ⟨c, rfl⟩
        · exact ab_one (st' := .ref c :: st) (List.mem_singleton.mpr rfl) ⟨h1, ⟨⟨hav.1, ab_o_none _ _ _ _⟩, h2⟩, h3, h4⟩ (fun call N0 nc ns => by simp only [px_step, hf, px_alu, hv])
        · exact ab_one (st' := .retAddr c :: st) (List.mem_singleton.mpr rfl) ⟨h1, ⟨⟨hav.1, ab_o_none _ _ _ _⟩, h2⟩, h3, h4⟩ (fun call N0 nc ns => by simp only [px_step, hf, px_alu, hv])
      · cases h
    · cases h
  case aload_n j =>
    simp only at h
    split at h
    · rename_i a hja
      split at h
      · rename_i hk
        cases h
        obtain ⟨v, hv, hav⟩ := h1 _ _ (px_find_mem hja)
        obtain ⟨⟨k, a1, a2, r⟩, o⟩ := a
        have hv2 : (∃ c, v = .ref c) ∨ ∃ c, v = .retAddr c := by
          simp only [Bool.or_eq_true] at hk
          rcases hk with hk | hk
          · obtain ⟨c, rfl, -⟩ := ab_k2 hk hav.1; exact Or.inl ⟨c, rfl⟩
          · have := Nat.eq_of_beq_eq_true hk
            subst this
            have h9 := hav.1
            cases v <;> first | exact Or.inr ⟨_, rfl⟩ | (exact absurd h9.1 (by decide)) | (exact absurd h9 (by simp [ab_f]))
        rcases hv2 with ⟨c, rfl⟩ | ⟨c, rfl⟩
        · exact ab_one (st' := .ref c :: st) (List.mem_singleton.mpr rfl) ⟨h1, ⟨⟨hav.1, ab_o_none _ _ _ _⟩, h2⟩, h3, h4⟩ (fun call N0 nc ns => by simp only [px_step, hf, px_alu, hv])
        · exact ab_one (st' := .retAddr c :: st) (List.mem_singleton.mpr rfl) ⟨h1, ⟨⟨hav.1, ab_o_none _ _ _ _⟩, h2⟩, h3, h4⟩ (fun call N0 nc ns => by simp only [px_step, hf, px_alu, hv])
      · cases h
    · cases h
  case istore j =>
    simp only at h
    split at h
    · rename_i a r hst
      split at h
      · rename_i hk
        cases h
        simp only [Bool.and_eq_true] at hk
        rw [hst] at h2
        obtain ⟨v, s, rfl, hav, hr⟩ := ab_st_cons h2
        have hav' := hav
        obtain ⟨⟨k, a1, a2, rr⟩, o⟩ := a
        obtain ⟨x, rfl, hx⟩ := ab_k0 hk.1 hav.1
        exact ab_one (List.mem_singleton.mpr rfl) (ab_sto1_ok hA hav' hr _) (fun call N0 nc ns => by simp only [px_step, hf, px_alu, hk.2])
      · cases h
    · cases h
  case istore_n j =>
    simp only at h
    split at h
    · rename_i a r hst
      split at h
      · rename_i hk
        cases h
        simp only [Bool.and_eq_true] at hk
        rw [hst] at h2
        obtain ⟨v, s, rfl, hav, hr⟩ := ab_st_cons h2
        have hav' := hav
        obtain ⟨⟨k, a1, a2, rr⟩, o⟩ := a
        obtain ⟨x, rfl, hx⟩ := ab_k0 hk.1 hav.1
        exact ab_one (List.mem_singleton.mpr rfl) (ab_sto1_ok hA hav' hr _) (fun call N0 nc ns => by simp only [px_step, hf, px_alu, hk.2])
      · cases h
    · cases h
  case astore j =>
    simp only at h
    split at h
    · rename_i a r hst
      split at h
      · rename_i hk
        cases h
        simp only [Bool.and_eq_true] at hk
        rw [hst] at h2
        obtain ⟨v, s, rfl, hav, hr⟩ := ab_st_cons h2
        have hav' := hav
        obtain ⟨⟨k, a1, a2, rr⟩, o⟩ := a
        obtain ⟨x, rfl, hx⟩ := ab_k2 hk.1 hav.1
        exact ab_one (List.mem_singleton.mpr rfl) (ab_sto1_ok hA hav' hr _) (fun call N0 nc ns => by simp only [px_step, hf, px_alu, hk.2])
      · cases h
    · cases h
  case astore_n j =>
    simp only at h
    split at h
    · rename_i a r hst
      split at h
      · rename_i hk
        cases h
        simp only [Bool.and_eq_true] at hk
        rw [hst] at h2
        obtain ⟨v, s, rfl, hav, hr⟩ := ab_st_cons h2
        have hav' := hav
        obtain ⟨⟨k, a1, a2, rr⟩, o⟩ := a
        obtain ⟨x, rfl, hx⟩ := ab_k2 hk.1 hav.1
        exact ab_one (List.mem_singleton.mpr rfl) (ab_sto1_ok hA hav' hr _) (fun call N0 nc ns => by simp only [px_step, hf, px_alu, hk.2])
      · cases h
    · cases h
  case lstore j =>
    simp only at h
    split at h
    · rename_i a r hst
      split at h
      · rename_i hk
        cases h
        simp only [Bool.and_eq_true] at hk
        rw [hst] at h2
        obtain ⟨v, s, rfl, hav, hr⟩ := ab_st_cons h2
        have hav' := hav
        obtain ⟨⟨k, a1, a2, rr⟩, o⟩ := a
        obtain ⟨x, rfl, hx⟩ := ab_k1' hk.1 hav.1
        exact ab_one (List.mem_singleton.mpr rfl) (ab_sto2_ok hA hav' hr _) (fun call N0 nc ns => by simp only [px_step, hf, px_alu, hk.2])
      · cases h
    · cases h
  case lstore_n j =>
    simp only at h
    split at h
    · rename_i a r hst
      split at h
      · rename_i hk
        cases h
        simp only [Bool.and_eq_true] at hk
        rw [hst] at h2
        obtain ⟨v, s, rfl, hav, hr⟩ := ab_st_cons h2
        have hav' := hav
        obtain ⟨⟨k, a1, a2, rr⟩, o⟩ := a
        obtain ⟨x, rfl, hx⟩ := ab_k1' hk.1 hav.1
        exact ab_one (List.mem_singleton.mpr rfl) (ab_sto2_ok hA hav' hr _) (fun call N0 nc ns => by simp only [px_step, hf, px_alu, hk.2])
      · cases h
    · cases h
  case iinc j n =>
    simp only at h
    split at h
    · rename_i a1 a2 r o hja hj
      cases h
      obtain ⟨v, hv, hav⟩ := h1 _ _ (px_find_mem hja)
      obtain ⟨x, rfl, hx⟩ := ab_f0 hav.1
      have hq := ab_bi_ok (f := fun x y => x + y) (rule := ab_radd ab_topi) ab_add_ok hx (b := ((Int32.ofInt n).toInt, (Int32.ofInt n).toInt)) (y := Int32.ofInt n) ⟨Int.le_refl _, Int.le_refl _⟩
      exact ab_one (List.mem_singleton.mpr rfl) (ab_sto1_ok hA (v := .int (x + Int32.ofInt n)) ⟨⟨rfl, hq.1, hq.2⟩, ab_o_none _ _ _ _⟩ h2 _) (fun call N0 nc ns => by simp only [px_step, hf, px_alu, hv, hj])
    · cases h
  case ifCond c off =>
    simp only at h
    split at h
    · rename_i x o r hst
      cases h
      rw [hst] at h2
      obtain ⟨v, s, rfl, hav, hr⟩ := ab_st_cons h2
      obtain ⟨z1, z2, z3⟩ := x
      obtain ⟨y, rfl, hy⟩ := ab_f0 hav.1
      cases hc : px_cmp c y 0 with
      | true =>
        obtain ⟨A', m1, m2⟩ := ab_to_ok (ab_rest hA hr) hav (ab_const_ok 0) rfl rfl ((ab_cmp_rel c y 0).1 hc) (px_tgt pc off)
        exact ab_one (List.mem_append_left _ m1) m2 (fun call N0 nc ns => by simp only [px_step, hf, px_alu, hc])
      | false =>
        obtain ⟨A', m1, m2⟩ := ab_to_ok (ab_rest hA hr) hav (ab_const_ok 0) rfl rfl ((ab_cmp_rel c y 0).2 hc) (pc + 3)
        exact ab_one (List.mem_append_right _ m1) m2 (fun call N0 nc ns => by simp only [px_step, hf, px_alu, hc])
    · cases h
  case if_icmp c off =>
    simp only at h
    split at h
    · rename_i y o' x o r hst
      cases h
      rw [hst] at h2
      obtain ⟨v, s, rfl, hav, hr0⟩ := ab_st_cons h2
      obtain ⟨w, s, rfl, haw, hr⟩ := ab_st_cons hr0
      obtain ⟨z1, z2, z3⟩ := x
      obtain ⟨t1, t2, t3⟩ := y
      obtain ⟨b, rfl, hb⟩ := ab_f0 hav.1
      obtain ⟨a, rfl, ha9⟩ := ab_f0 haw.1
      cases hc : px_cmp c a b with
      | true =>
        obtain ⟨A', m1, m2⟩ := ab_to_ok (ab_rest hA hr) haw hav rfl rfl ((ab_cmp_rel c a b).1 hc) (px_tgt pc off)
        exact ab_one (List.mem_append_left _ m1) m2 (fun call N0 nc ns => by simp only [px_step, hf, px_alu, hc])
      | false =>
        obtain ⟨A', m1, m2⟩ := ab_to_ok (ab_rest hA hr) haw hav rfl rfl ((ab_cmp_rel c a b).2 hc) (pc + 3)
        exact ab_one (List.mem_append_right _ m1) m2 (fun call N0 nc ns => by simp only [px_step, hf, px_alu, hc])
    · cases h
  case goto off =>
    cases h
    exact ab_one (List.mem_singleton.mpr rfl) hA (fun call N0 nc ns => by simp only [px_step, hf, px_alu])
  case ldc idx =>
    simp only at h
    split at h
    · rename_i v hj
      cases h
      exact ab_one (st' := .int (Int32.ofInt v) :: st) (List.mem_singleton.mpr rfl) ⟨h1, ⟨ab_const_ok _, h2⟩, h3, h4⟩ (fun call N0 nc ns => by simp only [px_step, hf, px_alu, hj])
    · cases h
  case ldc_w idx =>
    simp only at h
    split at h
    · rename_i v hj
      cases h
      exact ab_one (st' := .int (Int32.ofInt v) :: st) (List.mem_singleton.mpr rfl) ⟨h1, ⟨ab_const_ok _, h2⟩, h3, h4⟩ (fun call N0 nc ns => by simp only [px_step, hf, px_alu, hj])
    · cases h
  case ldc2_w idx =>
    simp only at h
    split at h
    · rename_i v hj
      cases h
      exact ab_one (st' := .long (Int64.ofInt v) :: st) (List.mem_singleton.mpr rfl) ⟨h1, ⟨⟨⟨rfl, Int.le_refl _, Int.le_refl _⟩, ab_o_none _ _ _ _⟩, h2⟩, h3, h4⟩ (fun call N0 nc ns => by simp only [px_step, hf, px_alu, hj])
    · cases h
  case tableswitch dflt lo hi offs =>
    simp only at h
    split at h
    · rename_i x o r hst
      split at h
      · rename_i hsz
        cases h
        have hsz := of_decide_eq_true hsz
        rw [hst] at h2
        obtain ⟨v, s, rfl, hav, hr⟩ := ab_st_cons h2
        obtain ⟨z1, z2, z3⟩ := x
        obtain ⟨y, rfl, hy⟩ := ab_f0 hav.1
        by_cases c1 : y.toInt < lo
        · obtain ⟨A', m1, m2⟩ := ab_toc_ok (ab_rest hA hr) hav rfl (c := .lt) (b := lo) c1 (px_tgt pc dflt)
          exact ab_one (List.mem_append_right _ (List.mem_append_left _ m1)) m2 (fun call N0 nc ns => by simp only [px_step, hf, px_alu, decide_eq_true c1, Bool.true_or])
        · by_cases c2 : hi < y.toInt
          · obtain ⟨A', m1, m2⟩ := ab_toc_ok (ab_rest hA hr) hav rfl (c := .gt) (b := hi) c2 (px_tgt pc dflt)
            exact ab_one (List.mem_append_right _ (List.mem_append_right _ m1)) m2 (fun call N0 nc ns => by simp only [px_step, hf, px_alu, decide_eq_true c2, Bool.or_true])
          · have hlt : (y.toInt - lo).toNat < offs.size := by omega
            have hoff : offs[(y.toInt - lo).toNat]? = some (offs[(y.toInt - lo).toNat]'hlt) := Array.getElem?_eq_getElem hlt
            obtain ⟨A', m1, m2⟩ := ab_toc_ok (ab_rest hA hr) hav rfl (c := .eq) (b := lo + ((y.toInt - lo).toNat : Int)) (show y.toInt = _ by omega) (px_tgt pc (offs[(y.toInt - lo).toNat]'hlt))
            refine ab_one (pc' := px_tgt pc (offs[(y.toInt - lo).toNat]'hlt)) (A' := A') (List.mem_append_left _ (List.mem_flatMap.mpr ⟨(y.toInt - lo).toNat, List.mem_range.mpr hlt, ?_⟩)) m2 (fun call N0 nc ns => by simp only [px_step, hf, px_alu, decide_eq_false c1, decide_eq_false c2, Bool.or_self, hoff])
            simp only [hoff]
            exact m1
      · cases h
    · cases h
  case getfield idx =>
    simp only at h
    split at h
    · rename_i ci k fl c1 c2 c o r hj hst
      rw [hst] at h2
      obtain ⟨v, s, rfl, hav, hr⟩ := ab_st_cons h2
      have hv := ab_ref1 hav
      subst hv
      split at h
      · rename_i ci' fs hc
        split at h
        · rename_i f hci hfk
          obtain ⟨vs, hx, hlen, hall⟩ := ab_obj h3 hc
          have hlt : k < vs.length := by rw [← hlen]; exact (List.getElem?_eq_some_iff.mp hfk).1
          have hvk : vs[k]? = some (vs[k]'hlt) := List.getElem?_eq_getElem hlt
          obtain ⟨A', m1, m2⟩ := ab_push_ok hA h (hall _ _ _ hfk hvk) (fun l hl => ⟨vs[k]'hlt, by cases hl; simp only [ab_at, hx, hvk], rfl⟩) hr
          exact ab_one m1 m2 (fun call N0 nc ns => by simp only [px_step, hf, px_alu, hj, hx, hci, hvk])
        · cases h
      · cases h
    · cases h
  case putfield idx =>
    simp only at h
    split at h
    · rename_i ci k fl a c1 c2 c o r hj hst
      rw [hst] at h2
      obtain ⟨u, s0, rfl, hau, hr0⟩ := ab_st_cons h2
      obtain ⟨v, s, rfl, hav, hr⟩ := ab_st_cons hr0
      have hv := ab_ref1 hav
      subst hv
      split at h
      · rename_i ci' fs n tys hc hT
        split at h
        · rename_i ty hci hty hk hfl
          split at h
          · rename_i hfit
            cases h
            obtain ⟨vs, hx, hlen, hall⟩ := ab_obj h3 hc
            have hce := Nat.eq_of_beq_eq_true hci
            subst hce
            have hkv : decide (k < vs.length) = true := by rw [← hlen]; exact hk
            have hP : ∀ l w, ab_kf c k l = false → ab_at xs lv hp l = some w → ab_at xs lv (hp.set c (.inr (ci', vs.set k u))) l = some w := fun l w q1 q2 => ab_at_set hx q2 rfl q1
            refine ab_one (lv' := lv) (st' := s) (hp' := hp.set c (.inr (ci', vs.set k u))) (List.mem_singleton.mpr rfl) ⟨fun j b hm => ?_, ab_kill_st hP hr, ⟨by simp only [List.length_set]; exact h3.1, fun m b z hb hz => ?_⟩, h4⟩ (fun call N0 nc ns => by simp only [px_step, hf, px_alu, hj, hx, hT, hci, hty, hkv, hfl, ab_fits_ok hfit hau.1])
            · obtain ⟨⟨j0, b0⟩, hm0, he⟩ := List.mem_map.mp hm
              cases he
              obtain ⟨w, hw, hbw⟩ := h1 _ _ hm0
              exact ⟨w, hw, ab_kill_ok hP hbw⟩
            · by_cases hmc : m = c
              · subst hmc
                rw [List.getElem?_set_self (List.getElem?_eq_some_iff.mp hc).1] at hb
                rw [List.getElem?_set_self (List.getElem?_eq_some_iff.mp hx).1] at hz
                cases hb
                cases hz
                refine ⟨rfl, by rw [List.length_set, List.length_set]; exact hlen, fun n f w hn hw => ?_⟩
                by_cases hnk : n = k
                · subst hnk
                  rw [List.getElem?_set_self (of_decide_eq_true hk)] at hn
                  rw [List.getElem?_set_self (of_decide_eq_true hkv)] at hw
                  cases hn
                  cases hw
                  exact hau.1
                · rw [List.getElem?_set_ne (Ne.symm hnk)] at hn hw
                  exact hall _ _ _ hn hw
              · rw [List.getElem?_set_ne (Ne.symm hmc)] at hb hz
                exact h3.2 _ _ _ hb hz
          · cases h
        · cases h
      · cases h
    · cases h
  case arraylength =>
    simp only at h
    split at h
    · rename_i x o r hst
      rw [hst] at h2
      obtain ⟨v, s, rfl, hav, hr⟩ := ab_st_cons h2
      have hv2 : ∃ z, v = .retAddr z := by
        have := hav.1
        cases v <;> first | exact ⟨_, rfl⟩ | (exact absurd this.1 (by decide)) | (exact absurd this (by simp [ab_f]))
      obtain ⟨z, rfl⟩ := hv2
      split at h
      · rename_i n
        cases h
        exact ab_one (st' := .int (Int32.ofNat n) :: s) (List.mem_singleton.mpr rfl) ⟨h1, ⟨ab_const_ok _, hr⟩, h3, h4⟩ (fun call N0 nc ns => by simp only [px_step, hf, px_alu, hX n rfl])
      · cases h
    · rename_i c1 c2 c o r hst
      rw [hst] at h2
      obtain ⟨v, s, rfl, hav, hr⟩ := ab_st_cons h2
      have hv := ab_ref1 hav
      subst hv
      split at h
      · rename_i t n f hc
        split at h
        · rename_i ty hty
          cases h
          obtain ⟨x, hx, hxc⟩ := ab_cell h3 hc
          cases x with
          | inr q9 => exact absurd hxc (by simp [ab_c])
          | inl q9 =>
            obtain ⟨t', n', cont⟩ := q9
            obtain ⟨rfl, rfl, hall⟩ := hxc
            exact ab_one (st' := .int (Int32.ofNat n) :: s) (List.mem_singleton.mpr rfl) ⟨h1, ⟨ab_const_ok _, hr⟩, h3, h4⟩ (fun call N0 nc ns => by simp only [px_step, hf, px_alu, hx, hty])
        · cases h
      · cases h
    · cases h
  case iaload =>
    obtain ⟨j, a, s, v, A', rfl, e1, e2, e3⟩ := ab_aload_ok hA hX h
    exact ab_one e2 e3 (fun call N0 nc ns => by simp only [px_step, hf, px_alu, e1, Option.map_some])
  case baload =>
    obtain ⟨j, a, s, v, A', rfl, e1, e2, e3⟩ := ab_aload_ok hA hX h
    exact ab_one e2 e3 (fun call N0 nc ns => by simp only [px_step, hf, px_alu, e1, Option.map_some])
  case laload =>
    obtain ⟨j, a, s, v, A', rfl, e1, e2, e3⟩ := ab_aload_ok hA hX h
    exact ab_one e2 e3 (fun call N0 nc ns => by simp only [px_step, hf, px_alu, e1, Option.map_some])
  case aaload =>
    obtain ⟨j, a, s, v, A', rfl, e1, e2, e3⟩ := ab_aload_ok hA hX h
    exact ab_one e2 e3 (fun call N0 nc ns => by simp only [px_step, hf, px_alu, e1, Option.map_some])
  case iastore =>
    obtain ⟨v, j, a, s, hp', A', rfl, e1, e2, e3⟩ := ab_astore_ok hA h
    exact ab_one e2 e3 (fun call N0 nc ns => by simp only [px_step, hf, px_alu, e1, Option.map_some])
  case bastore =>
    obtain ⟨v, j, a, s, hp', A', rfl, e1, e2, e3⟩ := ab_astore_ok hA h
    exact ab_one e2 e3 (fun call N0 nc ns => by simp only [px_step, hf, px_alu, e1, Option.map_some])
  case lastore =>
    obtain ⟨v, j, a, s, hp', A', rfl, e1, e2, e3⟩ := ab_astore_ok hA h
    exact ab_one e2 e3 (fun call N0 nc ns => by simp only [px_step, hf, px_alu, e1, Option.map_some])
  case lcmp =>
    simp only at h
    split at h
    · rename_i y o' x o r c off hst hf2
      cases h
      rw [hst] at h2
      obtain ⟨v, s0, rfl, hav, hr0⟩ := ab_st_cons h2
      obtain ⟨w, s, rfl, haw, hr⟩ := ab_st_cons hr0
      obtain ⟨z1, z2, z3⟩ := x
      obtain ⟨t1, t2, t3⟩ := y
      obtain ⟨b, rfl, hb⟩ := ab_f1 hav.1
      obtain ⟨a, rfl, ha9⟩ := ab_f1 haw.1
      cases hc : px_cmp c (lg_cmp a b) 0 with
      | true =>
        obtain ⟨A', m1, m2⟩ := ab_to_ok (ab_rest hA hr) haw hav rfl rfl ((ab_lcmp_rel c a b).1 hc) (px_tgt (pc + len) off)
        exact ⟨_, _, _, _, A', List.mem_append_left _ m1, m2, 2, fun call N0 nc ns => by simp only [px_its, px_step, hf, px_alu, px_lc, hf2, hc]⟩
      | false =>
        obtain ⟨A', m1, m2⟩ := ab_to_ok (ab_rest hA hr) haw hav rfl rfl ((ab_lcmp_rel c a b).2 hc) (pc + len + 3)
        exact ⟨_, _, _, _, A', List.mem_append_right _ m1, m2, 2, fun call N0 nc ns => by simp only [px_its, px_step, hf, px_alu, px_lc, hf2, hc]⟩
    · cases h
  all_goals cases h
end ab_s7
