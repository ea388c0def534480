/-! goesThrough: empties, any table -/
theorem nm_empt {hp : px_H} (hG : ab_h nm_GH hp) {tn : Nat} (htn : tn ≤ 2) : ∃ hp' : px_H, px_C nm_T nm_P mi_M_empties [.ref 69, .int (Int32.ofNat tn)] hp none hp' ∧ ab_h nm_GH hp' ∧ px_fr [] [na_size, na_hash] hp hp' ∧ nm_HI tn hp' ∧ (∀ t, t ≤ 2 → nm_HI t hp → nm_HI t hp') ∧ (∀ Q, nm_TE tn Q hp') ∧ (∀ t Q, t ≠ tn → nm_TE t Q hp → nm_TE t Q hp') ∧
    ∀ g : Nat → Int32, hp[na_size]? = some (.inl (nr_size, 3, .inl g)) → ∃ g' : Nat → Int32, hp'[na_size]? = some (.inl (nr_size, 3, .inl g')) ∧ ∀ t, t ≠ tn → g' t = g t := by
  obtain ⟨vs, h69, hrf⟩ := nm_mod hG
  obtain ⟨f, hf, hfb⟩ := ac_arrI hG (c := na_hash) (by decide) rfl
  obtain ⟨g, hg, hgb⟩ := ac_arrI hG (c := na_size) (by decide) rfl
  obtain ⟨o1, h1, -⟩ := ac_arrL hG (c := na_one) (by decide) rfl
  have hC := nm_emp (tn := tn) htn h69 (hrf 43 na_size rfl) (hrf 44 na_hash rfl) hg hf rfl rfl (by decide)
  have hg2 : (hp.set na_size (.inl (nr_size, 3, .inl (upd g tn (Int32.ofInt 0)))))[na_hash]? = some (.inl (nr_hash, 24576, .inl f)) := by
    rw [List.getElem?_set_ne (by decide)]
    exact hf
  have hG1 := ac_h_arr hG (c := na_size) hg rfl (y := (nr_size, 3, .inl (upd g tn (Int32.ofInt 0)))) ⟨rfl, rfl, fun j hj => by
    simp only [upd]
    split
    · exact ⟨rfl, by decide, by decide⟩
    · exact ⟨rfl, hgb j hj⟩⟩
  have hG2 := ac_h_arr hG1 (c := na_hash) hg2 rfl (y := (nr_hash, 24576, .inl (fun j => if tn * 8192 ≤ j ∧ j < tn * 8192 + 8192 then -1 else f j))) ⟨rfl, rfl, fun j hj => by
    simp only
    split
    · exact ⟨rfl, by decide, by decide⟩
    · exact ⟨rfl, hfb j hj⟩⟩
  have eh : (nm_empH hp na_size nr_size na_hash nr_hash tn g f)[na_hash]? = some (.inl (nr_hash, 24576, .inl (fun j => if tn * 8192 ≤ j ∧ j < tn * 8192 + 8192 then -1 else f j))) := by
    unfold nm_empH
    refine List.getElem?_set_self ?_
    rw [List.length_set]
    exact (List.getElem?_eq_some_iff.mp hf).1
  have es : (nm_empH hp na_size nr_size na_hash nr_hash tn g f)[na_size]? = some (.inl (nr_size, 3, .inl (upd g tn (Int32.ofInt 0)))) := by
    unfold nm_empH
    rw [List.getElem?_set_ne (by decide)]
    exact List.getElem?_set_self (List.getElem?_eq_some_iff.mp hg).1
  have eo : (nm_empH hp na_size nr_size na_hash nr_hash tn g f)[na_one]? = some (.inl (nr_one, 9003, .inr (.inl o1))) := by
    unfold nm_empH
    rw [List.getElem?_set_ne (by decide), List.getElem?_set_ne (by decide)]
    exact h1
  have hHI : nm_HI tn (nm_empH hp na_size nr_size na_hash nr_hash tn g f) := by
    refine ⟨nr_hash, nr_size, _, _, eh, es, ?_⟩
    rw [nm_cnt_none (fun k hk => by rw [if_pos (by omega)]; decide)]
    unfold upd
    rw [if_pos rfl]
    decide
  refine ⟨_, hC, hG2, px_fr_tr (px_fr_arr hg List.mem_cons_self) (px_fr_arr hg2 (List.mem_cons_of_mem _ List.mem_cons_self)), hHI, ?_, ?_, ?_, ?_⟩
  · intro t ht hit
    by_cases htt : t = tn
    · subst htt; exact hHI
    obtain ⟨th, ts, f', g', e1, e2, e3⟩ := hit
    rw [show nm_cHash = na_hash from rfl, hf] at e1
    rw [show nm_cSize = na_size from rfl, hg] at e2
    cases e1
    cases e2
    refine ⟨_, _, _, _, eh, es, ?_⟩
    rw [nm_cnt_cg (f' := f) 8192 (fun j hj => by rw [if_neg (by omega)])]
    simp only [upd]
    rw [if_neg htt]
    exact e3
  · intro Q
    refine ⟨_, _, es, eo, fun e he => ?_⟩
    simp only [upd, if_true] at he
    have : (Int32.ofInt 0).toInt = 0 := by decide
    omega
  · intro t Q htt hT
    obtain ⟨g', o', e1, e2, e3⟩ := hT
    rw [hg] at e1
    rw [h1] at e2
    cases e1
    cases e2
    refine ⟨_, _, es, eo, fun e he => ?_⟩
    simp only [upd] at he
    rw [if_neg htt] at he
    exact e3 e he
  · intro g9 h9
    rw [hg] at h9
    cases h9
    exact ⟨_, es, fun t ht => by simp only [upd]; rw [if_neg ht]⟩
