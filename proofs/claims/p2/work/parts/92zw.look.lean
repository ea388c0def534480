/-- the bag that a drawing b takes from, in an entry -/
def nm_bg (b : Nat) (v : Int64) : Int32 := if b = 0 then nm_bg0 v else nm_bg1 v
theorem nm_tix (tn e : Nat) : Int32.ofNat tn * (Int16.ofInt 3001).toInt32 + Int32.ofNat e = Int32.ofNat (tn * 3001 + e) := by
  rw [show (Int16.ofInt 3001).toInt32 = Int32.ofNat 3001 from by decide, ← Int32.ofNat_mul, ← Int32.ofNat_add]
theorem nm_looks {hp : px_H} (hG : ab_h nm_GH hp) {o1 : Nat → Int64} (h1 : hp[na_one]? = some (.inl (nr_one, 9003, .inr (.inl o1)))) {tn e : Nat} (htn : tn ≤ 2) (he : e < 3001) : ∃ (hp' : px_H) (g : Nat → Int32), px_C nm_T nm_P mi_M_looksAt [.ref 69, .int (Int32.ofNat tn), .int (Int32.ofNat e)] hp none hp' ∧ ab_h nm_GH hp' ∧ px_fr kc_M_unpacks_0.2.2.2.2.1 kc_M_unpacks_0.2.2.2.2.2 hp hp' ∧
    hp'[na_inBag]? = some (.inl (nr_inBag, 2, .inl g)) ∧ ∀ b, b < 2 → g b = nm_bg b (o1 (tn * 3001 + e)) := by
  obtain ⟨fs, hx, -, -⟩ := ac_obj hG (c := 69) rfl
  obtain ⟨o2, h2, -⟩ := ac_arrL hG (c := na_other) (t := nr_other) (n := 9003) (Nat.le_of_ble_eq_true rfl) rfl
  obtain ⟨hp', g, c1, c2, c3, c4, c5, c6⟩ := nm_unpacks hG (o1 (tn * 3001 + e)) (o2 (tn * 3001 + e))
  have hin := nm_inR (tn * 3001 + e) 9003 (by omega) (by decide)
  have hcl := nm_ofNat_clamp (tn * 3001 + e) (by omega)
  refine ⟨hp', g, ?_, c2, c3, c4, fun b hb => ?_⟩
  · refine px_C_of (N := mm_M_looksAt) rfl (Nat.le_of_ble_eq_true rfl) ?_
    refine px_Z_its (pc1 := 2) (lv1 := [(0, .ref 69), (1, .int (Int32.ofNat tn)), (2, .int (Int32.ofNat e))]) (st1 := [.ref 69, .ref 69]) (hp1 := hp) 2 (fun _ _ _ _ => rfl) ?_
    refine px_q_get (len := 3) (ci := 9) (k := nf_one) (fs := fs) (v := .ref na_one) rfl rfl hx (nm_f hG hx rfl) ?_
    refine px_Z_its (pc1 := 12) (lv1 := [(0, .ref 69), (1, .int (Int32.ofNat tn)), (2, .int (Int32.ofNat e))]) (st1 := [.int (Int32.ofNat (tn * 3001 + e)), .ref na_one, .ref 69]) (hp1 := hp) 5 (fun _ _ _ _ => by rw [← nm_tix]; rfl) ?_
    refine px_q_lald (len := 1) rfl h1 rfl hin ?_
    rw [hcl]
    refine px_Z_its (pc1 := 14) (lv1 := [(0, .ref 69), (1, .int (Int32.ofNat tn)), (2, .int (Int32.ofNat e))]) (st1 := [.ref 69, .long (o1 (tn * 3001 + e)), .ref 69]) (hp1 := hp) 1 (fun _ _ _ _ => rfl) ?_
    refine px_q_get (len := 3) (ci := 9) (k := nf_other) (fs := fs) (v := .ref na_other) rfl rfl hx (nm_f hG hx rfl) ?_
    refine px_Z_its (pc1 := 24) (lv1 := [(0, .ref 69), (1, .int (Int32.ofNat tn)), (2, .int (Int32.ofNat e))]) (st1 := [.int (Int32.ofNat (tn * 3001 + e)), .ref na_other, .long (o1 (tn * 3001 + e)), .ref 69]) (hp1 := hp) 5 (fun _ _ _ _ => by rw [← nm_tix]; rfl) ?_
    refine px_q_lald (len := 1) rfl h2 rfl hin ?_
    rw [hcl]
    refine px_q_virt (len := 3) (n := 2) (a := 69) (N := mm_M_unpacks) (mi := mi_M_unpacks) (ci := 9) rfl rfl rfl hx rfl (Nat.le_of_ble_eq_true rfl) (Nat.le_of_ble_eq_true rfl) rfl rfl c1 ?_
    exact px_q_ret (len := 1) rfl rfl
  · unfold nm_bg
    match b, hb with
    | 0, _ => rw [if_pos rfl]; exact c5
    | 1, _ => rw [if_neg (by decide)]; exact c6
/-- what adds would lay down holds the bags as they are -/
theorem nm_fst_bg {gB gA : Nat → Int32} {pb sv : Int32} (h : ∀ j, j < 2 → 0 ≤ (gB j).toInt ∧ (gB j).toInt ≤ 1023) {b : Nat} (hb : b < 2) : nm_bg b (nm_fst (gB 0) (gB 1) (gA 0) (gA 1) pb sv) = gB b := by
  unfold nm_bg
  match b, hb with
  | 0, _ => rw [if_pos rfl]; exact nm_bg0_fst (h 0 (by decide)).1 (h 0 (by decide)).2
  | 1, _ => rw [if_neg (by decide)]; exact nm_bg1_fst (h 0 (by decide)).1 (h 0 (by decide)).2 (h 1 (by decide)).1 (h 1 (by decide)).2
