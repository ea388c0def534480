/-! p1: the law's walk -/
def nm_chkA (fuel L pc : Nat) (A : ab_S) : Bool :=
  match ab_run nm_T nm_P fuel (some L) [] nm_law pc A with
  | some (outs, []) => outs.all (fun q => decide (q.1.map (fun a => a.1) = some (0, 1, 1, [])))
  | _ => false
section nm_s6
variable {p : Program} {l : Launch} {e : Env} {s : State} {m : MethodId} {below : List Frame} {meth : Method} {c : Code} {b L : Nat} {xs : Nat → Int32} {D : va_G} {dA : Nat → ClassId}
theorem nm_G_chkA (C0 : lw_At p s m meth c b L xs) (hK : va_K D nm_cl (px_tys nm_T dA) s) {fuel pc nc ns : Nat} {A : ab_S} (h : nm_chkA fuel L pc A = true) {lv : List (Nat × Value)} {st : List Value} {hp : px_H} (hA : ab_s xs A lv st hp) (hnc : nc ≤ 600002) (hns : ns ≤ 7302232) : nm_G p l e s m below meth c b D dA (pc, lv, st, hp, nc, ns) := by
  unfold nm_chkA at h
  split at h
  · rename_i outs hr
    simp only [List.all_eq_true, decide_eq_true_eq] at h
    exact nm_G_ab C0 hK hr hA hnc hns h (fun pc' A' lv' st' hp' hm => by cases hm)
  · cases h
end nm_s6
abbrev nm_tops : List (Int × Int) := List.replicate 6 ab_topi
theorem ab_x_set {sc : List (Int × Int)} {xs : Nat → Int32} (h : ab_x sc xs) (k : Nat) (q : Int × Int) (h1 : q.1 ≤ (xs k).toInt) (h2 : (xs k).toInt ≤ q.2) : ab_x (sc.set k q) xs := by
  intro j r hr
  by_cases hj : j = k
  · subst hj
    have hlt : j < sc.length := by
      have := (List.getElem?_eq_some_iff.mp hr).1
      rwa [List.length_set] at this
    rw [List.getElem?_set_self hlt] at hr
    cases hr
    exact ⟨h1, h2⟩
  · rw [List.getElem?_set_ne (Ne.symm hj)] at hr
    exact h j r hr
def nm_A0s (k : Nat) (q : Int × Int) : ab_S := (nm_al, [], nm_A1, nm_tops.set k q)
theorem nm_A0s_ok (xs : Nat → Int32) (k : Nat) (q : Int × Int) (h1 : q.1 ≤ (xs k).toInt) (h2 : (xs k).toInt ≤ q.2) : ab_s xs (nm_A0s k q) nm_lv [] nm_H1 :=
  ⟨(nm_A0_ok xs).1, (nm_A0_ok xs).2.1, (nm_A0_ok xs).2.2.1, ab_x_set (nm_A0_ok xs).2.2.2 k q h1 h2⟩
def nm_A42 : ab_S := (nm_al, [((0, 1, 1, []), none)], nm_A1, nm_tops)
theorem nm_A42_ok (xs : Nat → Int32) : ab_s xs nm_A42 nm_lv [.int 1] nm_H1 :=
  ⟨(nm_A0_ok xs).1, ⟨⟨⟨rfl, Int.le_refl _, Int.le_refl _⟩, ab_o_none _ _ _ _⟩, trivial⟩, (nm_A0_ok xs).2.2.1, (nm_A0_ok xs).2.2.2⟩
set_option maxRecDepth 1000000 in
theorem nm_ck36a : nm_chkA 3000 6 1508 (nm_A0s 1 (-2147483648, -1)) = true := by decide +kernel
set_option maxRecDepth 1000000 in
theorem nm_ck36b : nm_chkA 3000 6 1508 (nm_A0s 1 (2, 2147483647)) = true := by decide +kernel
set_option maxRecDepth 1000000 in
theorem nm_ck36c : nm_chkA 3000 6 1508 (nm_A0s 2 (-2147483648, -1)) = true := by decide +kernel
set_option maxRecDepth 1000000 in
theorem nm_ck36d : nm_chkA 3000 6 1508 (nm_A0s 2 (1, 2147483647)) = true := by decide +kernel
set_option maxRecDepth 1000000 in
theorem nm_ck42 : nm_chkA 3000 6 1669 nm_A42 = true := by decide +kernel
section nm_s4
variable {p : Program} {l : Launch} {e : Env} {s : State} {m : MethodId} {below : List Frame} {meth : Method} {c : Code} {b : Nat} {xs : Nat → Int32} {D : va_G} {dA : Nat → ClassId}
theorem nm_i_eq (x : Int32) (k : Int) (y : Int32) (h1 : y.toInt = k) (h : x.toInt = k) : x = y := by
  rw [← Int32.toInt_inj, h1, h]
theorem nm_c36 (C0 : lw_At p s m meth c b 6 xs) (hK : va_K D nm_cl (px_tys nm_T dA) s) : nm_G p l e s m below meth c b D dA (1508, nm_lv, [], nm_H1, 106, 103614) := by
  have t1 := ab_i32 (xs 1)
  have t2 := ab_i32 (xs 2)
  simp only [ab_in, ab_topi] at t1 t2
  by_cases h1 : (xs 1).toInt < 0
  · exact nm_G_chkA C0 hK nm_ck36a (nm_A0s_ok xs 1 _ t1.1 (by simp only; omega)) (by decide) (by decide)
  by_cases h2 : 1 < (xs 1).toInt
  · exact nm_G_chkA C0 hK nm_ck36b (nm_A0s_ok xs 1 _ (by simp only; omega) t1.2) (by decide) (by decide)
  by_cases h3 : (xs 2).toInt < 0
  · exact nm_G_chkA C0 hK nm_ck36c (nm_A0s_ok xs 2 _ t2.1 (by simp only; omega)) (by decide) (by decide)
  by_cases h4 : 0 < (xs 2).toInt
  · exact nm_G_chkA C0 hK nm_ck36d (nm_A0s_ok xs 2 _ (by simp only; omega) t2.2) (by decide) (by decide)
  have e2 : xs 2 = 0 := nm_i_eq _ 0 0 rfl (by omega)
  by_cases h5 : (xs 1).toInt = 0
  · exact nm_sp36 C0 hK (Or.inl (nm_i_eq _ 0 0 rfl h5)) e2
  · exact nm_sp36 C0 hK (Or.inr (nm_i_eq _ 1 1 rfl (by omega))) e2
set_option maxRecDepth 1000000 in
theorem nm_sp42 (hl0 : l.stackTraces = false) (C0 : lw_At p s m meth c b 6 xs) (hK : va_K D nm_cl (px_tys nm_T dA) s) : nm_G p l e s m below meth c b D dA (1658, nm_lv, [], nm_H1, 106, 103614) := by
  refine nm_G_steps C0 hK 0 7 _ (nm_rpc, nm_lv, [.ref 105, .int (xs 1), .ref 0], nm_H1, 106, 103614) rfl ?_
  refine nm_row_throw (nums := .ref 49) (sz := 0) hl0 C0 hK rfl rfl rfl ?_ (by decide) (by decide) ?_
  · rw [Int32.toInt_zero]; omega
  · exact nm_G_chkA C0 hK nm_ck42 (nm_A42_ok xs) (by decide) (by decide)
set_option maxHeartbeats 4000000 in
theorem nm_case (hl0 : l.stackTraces = false) (C0 : lw_At p s m meth c b 6 xs) (hK : va_K D nm_cl (px_tys nm_T dA) s) (k : Nat) (hk : k ≤ 42) : nm_G p l e s m below meth c b D dA (nm_pcs.getD k 0, nm_lv, [], nm_H1, 106, 103614) := by
  have hA := nm_A0_ok xs
  match k, hk with
  | 0, _ => exact nm_G_chk C0 hK nm_ck0 hA (fun _ _ _ _ h => absurd h List.not_mem_nil)
  | 1, _ => exact nm_G_chk C0 hK nm_ck1 hA (fun _ _ _ _ h => absurd h List.not_mem_nil)
  | 2, _ => exact nm_G_chk C0 hK nm_ck2 hA (fun _ _ _ _ h => absurd h List.not_mem_nil)
  | 3, _ => exact nm_G_chk C0 hK nm_ck3 hA (fun _ _ _ _ h => absurd h List.not_mem_nil)
  | 4, _ => exact nm_G_chk C0 hK nm_ck4 hA (fun _ _ _ _ h => absurd h List.not_mem_nil)
  | 5, _ => exact nm_G_chk C0 hK nm_ck5 hA (fun _ _ _ _ h => absurd h List.not_mem_nil)
  | 6, _ => exact nm_G_chk C0 hK nm_ck6 hA (fun _ _ _ _ h => absurd h List.not_mem_nil)
  | 7, _ => exact nm_G_chk C0 hK nm_ck7 hA (fun _ _ _ _ h => absurd h List.not_mem_nil)
  | 8, _ => exact nm_G_chk C0 hK nm_ck8 hA (fun _ _ _ _ h => absurd h List.not_mem_nil)
  | 9, _ => exact nm_G_chk C0 hK nm_ck9 hA (fun _ _ _ _ h => absurd h List.not_mem_nil)
  | 10, _ => exact nm_G_chk C0 hK nm_ck10 hA (fun _ _ _ _ h => absurd h List.not_mem_nil)
  | 11, _ => exact nm_G_chk C0 hK nm_ck11 hA (fun _ _ _ _ h => absurd h List.not_mem_nil)
  | 12, _ => exact nm_G_chk C0 hK nm_ck12 hA (fun _ _ _ _ h => absurd h List.not_mem_nil)
  | 13, _ => exact nm_G_chk C0 hK nm_ck13 hA (fun _ _ _ _ h => absurd h List.not_mem_nil)
  | 14, _ => exact nm_G_chk C0 hK nm_ck14 hA (fun _ _ _ _ h => absurd h List.not_mem_nil)
  | 15, _ => exact nm_G_chk C0 hK nm_ck15 hA (fun _ _ _ _ h => absurd h List.not_mem_nil)
  | 16, _ => exact nm_G_chk C0 hK nm_ck16 hA (fun _ _ _ _ h => absurd h List.not_mem_nil)
  | 17, _ => exact nm_G_chk C0 hK nm_ck17 hA (fun _ _ _ _ h => absurd h List.not_mem_nil)
  | 18, _ => exact nm_G_chk C0 hK nm_ck18 hA (fun _ _ _ _ h => absurd h List.not_mem_nil)
  | 19, _ => exact nm_G_chk C0 hK nm_ck19 hA (fun _ _ _ _ h => absurd h List.not_mem_nil)
  | 20, _ => exact nm_G_chk C0 hK nm_ck20 hA (fun _ _ _ _ h => absurd h List.not_mem_nil)
  | 21, _ => exact nm_G_chk C0 hK nm_ck21 hA (fun _ _ _ _ h => absurd h List.not_mem_nil)
  | 22, _ => exact nm_G_chk C0 hK nm_ck22 hA (fun _ _ _ _ h => absurd h List.not_mem_nil)
  | 23, _ => exact nm_G_chk C0 hK nm_ck23 hA (fun _ _ _ _ h => absurd h List.not_mem_nil)
  | 24, _ => exact nm_G_chk C0 hK nm_ck24 hA (fun _ _ _ _ h => absurd h List.not_mem_nil)
  | 25, _ => exact nm_G_chk C0 hK nm_ck25 hA (fun _ _ _ _ h => absurd h List.not_mem_nil)
  | 26, _ => exact nm_G_chk C0 hK nm_ck26 hA (fun _ _ _ _ h => absurd h List.not_mem_nil)
  | 27, _ => exact nm_G_chk C0 hK nm_ck27 hA (fun _ _ _ _ h => absurd h List.not_mem_nil)
  | 28, _ => exact nm_G_chk C0 hK nm_ck28 hA (fun _ _ _ _ h => absurd h List.not_mem_nil)
  | 29, _ => exact nm_G_chk C0 hK nm_ck29 hA (fun _ _ _ _ h => absurd h List.not_mem_nil)
  | 30, _ => exact nm_G_chk C0 hK nm_ck30 hA (fun _ _ _ _ h => absurd h List.not_mem_nil)
  | 31, _ => exact nm_G_chk C0 hK nm_ck31 hA (fun _ _ _ _ h => absurd h List.not_mem_nil)
  | 32, _ => exact nm_G_chk C0 hK nm_ck32 hA (fun _ _ _ _ h => absurd h List.not_mem_nil)
  | 33, _ => exact nm_G_chk C0 hK nm_ck33 hA (fun _ _ _ _ h => absurd h List.not_mem_nil)
  | 34, _ => exact nm_G_chk C0 hK nm_ck34 hA (fun _ _ _ _ h => absurd h List.not_mem_nil)
  | 35, _ => exact nm_G_chk C0 hK nm_ck35 hA (fun _ _ _ _ h => absurd h List.not_mem_nil)
  | 36, _ => exact nm_c36 C0 hK
  | 37, _ => exact nm_sp37 C0 hK
  | 38, _ => exact nm_G_chk C0 hK nm_ck38 hA (fun _ _ _ _ h => absurd h List.not_mem_nil)
  | 39, _ => exact nm_G_chk C0 hK nm_ck39 hA (fun _ _ _ _ h => absurd h List.not_mem_nil)
  | 40, _ => exact nm_G_chk C0 hK nm_ck40 hA (fun _ _ _ _ h => absurd h List.not_mem_nil)
  | 41, _ => exact nm_G_chk C0 hK nm_ck41 hA (fun _ _ _ _ h => absurd h List.not_mem_nil)
  | 42, _ => exact nm_sp42 hl0 C0 hK
  | k + 43, h => omega
theorem nm_offs : ∀ k, k < 43 → ∃ (len : Nat) (dflt lo hi : Int) (offs : Array Int), px_find 40 (px_cd nm_law) = some (len, .tableswitch dflt lo hi offs) ∧ lo = 0 ∧ hi = 42 ∧ px_tgt 40 dflt = 1713 ∧ ∃ off, offs[k]? = some off ∧ px_tgt 40 off = nm_pcs.getD k 0 := by
  have h : ∀ k, k < 43 → ∃ off ∈ ([0] : List Int), off = 0 := fun _ _ => ⟨0, List.mem_singleton.mpr rfl, rfl⟩
  intro k hk
  refine ⟨_, _, _, _, _, rfl, rfl, rfl, rfl, ?_⟩
  match k, hk with
  | 0, _ => exact ⟨_, rfl, rfl⟩
  | 1, _ => exact ⟨_, rfl, rfl⟩
  | 2, _ => exact ⟨_, rfl, rfl⟩
  | 3, _ => exact ⟨_, rfl, rfl⟩
  | 4, _ => exact ⟨_, rfl, rfl⟩
  | 5, _ => exact ⟨_, rfl, rfl⟩
  | 6, _ => exact ⟨_, rfl, rfl⟩
  | 7, _ => exact ⟨_, rfl, rfl⟩
  | 8, _ => exact ⟨_, rfl, rfl⟩
  | 9, _ => exact ⟨_, rfl, rfl⟩
  | 10, _ => exact ⟨_, rfl, rfl⟩
  | 11, _ => exact ⟨_, rfl, rfl⟩
  | 12, _ => exact ⟨_, rfl, rfl⟩
  | 13, _ => exact ⟨_, rfl, rfl⟩
  | 14, _ => exact ⟨_, rfl, rfl⟩
  | 15, _ => exact ⟨_, rfl, rfl⟩
  | 16, _ => exact ⟨_, rfl, rfl⟩
  | 17, _ => exact ⟨_, rfl, rfl⟩
  | 18, _ => exact ⟨_, rfl, rfl⟩
  | 19, _ => exact ⟨_, rfl, rfl⟩
  | 20, _ => exact ⟨_, rfl, rfl⟩
  | 21, _ => exact ⟨_, rfl, rfl⟩
  | 22, _ => exact ⟨_, rfl, rfl⟩
  | 23, _ => exact ⟨_, rfl, rfl⟩
  | 24, _ => exact ⟨_, rfl, rfl⟩
  | 25, _ => exact ⟨_, rfl, rfl⟩
  | 26, _ => exact ⟨_, rfl, rfl⟩
  | 27, _ => exact ⟨_, rfl, rfl⟩
  | 28, _ => exact ⟨_, rfl, rfl⟩
  | 29, _ => exact ⟨_, rfl, rfl⟩
  | 30, _ => exact ⟨_, rfl, rfl⟩
  | 31, _ => exact ⟨_, rfl, rfl⟩
  | 32, _ => exact ⟨_, rfl, rfl⟩
  | 33, _ => exact ⟨_, rfl, rfl⟩
  | 34, _ => exact ⟨_, rfl, rfl⟩
  | 35, _ => exact ⟨_, rfl, rfl⟩
  | 36, _ => exact ⟨_, rfl, rfl⟩
  | 37, _ => exact ⟨_, rfl, rfl⟩
  | 38, _ => exact ⟨_, rfl, rfl⟩
  | 39, _ => exact ⟨_, rfl, rfl⟩
  | 40, _ => exact ⟨_, rfl, rfl⟩
  | 41, _ => exact ⟨_, rfl, rfl⟩
  | 42, _ => exact ⟨_, rfl, rfl⟩
  | k + 43, h => omega
theorem nm_and63 (x : Int32) : 0 ≤ (x &&& (Int8.ofInt 63).toInt32).toInt ∧ (x &&& (Int8.ofInt 63).toInt32).toInt ≤ 63 := by
  have h := ab_and32 (Int8.ofInt 63).toInt32 x (by decide)
  rw [Int32.and_comm] at h
  have h2 : (Int8.ofInt 63).toInt32.toInt = 63 := by decide
  omega
set_option maxRecDepth 1000000 in
theorem nm_six (hl0 : l.stackTraces = false) (C0 : lw_At p s m meth c b 6 xs) (hK : va_K D nm_cl (px_tys nm_T dA) s) : nm_G p l e s m below meth c b D dA (23, nm_lv, [], nm_H1, 106, 103614) := by
  refine nm_G_steps C0 hK 0 5 _ (30, nm_lv, [.int (Int32.ofNat 6 - (Int8.ofInt 6).toInt32), .int 0], nm_H1, 106, 103614) rfl ?_
  refine nm_G_steps C0 hK 0 1 _ (33, nm_lv, [], nm_H1, 106, 103614) ?_ ?_
  · have f30 : px_find 30 (px_cd nm_law) = some (3, .if_icmp .gt 1689) := rfl
    have hc : px_cmp .gt 0 (Int32.ofNat 6 - (Int8.ofInt 6).toInt32) = false := by decide +kernel
    simp only [nm_steps, px_step, f30, px_alu, hc]
  refine nm_G_steps C0 hK 0 5 _ (40, nm_lv, [.int (xs 0 &&& (Int8.ofInt 63).toInt32)], nm_H1, 106, 103614) rfl ?_
  have hv := nm_and63 (xs 0)
  generalize xs 0 &&& (Int8.ofInt 63).toInt32 = v at hv ⊢
  by_cases h42 : v.toInt ≤ 42
  · obtain ⟨k, hk⟩ : ∃ k : Nat, v.toInt = k := ⟨v.toInt.toNat, by omega⟩
    have hk2 : k ≤ 42 := by omega
    obtain ⟨len, dflt, lo, hi, offs, hf, rfl, rfl, -, off, ho, hp⟩ := nm_offs k (by omega)
    refine nm_G_step C0 hK 0 (S' := (nm_pcs.getD k 0, nm_lv, [], nm_H1, 106, 103614)) ?_ (nm_case hl0 C0 hK k hk2)
    have e1 : (decide (v.toInt < 0) || decide ((42 : Int) < v.toInt)) = false := by
      simp only [Bool.or_eq_false_iff, decide_eq_false_iff_not]
      omega
    have e2 : (v.toInt - 0).toNat = k := by omega
    simp only [px_step, hf, px_alu, e1, e2, ho, hp]
  · obtain ⟨len, dflt, lo, hi, offs, hf, rfl, rfl, hd, -⟩ := nm_offs 0 (by omega)
    refine nm_G_step C0 hK 0 (S' := (1713, nm_lv, [], nm_H1, 106, 103614)) ?_ (nm_end1 C0 hK nm_H1)
    have e1 : (decide (v.toInt < 0) || decide ((42 : Int) < v.toInt)) = true := by
      simp only [Bool.or_eq_true, decide_eq_true_eq]
      omega
    simp only [px_step, hf, px_alu, e1, hd]
end nm_s4
theorem whole_start {p : Program} {e : Env} {s : State} {m : MethodId} {below : List Frame} {meth : Method} {c : Code} (l : Launch) (hl0 : l.stackTraces = false) {b L : Nat} {xs : Nat → Int32} (hL : L ≤ 6) (C0 : lw_At p s m meth c b L xs) : W p l e room_1 s m #[Value.ref b] below meth c s.heap [] 0 0 (lw_Z below #[Value.ref b] s) (entryFrame m ([Value.ref b] : List Value).toArray 8) := by
  refine nm_start l hL C0 (fun D dA hK => nm_G_steps C0 hK 400 13 _ _ (nm_c0 _) ?_)
  have hA := nm_A0_ok xs
  have h7 : L = 0 ∨ L = 1 ∨ L = 2 ∨ L = 3 ∨ L = 4 ∨ L = 5 ∨ L = 6 := by omega
  rcases h7 with rfl | rfl | rfl | rfl | rfl | rfl | rfl
  · exact nm_G_chk C0 hK nm_ckL0 hA (fun _ _ _ _ h => absurd h List.not_mem_nil)
  · exact nm_G_chk C0 hK nm_ckL1 hA (fun _ _ _ _ h => absurd h List.not_mem_nil)
  · exact nm_G_chk C0 hK nm_ckL2 hA (fun _ _ _ _ h => absurd h List.not_mem_nil)
  · exact nm_G_chk C0 hK nm_ckL3 hA (fun _ _ _ _ h => absurd h List.not_mem_nil)
  · exact nm_G_chk C0 hK nm_ckL4 hA (fun _ _ _ _ h => absurd h List.not_mem_nil)
  · exact nm_G_chk C0 hK nm_ckL5 hA (fun _ _ _ _ h => absurd h List.not_mem_nil)
  · exact nm_six hl0 C0 hK
