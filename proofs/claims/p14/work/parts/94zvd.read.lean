/-! the class reads a rule -/
section sy_X
abbrev rcl : List Nat := [14, 54, 58, 62]
def Wrc (rc c k : Nat) : Bool := Nat.beq c rc && Nat.beq k 3
def Vrc (rc c : Nat) : Bool := Nat.beq c (rc + 1) || (Nat.beq c (rc + 2) || Nat.beq c (rc + 3))
theorem rc_g {rc : Nat} {h : px_H} (o : oS h) (hrc : rc ∈ rcl) : gR h rc 0 = rc + 1 ∧ gR h rc 1 = rc + 2 ∧ gR h rc 2 = rc + 3 := by
  have one : ∀ (rc d k : Nat), bR [rc] 3 k [d] = true → gR h rc k = d := fun rc d k hb => List.mem_singleton.mp (bR_ok hb List.mem_cons_self o).choose_spec.2.2
  simp only [rcl, List.mem_cons, List.not_mem_nil, or_false] at hrc
  rcases hrc with rfl | rfl | rfl | rfl
  · exact ⟨one 14 15 0 rfl, one 14 16 1 rfl, one 14 17 2 rfl⟩
  · exact ⟨one 54 55 0 rfl, one 54 56 1 rfl, one 54 57 2 rfl⟩
  · exact ⟨one 58 59 0 rfl, one 58 60 1 rfl, one 58 61 2 rfl⟩
  · exact ⟨one 62 63 0 rfl, one 62 64 1 rfl, one 62 65 2 rfl⟩
def RS (rc n c : Nat) (g K S F : Nat → Int32) (h0 h : px_H) : Prop := oS h ∧ gI h 12 1 = Int32.ofNat n ∧ aI h 13 = g ∧ gI h rc 3 = Int32.ofNat c ∧ aI h (rc + 1) = K ∧ aI h (rc + 2) = S ∧ aI h (rc + 3) = F ∧ fz (Wrc rc) (Vrc rc) h0 h
variable {rc n c i N : Nat} {g K S F : Nat → Int32} {h0 h : px_H}
theorem rc_ne (hrc : rc ∈ rcl) : rc ≠ 12 ∧ rc + 1 ≠ 13 ∧ rc + 2 ≠ 13 ∧ rc + 3 ≠ 13 := by
  simp only [rcl, List.mem_cons, List.not_mem_nil, or_false] at hrc
  omega
theorem rc_b (hrc : rc ∈ rcl) : Nat.beq 12 rc = false := by
  simp only [rcl, List.mem_cons, List.not_mem_nil, or_false] at hrc
  rcases hrc with rfl | rfl | rfl | rfl <;> rfl
theorem RS_K (hrc : rc ∈ rcl) (A : RS rc n c g K S F h0 h) (x : Int32) : RS rc n c g (upd K c x) S F h0 (uI h (rc + 1) c x) := by
  obtain ⟨o, a1, a2, a3, e1, e2, e3, fr⟩ := A
  have hm : rc + 1 ∈ [15, 55, 59, 63] := by
    simp only [rcl, List.mem_cons, List.not_mem_nil, or_false] at hrc ⊢
    omega
  have ne := rc_ne hrc
  exact ⟨oS_uI (cs := [15, 55, 59, 63]) (t := 0) (n := 7) rfl hm o, gI_uI.trans a1, (aI_uI_ne (by omega)).trans a2, gI_uI.trans a3, by rw [aI_uI (cs := [15, 55, 59, 63]) (t := 0) (n := 7) rfl hm o, e1], (aI_uI_ne (by omega)).trans e2, (aI_uI_ne (by omega)).trans e3, fz_tr fr (fz_uI (by unfold Vrc; rw [Nat.beq_refl]; rfl))⟩
theorem RS_S (hrc : rc ∈ rcl) (A : RS rc n c g K S F h0 h) (x : Int32) : RS rc n c g K (upd S c x) F h0 (uI h (rc + 2) c x) := by
  obtain ⟨o, a1, a2, a3, e1, e2, e3, fr⟩ := A
  have hm : rc + 2 ∈ [16, 56, 60, 64] := by
    simp only [rcl, List.mem_cons, List.not_mem_nil, or_false] at hrc ⊢
    omega
  have ne := rc_ne hrc
  exact ⟨oS_uI (cs := [16, 56, 60, 64]) (t := 1) (n := 7) rfl hm o, gI_uI.trans a1, (aI_uI_ne (by omega)).trans a2, gI_uI.trans a3, (aI_uI_ne (by omega)).trans e1, by rw [aI_uI (cs := [16, 56, 60, 64]) (t := 1) (n := 7) rfl hm o, e2], (aI_uI_ne (by omega)).trans e3, fz_tr fr (fz_uI (by unfold Vrc; rw [Nat.beq_refl, Bool.true_or, Bool.or_true]))⟩
theorem RS_F (hrc : rc ∈ rcl) (A : RS rc n c g K S F h0 h) (x : Int32) : RS rc n (c + 1) g K S (upd F c x) h0 (wF (uI h (rc + 3) c x) rc 3 (.int (Int32.ofNat (c + 1)))) := by
  obtain ⟨o, a1, a2, a3, e1, e2, e3, fr⟩ := A
  have hm : rc + 3 ∈ [17, 57, 61, 65] := by
    simp only [rcl, List.mem_cons, List.not_mem_nil, or_false] at hrc ⊢
    omega
  have ne := rc_ne hrc
  have o1 : oS (uI h (rc + 3) c x) := oS_uI (cs := [17, 57, 61, 65]) (t := 2) (n := 7) rfl hm o
  exact ⟨oS_wI (cs := rcl) (ci := 3) rfl hrc o1, (gI_wF_ne (by omega)).trans (gI_uI.trans a1), aI_wF.trans ((aI_uI_ne (by omega)).trans a2), gI_wF (cs := rcl) (ci := 3) rfl hrc o1, aI_wF.trans ((aI_uI_ne (by omega)).trans e1), aI_wF.trans ((aI_uI_ne (by omega)).trans e2), by rw [aI_wF, aI_uI (cs := [17, 57, 61, 65]) (t := 2) (n := 7) rfl hm o, e3], fz_tr fr (fz_tr (fz_uI (by unfold Vrc; rw [Nat.beq_refl, Bool.or_true, Bool.or_true])) (fz_wF (by unfold Wrc; rw [Nat.beq_refl]; rfl)))⟩
/-- a sign: the loop's body where there is one -/
theorem rd_body (hrc : rc ∈ rcl) (A : RS rc n c g K S F h0 h) (n4 : n ≤ 40) (hi : i < n) (hc : c < 7) : fn_Rule_read_L7 rc (N + 1) (Int32.ofNat i) h =
    (bif px_cmp .lt (g i) (Int8.ofInt 49).toInt32 || px_cmp .gt (g i) (Int8.ofInt 54).toInt32 then
      (bif px_cmp .eq (g i) (Int8.ofInt 98).toInt32 || (px_cmp .eq (g i) (Int8.ofInt 116).toInt32 || !px_cmp .ne (g i) (Int8.ofInt 108).toInt32) then fn_Rule_read_L7 rc N (Int32.ofNat (i + 1)) (wF (uI h (rc + 3) c (g i)) rc 3 (.int (Int32.ofNat (c + 1))))
       else bif px_cmp .eq (g i) (Int8.ofInt 59).toInt32 then fn_Rule_read_L7 rc N (Int32.ofNat (i + 1)) h else fn_Rule_read_L7 rc N (Int32.ofNat (i + 1)) (uI h (rc + 1) c (g i)))
     else fn_Rule_read_L7 rc N (Int32.ofNat (i + 1)) (uI h (rc + 2) c (g i - (Int8.ofInt 48).toInt32))) := by
  obtain ⟨o, a1, a2, a3, e1, e2, e3, fr⟩ := A
  obtain ⟨g0, g1, g2⟩ := rc_g o hrc
  have gf : gI (uI h (rc + 3) c (g i)) rc 3 = Int32.ofNat c := gI_uI.trans a3
  rw [show fn_Rule_read_L7 rc (N + 1) (Int32.ofNat i) h = fb_Rule_read_L7 rc (fn_Rule_read_L7 rc N) (Int32.ofNat i) h from rfl]
  unfold fb_Rule_read_L7
  rw [a1, ge_nat (by omega) (by omega), decide_eq_false (show ¬ n ≤ i by omega), cond_false, a3, show (Int8.ofInt 7).toInt32 = Int32.ofNat 7 from by decide, ge_nat (by omega) (by omega), decide_eq_false (show ¬ 7 ≤ c by omega), cond_false, nm_inR i 40 (by omega) (by omega), cond_true, nm_ofNat_clamp i (by omega), a2, nm_inR c 7 hc (by omega), nm_ofNat_clamp c (by omega), g0, g1, g2, inc1]
  simp only [sb, cond_true]
  rw [gf, inc1]
  cases px_cmp .lt (g i) (Int8.ofInt 49).toInt32 <;> cases px_cmp .gt (g i) (Int8.ofInt 54).toInt32 <;> cases px_cmp .eq (g i) (Int8.ofInt 98).toInt32 <;> cases px_cmp .eq (g i) (Int8.ofInt 116).toInt32 <;> cases px_cmp .ne (g i) (Int8.ofInt 108).toInt32 <;> cases px_cmp .eq (g i) (Int8.ofInt 59).toInt32 <;> rfl
theorem rd_kind (hrc : rc ∈ rcl) (A : RS rc n c g K S F h0 h) (n4 : n ≤ 40) (hi : i < n) (hc : c < 7) (hg : g i = 107 ∨ g i = 100 ∨ g i = 119 ∨ g i = 115) : ∃ h', fn_Rule_read_L7 rc (N + 1) (Int32.ofNat i) h = fn_Rule_read_L7 rc N (Int32.ofNat (i + 1)) h' ∧ RS rc n c g (upd K c (g i)) S F h0 h' := by
  refine ⟨_, ?_, RS_K hrc A (g i)⟩
  rw [rd_body hrc A n4 hi hc]
  rcases hg with e | e | e | e <;> rw [e] <;> rfl
theorem rd_semi (hrc : rc ∈ rcl) (A : RS rc n c g K S F h0 h) (n4 : n ≤ 40) (hi : i < n) (hc : c < 7) (hg : g i = 59) : fn_Rule_read_L7 rc (N + 1) (Int32.ofNat i) h = fn_Rule_read_L7 rc N (Int32.ofNat (i + 1)) h := by
  rw [rd_body hrc A n4 hi hc, hg]
  rfl
theorem rd_fate (hrc : rc ∈ rcl) (A : RS rc n c g K S F h0 h) (n4 : n ≤ 40) (hi : i < n) (hc : c < 7) (hg : g i = 98 ∨ g i = 116 ∨ g i = 108) : ∃ h', fn_Rule_read_L7 rc (N + 1) (Int32.ofNat i) h = fn_Rule_read_L7 rc N (Int32.ofNat (i + 1)) h' ∧ RS rc n (c + 1) g K S (upd F c (g i)) h0 h' := by
  refine ⟨_, ?_, RS_F hrc A (g i)⟩
  rw [rd_body hrc A n4 hi hc]
  rcases hg with e | e | e <;> rw [e] <;> rfl
theorem rd_span (hrc : rc ∈ rcl) (A : RS rc n c g K S F h0 h) (n4 : n ≤ 40) (hi : i < n) (hc : c < 7) (h1 : 49 ≤ (g i).toInt) (h2 : (g i).toInt ≤ 54) : ∃ h', fn_Rule_read_L7 rc (N + 1) (Int32.ofNat i) h = fn_Rule_read_L7 rc N (Int32.ofNat (i + 1)) h' ∧ RS rc n c g K (upd S c (g i - (Int8.ofInt 48).toInt32)) F h0 h' := by
  refine ⟨_, ?_, RS_S hrc A (g i - (Int8.ofInt 48).toInt32)⟩
  rw [rd_body hrc A n4 hi hc, cmp_lt, cmp_gt, show (Int8.ofInt 49).toInt32.toInt = 49 from by decide, show (Int8.ofInt 54).toInt32.toInt = 54 from by decide, decide_eq_false (show ¬ (g i).toInt < 49 by omega), decide_eq_false (show ¬ 54 < (g i).toInt by omega), Bool.or_false, cond_false]
def LR (c : Nat) (K S F rk rd : Nat → Int32) : Prop := ∀ k, k < c → kR (K k) (S k) (rk k) ∧ fR (F k) (rd k)
theorem LR_up {c : Nat} {K S F rk rd : Nat → Int32} (h : LR c K S F rk rd) {k0 s0 f0 rk0 rd0 : Int32} (h1 : kR k0 s0 rk0) (h2 : fR f0 rd0) {S' : Nat → Int32} (hS : S' c = s0) (hS' : ∀ k, k < c → S' k = S k) : LR (c + 1) (upd K c k0) S' (upd F c f0) (upd rk c rk0) (upd rd c rd0) := by
  intro k hk
  rw [upd_eq, upd_eq, upd_eq, upd_eq]
  by_cases e : k = c
  · subst e
    rw [if_pos rfl, if_pos rfl, if_pos rfl, if_pos rfl, hS]
    exact ⟨h1, h2⟩
  · rw [if_neg e, if_neg e, if_neg e, if_neg e, hS' k (by omega)]
    exact h k (by omega)
theorem fR_of {g : Nat → Int32} {w j : Nat} {d : Int32} (h : rp_d g w j = some d) : (g j = 98 ∨ g j = 116 ∨ g j = 108) ∧ fR (g j) d := by
  have hl := rp_d_lt h
  unfold rp_d at h
  cases h1 : rp_b g w j 98 with
  | true =>
    rw [h1] at h
    cases h
    simp only [rp_b, Bool.and_eq_true, decide_eq_true_eq] at h1
    exact ⟨Or.inl h1.2, Or.inl ⟨h1.2, rfl⟩⟩
  | false =>
    cases h2 : rp_b g w j 116 with
    | true =>
      rw [h1, h2] at h
      cases h
      simp only [rp_b, Bool.and_eq_true, decide_eq_true_eq] at h2
      exact ⟨Or.inr (Or.inl h2.2), Or.inr (Or.inl ⟨h2.2, rfl⟩)⟩
    | false =>
      cases h3 : rp_b g w j 108 with
      | true =>
        rw [h1, h2, h3] at h
        cases h
        simp only [rp_b, Bool.and_eq_true, decide_eq_true_eq] at h3
        exact ⟨Or.inr (Or.inr h3.2), Or.inr (Or.inr ⟨h3.2, rfl⟩)⟩
      | false => rw [h1, h2, h3] at h; cases h
/-- the beginning of a line -/
theorem rd_beg (hrc : rc ∈ rcl) (A : RS rc n c g K S F h0 h) (n4 : n ≤ 40) (hc : c < 7) {k : Int32} {a : Nat} (hk : rp_k g n i = some (k, a)) : ∃ (h' : px_H) (k0 s0 : Int32) (S' : Nat → Int32), fn_Rule_read_L7 rc (N + a) (Int32.ofNat i) h = fn_Rule_read_L7 rc N (Int32.ofNat (i + a)) h' ∧ RS rc n c g (upd K c k0) S' F h0 h' ∧ kR k0 s0 k ∧ S' c = s0 ∧ ∀ j, j < c → S' j = S j := by
  have hl := rp_k_le hk
  unfold rp_k at hk
  cases h1 : rp_b g n i 107 with
  | true =>
    rw [h1] at hk
    cases hk
    simp only [rp_b, Bool.and_eq_true, decide_eq_true_eq] at h1
    obtain ⟨h', e, B⟩ := rd_kind (N := N) hrc A n4 h1.1 hc (Or.inl h1.2)
    exact ⟨h', _, _, S, e, B, Or.inl ⟨h1.2, rfl⟩, rfl, fun _ _ => rfl⟩
  | false =>
    cases h2 : rp_b g n i 100 with
    | true =>
      rw [h1, h2] at hk
      cases hk
      simp only [rp_b, Bool.and_eq_true, decide_eq_true_eq] at h2
      obtain ⟨h', e, B⟩ := rd_kind (N := N) hrc A n4 h2.1 hc (Or.inr (Or.inl h2.2))
      exact ⟨h', _, _, S, e, B, Or.inr (Or.inl ⟨h2.2, rfl⟩), rfl, fun _ _ => rfl⟩
    | false =>
      cases h3 : rp_b g n i 119 with
      | true =>
        rw [h1, h2, h3] at hk
        cases hk
        simp only [rp_b, Bool.and_eq_true, decide_eq_true_eq] at h3
        obtain ⟨h', e, B⟩ := rd_kind (N := N) hrc A n4 h3.1 hc (Or.inr (Or.inr (Or.inl h3.2)))
        exact ⟨h', _, _, S, e, B, Or.inr (Or.inr (Or.inl ⟨h3.2, rfl⟩)), rfl, fun _ _ => rfl⟩
      | false =>
        rw [h1, h2, h3] at hk
        cases h4 : (rp_b g n i 115 && (decide (i + 1 < n) && (decide (49 ≤ (g (i + 1)).toInt) && decide ((g (i + 1)).toInt ≤ 54)))) with
        | false => rw [h4] at hk; cases hk
        | true =>
          rw [h4] at hk
          cases hk
          simp only [rp_b, Bool.and_eq_true, decide_eq_true_eq] at h4
          obtain ⟨⟨c0, c1⟩, c2, c3, c4⟩ := h4
          obtain ⟨h', e, B⟩ := rd_kind (N := N + 1) hrc A n4 c0 hc (Or.inr (Or.inr (Or.inr c1)))
          obtain ⟨h2', e2, B2⟩ := rd_span (N := N) hrc B n4 c2 hc c3 c4
          have e48 : (Int8.ofInt 48).toInt32 = 48 := by decide
          refine ⟨h2', _, _, _, e.trans e2, B2, Or.inr (Or.inr (Or.inr ⟨c1, ?_, (g (i + 1)).toInt.toNat - 48, by omega, by omega, ?_⟩)), by rw [upd_eq, if_pos rfl], fun j hj => by rw [upd_eq, if_neg (by omega)]⟩
          · rw [e48]
          · rw [e48, ← Int32.toInt_inj, nm_ofNat_toInt _ (by omega), Int32.toInt_sub, show (48 : Int32).toInt = 48 from by decide, Int.bmod_eq_of_le] <;> omega
theorem rd_loop (hrc : rc ∈ rcl) (n2 : n ≤ 20) : ∀ (m i c : Nat) (K S F rk rd : Nat → Int32) (N : Nat) (h : px_H), RS rc n c g K S F h0 h → LR c K S F rk rd → i ≤ n → 3 * c ≤ i → n < i + 3 * m → n < i + N → (rp_lp g n m i c rk rd).1 = true → (rp_lp g n m i c rk rd).2.1 = n →
    ∃ (h' : px_H) (K' S' F' : Nat → Int32), fn_Rule_read_L7 rc N (Int32.ofNat i) h = some h' ∧ RS rc n (rp_lp g n m i c rk rd).2.2.1 g K' S' F' h0 h' ∧ LR (rp_lp g n m i c rk rd).2.2.1 K' S' F' (rp_lp g n m i c rk rd).2.2.2.1 (rp_lp g n m i c rk rd).2.2.2.2 := by
  intro m
  induction m with
  | zero => intro i c K S F rk rd N h A hL h1 h2 h3; omega
  | succ m ih =>
    intro i c K S F rk rd N h A hL hi hc hm hN hg ha
    cases hk : rp_k g n i with
    | none =>
      rw [show rp_lp g n (m + 1) i c rk rd = (false, rp_kf g n i, c, rk, rd) from by simp only [rp_lp, hk]] at hg
      cases hg
    | some q =>
      obtain ⟨k, a⟩ := q
      have hl := rp_k_le hk
      cases hd : rp_d g n (i + a) with
      | none =>
        rw [show rp_lp g n (m + 1) i c rk rd = (false, i + a, c, rk, rd) from by simp only [rp_lp, hk, hd]] at hg
        cases hg
      | some d =>
        have hdl := rp_d_lt hd
        obtain ⟨f1, f2⟩ := fR_of hd
        obtain ⟨N, rfl⟩ : ∃ M, N = M + 1 + a := ⟨N - 1 - a, by omega⟩
        obtain ⟨h1, k0, s0, S1, e1, A1, r1, r2, r3⟩ := rd_beg (N := N + 1) hrc A (by omega) (by omega) hk
        obtain ⟨h2, e2, A2⟩ := rd_fate (N := N) hrc A1 (by omega) hdl (by omega) f1
        have L2 := LR_up hL r1 f2 r2 r3
        cases hb : rp_b g n (i + a + 1) 59 with
        | true =>
          have hbl := rp_b_lt hb
          have hb2 : g (i + a + 1) = 59 := by
            simp only [rp_b, Bool.and_eq_true, decide_eq_true_eq] at hb
            exact hb.2
          rw [show rp_lp g n (m + 1) i c rk rd = rp_lp g n m (i + a + 2) (c + 1) (upd rk c k) (upd rd c d) from by simp only [rp_lp, hk, hd, hb, cond_true]] at hg ha ⊢
          obtain ⟨N, rfl⟩ : ∃ M, N = M + 1 := ⟨N - 1, by omega⟩
          have c7 : c + 1 < 7 := by omega
          have e3 := rd_semi (N := N) hrc A2 (by omega) hbl c7 hb2
          obtain ⟨h', K', S', F', q1, q2, q3⟩ := ih (i + a + 2) (c + 1) _ _ _ _ _ N h2 A2 L2 (by omega) (by omega) (by omega) (by omega) hg ha
          exact ⟨h', K', S', F', by rw [e1, e2, e3, q1], q2, q3⟩
        | false =>
          rw [show rp_lp g n (m + 1) i c rk rd = (true, i + a + 1, c + 1, upd rk c k, upd rd c d) from by simp only [rp_lp, hk, hd, hb, cond_false]] at hg ha ⊢
          simp only at ha
          obtain ⟨N, rfl⟩ : ∃ M, N = M + 1 := ⟨N - 1, by omega⟩
          refine ⟨h2, _, _, _, ?_, A2, L2⟩
          rw [e1, e2]
          show fb_Rule_read_L7 rc (fn_Rule_read_L7 rc N) (Int32.ofNat (i + a + 1)) h2 = _
          unfold fb_Rule_read_L7
          rw [A2.2.1, ge_nat (by omega) (by omega), decide_eq_true (show n ≤ i + a + 1 by omega), cond_true]
/-- a text that can stand is read -/
theorem rd_read (hrc : rc ∈ rcl) (o : oS h) {rk rd : Nat → Int32} (hn : gI h 12 1 = Int32.ofNat n) (hP : LPt (aI h 13) n c rk rd) : ∃ h', fn_Rule_read rc h = some h' ∧ oS h' ∧ fz (Wrc rc) (Vrc rc) h h' ∧ gI h' rc 3 = Int32.ofNat c ∧ ∀ k, k < c → kR (aI h' (rc + 1) k) (aI h' (rc + 2) k) (rk k) ∧ fR (aI h' (rc + 3) k) (rd k) := by
  unfold fn_Rule_read
  simp only [sb]
  have o1 : oS (wF h rc 3 (.int (Int32.ofInt 0))) := oS_wI (cs := rcl) (ci := 3) rfl hrc o
  have f1 : fz (Wrc rc) (Vrc rc) h (wF h rc 3 (.int (Int32.ofInt 0))) := fz_wF (by unfold Wrc; rw [Nat.beq_refl]; rfl)
  have g1 : gI (wF h rc 3 (.int (Int32.ofInt 0))) rc 3 = Int32.ofInt 0 := gI_wF (cs := rcl) (ci := 3) rfl hrc o
  have g2 : gI (wF h rc 3 (.int (Int32.ofInt 0))) 12 1 = Int32.ofNat n := (gI_wF_ne (by have := rc_ne hrc; omega)).trans hn
  have g3 : aI (wF h rc 3 (.int (Int32.ofInt 0))) 13 = aI h 13 := aI_wF
  generalize wF h rc 3 (.int (Int32.ofInt 0)) = h1 at o1 f1 g1 g2 g3 ⊢
  rcases hP with ⟨rfl, rfl⟩ | ⟨p1, p2, rk0, rd0, hq⟩
  · obtain ⟨N, hN⟩ : ∃ k, fu = k + 1 := ⟨fu - 1, by have := fu_lt (m := 1) (by omega); omega⟩
    refine ⟨h1, ?_, o1, f1, g1, fun k hk => by omega⟩
    rw [hN]
    show fb_Rule_read_L7 rc (fn_Rule_read_L7 rc N) (Int32.ofInt 0) h1 = _
    unfold fb_Rule_read_L7
    rw [g2, show px_cmp .ge (Int32.ofInt 0) (Int32.ofNat 0) = true from by decide, cond_true]
  · have A : RS rc n 0 (aI h 13) (aI h1 (rc + 1)) (aI h1 (rc + 2)) (aI h1 (rc + 3)) h h1 := ⟨o1, g2, g3, g1, rfl, rfl, rfl, f1⟩
    have hf := fu_lt (m := 50) (by omega)
    obtain ⟨h', K', S', F', q1, q2, q3⟩ := rd_loop hrc p2 7 0 0 _ _ _ rk0 rd0 fu h1 A (fun k hk => by omega) (by omega) (by omega) (by omega) (by omega) (by rw [hq]) (by rw [hq])
    rw [hq] at q2 q3
    obtain ⟨b1, b2, b3, b4, b5, b6, b7, b8⟩ := q2
    exact ⟨h', q1, b1, b8, b4, by rw [b5, b6, b7]; exact q3⟩
end sy_X
/-! both read -/
section sy_Y
variable {hX hM : px_H}
def Wri (rc c k : Nat) : Bool := Wrc rc c k || Wtx c k
/-- a text read into a rule of the class, and at a place of the model -/
theorem sim_reads {rc r n : Nat} (hrc : rc ∈ rcl) (hr : r < 4) (oX : oS hX) (oM : oS hM) (n4 : n ≤ 40) (t1 : gI hX 12 1 = Int32.ofNat n) (t2 : gI hM 69 22 = Int32.ofNat n) (t3 : ∀ i, i < 40 → aI hX 13 i = aI hM 85 i) :
    ∃ (v : Int32) (hX' hM' : px_H), fn_X_readInto rc hX = some (v, hX') ∧ fn_M_readsRule (Int32.ofNat r) hM = some (v, hM') ∧ oS hX' ∧ oS hM' ∧ fz (Wri rc) (Vrc rc) hX hX' ∧ fz Wru Vru hM hM' ∧ gI hX' 12 1 = Int32.ofNat 0 ∧ gI hM' 69 22 = Int32.ofNat 0 ∧
      ((px_cmp .lt v 0 = false ∧ ∃ c, c ≤ 7 ∧ v = Int32.ofNat c ∧ gI hX' rc 3 = Int32.ofNat c ∧ aI hM' 81 = upd (aI hM 81) r (Int32.ofNat c) ∧ aI hM' 82 = upd (aI hM 82) r (Int32.ofInt 1) ∧ (∀ k, k < c → kR (aI hX' (rc + 1) k) (aI hX' (rc + 2) k) (aI hM' 83 (7 * r + k)) ∧ fR (aI hX' (rc + 3) k) (aI hM' 84 (7 * r + k))) ∧ ∀ j, ¬ (7 * r ≤ j ∧ j < 7 * r + 7) → aI hM' 83 j = aI hM 83 j ∧ aI hM' 84 j = aI hM 84 j) ∨
       (px_cmp .lt v 0 = true ∧ fz Wtx V0 hX hX' ∧ aI hM' 81 = aI hM 81 ∧ aI hM' 82 = aI hM 82 ∧ aI hM' 83 = aI hM 83 ∧ aI hM' 84 = aI hM 84)) := by
  obtain ⟨v, hM', e1, o2, f2, g2, alt⟩ := tx_reads hr oM n4 t2
  have hxe : xf (aI hX 13) (min n 20) n 21 0 0 = xf (aI hM 85) (min n 20) n 21 0 0 := by
    have cg : ∀ (m q i : Nat), xf (aI hX 13) (min n 20) n m q i = xf (aI hM 85) (min n 20) n m q i := by
      intro m
      induction m with
      | zero => intro q i; rfl
      | succ m ih =>
        intro q i
        unfold xf
        by_cases hi : i < min n 20
        · rw [if_pos hi, if_pos hi, t3 i (by omega)]
          cases rp_bh q (aI hM 85 i) with
          | none => rfl
          | some q' => exact ih q' (i + 1)
        · rw [if_neg hi, if_neg hi]
    exact cg 21 0 0
  have bd := xf_bd (g := aI hM 85) (w := min n 20) (n := n) (by omega) 21 0 0
  have hge : px_cmp .ge (Int32.ofInt (xf (aI hM 85) (min n 20) n 21 0 0)) 0 = decide (0 ≤ xf (aI hM 85) (min n 20) n 21 0 0) := by
    rw [cmp_ge, toInt_oI (by omega) (by omega), show (0 : Int32).toInt = 0 from by decide]
  unfold fn_X_readInto
  rw [tx_first t1 n4, hxe, Option.bind_some, hge]
  rcases alt with ⟨hx, c, rk, rd, c7, rfl, hP, k1, k2, k3⟩ | ⟨hx, hv, k1, k2, k3, k4⟩
  · rw [decide_eq_false (by omega), cond_false]
    have hP' : LPt (aI hX 13) n c rk rd := by
      rcases hP with h | ⟨p1, p2, rk0, rd0, hq⟩
      · exact Or.inl h
      · refine Or.inr ⟨p1, p2, rk0, rd0, ?_⟩
        have b : ∀ (i : Nat) (s : Int32), rp_b (aI hX 13) n i s = rp_b (aI hM 85) n i s := by
          intro i s
          unfold rp_b
          by_cases hi : i < n
          · rw [t3 i (by omega)]
          · rw [decide_eq_false hi, Bool.false_and, Bool.false_and]
        have kk : ∀ i, rp_k (aI hX 13) n i = rp_k (aI hM 85) n i := by
          intro i
          unfold rp_k
          rw [b, b, b, b]
          by_cases hi : i + 1 < n
          · rw [t3 (i + 1) (by omega)]
          · rw [decide_eq_false hi, Bool.false_and, Bool.false_and, Bool.and_false]
            rfl
        have dd : ∀ i, rp_d (aI hX 13) n i = rp_d (aI hM 85) n i := by
          intro i
          unfold rp_d
          rw [b, b, b]
        have lp : ∀ (m i c : Nat) (rk rd : Nat → Int32), rp_lp (aI hX 13) n m i c rk rd = rp_lp (aI hM 85) n m i c rk rd := by
          intro m
          induction m with
          | zero => intro i c rk rd; rfl
          | succ m ih =>
            intro i c rk rd
            unfold rp_lp
            rw [kk]
            cases rp_k (aI hM 85) n i with
            | none => simp only [rp_kf, b]
            | some q =>
              obtain ⟨k, a⟩ := q
              simp only
              rw [dd]
              cases rp_d (aI hM 85) n (i + a) with
              | none => rfl
              | some d =>
                simp only
                rw [b, ih]
        rw [lp]
        exact hq
    obtain ⟨h1, q1, q2, q3, q4, q5⟩ := rd_read hrc oX t1 hP'
    have nr := rc_ne hrc
    have t1' : gI h1 12 1 = Int32.ofNat n := (fz_gI q3 (by unfold Wrc; rw [show Nat.beq 12 rc = false from rc_b hrc]; rfl)).trans t1
    rw [q1, Option.bind_some, tx_cut q2 n4 t1', show decide (0 ≤ (Int32.ofInt 0).toInt ∧ (Int32.ofInt 0).toInt ≤ (n : Int)) = true from decide_eq_true ⟨by decide, by rw [show (Int32.ofInt 0).toInt = 0 from by decide]; omega⟩, cond_true, Option.bind_some, cond_false]
    have f3 : fz (Wri rc) (Vrc rc) h1 (wF h1 12 1 (.int (Int32.ofInt 0))) := fz_wF (by unfold Wri Wtx; simp)
    have f4 : fz (Wri rc) (Vrc rc) hX h1 := fz_mono q3 (fun _ _ h => by unfold Wri at h; simp only [Bool.or_eq_false_iff] at h; exact h.1) (fun _ h => h)
    have g4 : gI (wF h1 12 1 (.int (Int32.ofInt 0))) rc 3 = Int32.ofNat c := (gI_wF_ne (by omega)).trans q4
    refine ⟨Int32.ofNat c, wF h1 12 1 (.int (Int32.ofInt 0)), hM', ?_, e1, oS_wI (cs := [12]) (ci := 5) rfl List.mem_cons_self q2, o2, fz_tr f4 f3, f2, gI_wF (cs := [12]) (ci := 5) rfl List.mem_cons_self q2, g2, Or.inl ⟨?_, c, c7, rfl, g4, k1, k2, fun k hk => ?_, fun j hj => ?_⟩⟩
    · show some (gI (wF h1 12 1 (.int (Int32.ofInt 0))) rc 3, wF h1 12 1 (.int (Int32.ofInt 0))) = _
      rw [g4]
    · exact (lt_nat (b := 0) (by omega) (by omega)).trans (decide_eq_false (by omega))
    · rw [aI_wF, aI_wF, aI_wF, (k3 _).1, (k3 _).2, if_pos (by omega), if_pos (by omega), show 7 * r + k - 7 * r = k from by omega]
      exact q5 k hk
    · rw [(k3 _).1, (k3 _).2, if_neg (by omega), if_neg (by omega)]
      exact ⟨rfl, rfl⟩
  · rw [decide_eq_true (by omega), cond_true, tx_cut oX n4 t1, show decide (0 ≤ (Int32.ofInt 0).toInt ∧ (Int32.ofInt 0).toInt ≤ (n : Int)) = true from decide_eq_true ⟨by decide, by rw [show (Int32.ofInt 0).toInt = 0 from by decide]; omega⟩, cond_true, Option.bind_some, cond_true]
    have hv2 : Int32.ofInt (-1) - Int32.ofInt (xf (aI hM 85) (min n 20) n 21 0 0) = v := by
      rw [hv, ← Int32.toInt_inj, Int32.toInt_sub, toInt_oI (show -2147483648 ≤ (-1 : Int) by omega) (by omega), toInt_oI (show -2147483648 ≤ xf (aI hM 85) (min n 20) n 21 0 0 by omega) (by omega), toInt_oI (by omega) (by omega), Int.bmod_eq_of_le] <;> omega
    rw [hv2]
    refine ⟨v, _, hM', rfl, e1, oS_wI (cs := [12]) (ci := 5) rfl List.mem_cons_self oX, o2, fz_wF (by unfold Wri Wtx; simp), f2, gI_wF (cs := [12]) (ci := 5) rfl List.mem_cons_self oX, g2, Or.inr ⟨?_, fz_wF rfl, k1, k2, k3, k4⟩⟩
    rw [hv, lt0, toInt_oI (by omega) (by omega)]
    exact decide_eq_true (by omega)
end sy_Y
