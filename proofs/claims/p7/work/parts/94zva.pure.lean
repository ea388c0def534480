section mg_0
/-! reading a rule: line by line and sign by sign (the pure rows of 94p .. 94t) -/
def rp_b (g : Nat → Int32) (w i : Nat) (c : Int32) : Bool := decide (i < w) && decide (g i = c)
def rp_i (b : Bool) : Int32 := bif b then 1 else 0
def rp_n (b : Bool) : Nat := bif b then 1 else 0
def rp_k (g : Nat → Int32) (w i : Nat) : Option (Int32 × Nat) :=
  bif rp_b g w i 107 then some (0, 1) else bif rp_b g w i 100 then some (7, 1) else bif rp_b g w i 119 then some (8, 1) else
  bif rp_b g w i 115 && (decide (i + 1 < w) && (decide (49 ≤ (g (i + 1)).toInt) && decide ((g (i + 1)).toInt ≤ 54))) then some (g (i + 1) - 48, 2) else none
def rp_d (g : Nat → Int32) (w j : Nat) : Option Int32 :=
  bif rp_b g w j 98 then some 0 else bif rp_b g w j 116 then some 1 else bif rp_b g w j 108 then some 2 else none
def rp_kf (g : Nat → Int32) (w i : Nat) : Nat := i + rp_n (rp_b g w i 115)
theorem rp_b_lt {g : Nat → Int32} {w i : Nat} {s : Int32} (h : rp_b g w i s = true) : i < w := by
  simp only [rp_b, Bool.and_eq_true, decide_eq_true_eq] at h
  exact h.1
theorem rp_b_ex {g : Nat → Int32} {w i : Nat} {s t : Int32} (h : rp_b g w i s = true) (hst : s ≠ t) : rp_b g w i t = false := by
  simp only [rp_b, Bool.and_eq_true, decide_eq_true_eq] at h
  simp only [rp_b, Bool.and_eq_false_iff, decide_eq_false_iff_not]
  exact Or.inr (fun e => hst (h.2.symm.trans e))
def rp_lp (g : Nat → Int32) (w : Nat) : Nat → Nat → Nat → (Nat → Int32) → (Nat → Int32) → Bool × Nat × Nat × (Nat → Int32) × (Nat → Int32)
  | 0, i, c, rk, rd => (false, i, c, rk, rd)
  | m + 1, i, c, rk, rd => match rp_k g w i with
    | none => (false, rp_kf g w i, c, rk, rd)
    | some (k, n) => match rp_d g w (i + n) with
      | none => (false, i + n, c, rk, rd)
      | some d => bif rp_b g w (i + n + 1) 59 then rp_lp g w m (i + n + 2) (c + 1) (upd rk c k) (upd rd c d) else (true, i + n + 1, c + 1, upd rk c k, upd rd c d)
theorem rp_k_le {g : Nat → Int32} {w i n : Nat} {k : Int32} (h : rp_k g w i = some (k, n)) : 1 ≤ n ∧ n ≤ 2 ∧ i + n ≤ w := by
  unfold rp_k at h
  cases h1 : rp_b g w i 107 with
  | true => rw [h1] at h; cases h; have := rp_b_lt h1; omega
  | false =>
    cases h2 : rp_b g w i 100 with
    | true => rw [h1, h2] at h; cases h; have := rp_b_lt h2; omega
    | false =>
      cases h3 : rp_b g w i 119 with
      | true => rw [h1, h2, h3] at h; cases h; have := rp_b_lt h3; omega
      | false =>
        rw [h1, h2, h3] at h
        cases h4 : (rp_b g w i 115 && (decide (i + 1 < w) && (decide (49 ≤ (g (i + 1)).toInt) && decide ((g (i + 1)).toInt ≤ 54)))) with
        | true =>
          rw [h4] at h
          cases h
          simp only [Bool.and_eq_true, decide_eq_true_eq] at h4
          omega
        | false => rw [h4] at h; cases h
theorem rp_d_lt {g : Nat → Int32} {w j : Nat} {d : Int32} (h : rp_d g w j = some d) : j < w := by
  unfold rp_d at h
  cases h1 : rp_b g w j 98 with
  | true => exact rp_b_lt h1
  | false =>
    cases h2 : rp_b g w j 116 with
    | true => exact rp_b_lt h2
    | false =>
      cases h3 : rp_b g w j 108 with
      | true => exact rp_b_lt h3
      | false => rw [h1, h2, h3] at h; cases h
theorem rp_lp_bd {g : Nat → Int32} {w : Nat} : ∀ (m i c : Nat) (rk rd : Nat → Int32), i ≤ w → 3 * c ≤ i → (rp_lp g w m i c rk rd).2.1 ≤ w ∧ 3 * (rp_lp g w m i c rk rd).2.2.1 ≤ (rp_lp g w m i c rk rd).2.1 + 1
  | 0, i, c, rk, rd, h1, h2 => ⟨h1, by show 3 * c ≤ i + 1; omega⟩
  | m + 1, i, c, rk, rd, h1, h2 => by
    unfold rp_lp
    cases hk : rp_k g w i with
    | none =>
      simp only
      have : rp_kf g w i ≤ w ∧ i ≤ rp_kf g w i := by
        unfold rp_kf
        cases hb : rp_b g w i 115 with
        | true => have := rp_b_lt hb; show i + 1 ≤ w ∧ i ≤ i + 1; omega
        | false => show i + 0 ≤ w ∧ i ≤ i + 0; omega
      omega
    | some q =>
      obtain ⟨k, n⟩ := q
      have hl := rp_k_le hk
      simp only
      cases hd : rp_d g w (i + n) with
      | none => simp only; omega
      | some d =>
        have hdl := rp_d_lt hd
        simp only
        cases hb : rp_b g w (i + n + 1) 59 with
        | true =>
          have hbl := rp_b_lt hb
          simp only [cond_true]
          exact rp_lp_bd m (i + n + 2) (c + 1) _ _ (by omega) (by omega)
        | false =>
          simp only [cond_false]
          omega
def rp_bh (q : Nat) (s : Int32) : Option Nat := match q with
  | 0 => if s = 115 then some 1 else if s = 107 ∨ s = 100 ∨ s = 119 then some 2 else none
  | 1 => if 49 ≤ s.toInt ∧ s.toInt ≤ 54 then some 2 else none
  | 2 => if s = 98 ∨ s = 116 ∨ s = 108 then some 3 else none
  | _ => if s = 59 then some 0 else none
theorem rp_bh0 (s : Int32) : rp_bh 0 s = if s = 115 then some 1 else if s = 107 ∨ s = 100 ∨ s = 119 then some 2 else none := rfl
theorem rp_bh1 (s : Int32) : rp_bh 1 s = if 49 ≤ s.toInt ∧ s.toInt ≤ 54 then some 2 else none := rfl
theorem rp_bh2 (s : Int32) : rp_bh 2 s = if s = 98 ∨ s = 116 ∨ s = 108 then some 3 else none := rfl
theorem rp_bh3 (s : Int32) : rp_bh 3 s = if s = 59 then some 0 else none := rfl
def rp_bi (q : Option Nat) : Int32 := match q with
  | some q => Int32.ofNat q
  | none => Int32.ofInt (-1)
def xf_end (n q : Nat) : Int := if 20 < n then 20 else if n = 0 ∨ q = 3 then -1 else (n : Int)
def xf (g : Nat → Int32) (w n : Nat) : Nat → Nat → Nat → Int
  | 0, q, _ => xf_end n q
  | m + 1, q, i => if i < w then (match rp_bh q (g i) with
    | some q' => xf g w n m q' (i + 1)
    | none => (i : Int)) else xf_end n q
theorem rp_bh_le {q q' : Nat} {s : Int32} (h : rp_bh q s = some q') : q' ≤ 3 := by
  unfold rp_bh at h
  split at h
  · split at h
    · cases h; decide
    · split at h
      · cases h; decide
      · cases h
  · split at h
    · cases h; decide
    · cases h
  · split at h
    · cases h; decide
    · cases h
  · split at h
    · cases h; decide
    · cases h
/-! line by line and sign by sign tell the same -/
section xf_1
variable {g : Nat → Int32} {w n : Nat}
theorem rp_bt {i : Nat} {s : Int32} (h1 : i < w) (h2 : g i = s) : rp_b g w i s = true := by
  simp only [rp_b, Bool.and_eq_true, decide_eq_true_eq]
  exact ⟨h1, h2⟩
theorem rp_bf {i : Nat} {s : Int32} (h : ¬ (i < w ∧ g i = s)) : rp_b g w i s = false := by
  simp only [rp_b, Bool.and_eq_false_iff, decide_eq_false_iff_not]
  by_cases h1 : i < w
  · exact Or.inr (fun e => h ⟨h1, e⟩)
  · exact Or.inl h1
theorem xf_end_ne {q : Nat} (hn : 0 < n) (hq : q ≠ 3) : xf_end n q = xf_end n 0 := by
  unfold xf_end
  split
  · rfl
  · rw [if_neg (by omega), if_neg (by omega)]
theorem xf_at {M q i : Nat} (h : ¬ i < w) : xf g w n M q i = xf_end n q := by
  cases M with
  | zero => rfl
  | succ M => unfold xf; rw [if_neg h]
theorem xf_go {M q q' i : Nat} (h : i < w) (hb : rp_bh q (g i) = some q') : xf g w n (M + 1) q i = xf g w n M q' (i + 1) := by
  conv => lhs; unfold xf
  rw [if_pos h, hb]
theorem xf_no {M q i : Nat} (h : i < w) (hb : rp_bh q (g i) = none) : xf g w n (M + 1) q i = (i : Int) := by
  conv => lhs; unfold xf
  rw [if_pos h, hb]
theorem xf_k_none (hn : 0 < n) {M i : Nat} (hi : i ≤ w) (hM : w < i + M) (hk : rp_k g w i = none) : xf g w n M 0 i = if rp_kf g w i < w then ((rp_kf g w i : Nat) : Int) else xf_end n 0 := by
  obtain ⟨M, rfl⟩ : ∃ M', M = M' + 1 := ⟨M - 1, by omega⟩
  by_cases h : i < w
  · by_cases h1 : g i = 107
    · rw [rp_k, rp_bt h h1] at hk; cases hk
    by_cases h2 : g i = 100
    · rw [rp_k, rp_bf (s := 107) (fun e => h1 e.2), rp_bt h h2] at hk; cases hk
    by_cases h3 : g i = 119
    · rw [rp_k, rp_bf (s := 107) (fun e => h1 e.2), rp_bf (s := 100) (fun e => h2 e.2), rp_bt h h3] at hk; cases hk
    by_cases h4 : g i = 115
    · have hkf : rp_kf g w i = i + 1 := by unfold rp_kf; rw [rp_bt h h4]; rfl
      rw [hkf, xf_go h (q' := 1) (by rw [rp_bh0, if_pos h4])]
      by_cases h5 : i + 1 < w
      · rw [if_pos h5]
        obtain ⟨M, rfl⟩ : ∃ M', M = M' + 1 := ⟨M - 1, by omega⟩
        by_cases hd : 49 ≤ (g (i + 1)).toInt ∧ (g (i + 1)).toInt ≤ 54
        · rw [rp_k, rp_bf (s := 107) (fun e => h1 e.2), rp_bf (s := 100) (fun e => h2 e.2), rp_bf (s := 119) (fun e => h3 e.2), rp_bt h h4] at hk
          simp [h5, hd.1, hd.2] at hk
        · exact xf_no h5 (by rw [rp_bh1, if_neg hd])
      · rw [if_neg h5, xf_at h5]
        exact xf_end_ne hn (by decide)
    · have hkf : rp_kf g w i = i := by unfold rp_kf; rw [rp_bf (fun e => h4 e.2)]; rfl
      rw [hkf, if_pos h]
      exact xf_no h (by rw [rp_bh0, if_neg h4, if_neg (by rintro (e | e | e); exact h1 e; exact h2 e; exact h3 e)])
  · have hkf : rp_kf g w i = i := by unfold rp_kf; rw [rp_bf (fun e => h e.1)]; rfl
    rw [hkf, if_neg h, xf_at h]
theorem xf_k_some {M i a : Nat} {k : Int32} (hM : w < i + M) (hk : rp_k g w i = some (k, a)) : xf g w n M 0 i = xf g w n (M - a) 2 (i + a) := by
  have hl := rp_k_le hk
  obtain ⟨M, rfl⟩ : ∃ M', M = M' + 1 := ⟨M - 1, by omega⟩
  have h : i < w := by omega
  by_cases h1 : g i = 107
  · rw [rp_k, rp_bt h h1] at hk
    cases hk
    rw [xf_go h (q' := 2) (by rw [rp_bh0, if_neg (by rw [h1]; decide), if_pos (Or.inl h1)])]
    rfl
  by_cases h2 : g i = 100
  · rw [rp_k, rp_bf (s := 107) (fun e => h1 e.2), rp_bt h h2] at hk
    cases hk
    rw [xf_go h (q' := 2) (by rw [rp_bh0, if_neg (by rw [h2]; decide), if_pos (Or.inr (Or.inl h2))])]
    rfl
  by_cases h3 : g i = 119
  · rw [rp_k, rp_bf (s := 107) (fun e => h1 e.2), rp_bf (s := 100) (fun e => h2 e.2), rp_bt h h3] at hk
    cases hk
    rw [xf_go h (q' := 2) (by rw [rp_bh0, if_neg (by rw [h3]; decide), if_pos (Or.inr (Or.inr h3))])]
    rfl
  · rw [rp_k, rp_bf (s := 107) (fun e => h1 e.2), rp_bf (s := 100) (fun e => h2 e.2), rp_bf (s := 119) (fun e => h3 e.2)] at hk
    simp only [cond_false] at hk
    cases hc : (rp_b g w i 115 && (decide (i + 1 < w) && (decide (49 ≤ (g (i + 1)).toInt) && decide ((g (i + 1)).toInt ≤ 54)))) with
    | false => rw [hc] at hk; cases hk
    | true =>
      rw [hc] at hk
      cases hk
      simp only [Bool.and_eq_true, decide_eq_true_eq] at hc
      obtain ⟨c1, c2, c3, c4⟩ := hc
      have h4 : g i = 115 := by
        simp only [rp_b, Bool.and_eq_true, decide_eq_true_eq] at c1
        exact c1.2
      obtain ⟨M, rfl⟩ : ∃ M', M = M' + 1 := ⟨M - 1, by omega⟩
      rw [xf_go h (q' := 1) (by rw [rp_bh0, if_pos h4]), xf_go c2 (q' := 2) (by rw [rp_bh1, if_pos ⟨c3, c4⟩])]
      rfl
theorem xf_d_some {M j : Nat} {d : Int32} (hM : w < j + M) (hd : rp_d g w j = some d) : xf g w n M 2 j = xf g w n (M - 1) 3 (j + 1) := by
  have h := rp_d_lt hd
  obtain ⟨M, rfl⟩ : ∃ M', M = M' + 1 := ⟨M - 1, by omega⟩
  rw [xf_go h (q' := 3)]
  · rfl
  · rw [rp_bh2, if_pos]
    unfold rp_d at hd
    by_cases h1 : g j = 98
    · exact Or.inl h1
    by_cases h2 : g j = 116
    · exact Or.inr (Or.inl h2)
    by_cases h3 : g j = 108
    · exact Or.inr (Or.inr h3)
    rw [rp_bf (s := 98) (fun e => h1 e.2), rp_bf (s := 116) (fun e => h2 e.2), rp_bf (s := 108) (fun e => h3 e.2)] at hd
    cases hd
theorem xf_d_none (hn : 0 < n) {M j : Nat} (hj : j ≤ w) (hM : w < j + M) (hd : rp_d g w j = none) : xf g w n M 2 j = if j < w then (j : Int) else xf_end n 0 := by
  obtain ⟨M, rfl⟩ : ∃ M', M = M' + 1 := ⟨M - 1, by omega⟩
  by_cases h : j < w
  · rw [if_pos h]
    refine xf_no h ?_
    rw [rp_bh2, if_neg]
    unfold rp_d at hd
    rintro (e | e | e)
    · rw [rp_bt h e] at hd; cases hd
    · rw [rp_bf (s := 98) (fun e' => by rw [e] at e'; exact absurd e'.2 (by decide)), rp_bt h e] at hd; cases hd
    · rw [rp_bf (s := 98) (fun e' => by rw [e] at e'; exact absurd e'.2 (by decide)), rp_bf (s := 116) (fun e' => by rw [e] at e'; exact absurd e'.2 (by decide)), rp_bt h e] at hd; cases hd
  · rw [if_neg h, xf_at h]
    exact xf_end_ne hn (by decide)
theorem xf_s_some {M j : Nat} (hM : w < j + M) (hb : rp_b g w j 59 = true) : xf g w n M 3 j = xf g w n (M - 1) 0 (j + 1) := by
  have h := rp_b_lt hb
  obtain ⟨M, rfl⟩ : ∃ M', M = M' + 1 := ⟨M - 1, by omega⟩
  simp only [rp_b, Bool.and_eq_true, decide_eq_true_eq] at hb
  rw [xf_go h (q' := 0) (by rw [rp_bh3, if_pos hb.2])]
  rfl
theorem xf_s_none {M j : Nat} (hM : w < j + M) (hj : j ≤ w) (hb : rp_b g w j 59 = false) : xf g w n M 3 j = if j < w then (j : Int) else xf_end n 3 := by
  obtain ⟨M, rfl⟩ : ∃ M', M = M' + 1 := ⟨M - 1, by omega⟩
  by_cases h : j < w
  · rw [if_pos h]
    refine xf_no h ?_
    rw [rp_bh3, if_neg (fun e => by rw [rp_bt h e] at hb; cases hb)]
  · rw [if_neg h, xf_at h]
theorem xf_lp (hn : 0 < n) : ∀ (m i c : Nat) (rk rd : Nat → Int32) (M : Nat), i ≤ w → w < i + 3 * m → w < i + M →
    xf g w n M 0 i = if (rp_lp g w m i c rk rd).1 = true then (if (rp_lp g w m i c rk rd).2.1 < w then (((rp_lp g w m i c rk rd).2.1 : Nat) : Int) else xf_end n 3) else (if (rp_lp g w m i c rk rd).2.1 < w then (((rp_lp g w m i c rk rd).2.1 : Nat) : Int) else xf_end n 0)
  | 0, i, c, rk, rd, M, h1, h2, _ => by omega
  | m + 1, i, c, rk, rd, M, h1, h2, h3 => by
    cases hk : rp_k g w i with
    | none =>
      rw [show rp_lp g w (m + 1) i c rk rd = (false, rp_kf g w i, c, rk, rd) from by simp only [rp_lp, hk]]
      simp only [Bool.false_eq_true, if_false]
      exact xf_k_none hn h1 h3 hk
    | some q =>
      obtain ⟨k, a⟩ := q
      have hl := rp_k_le hk
      rw [xf_k_some h3 hk]
      cases hd : rp_d g w (i + a) with
      | none =>
        rw [show rp_lp g w (m + 1) i c rk rd = (false, i + a, c, rk, rd) from by simp only [rp_lp, hk, hd]]
        simp only [Bool.false_eq_true, if_false]
        exact xf_d_none hn hl.2.2 (by omega) hd
      | some d =>
        have hdl := rp_d_lt hd
        rw [xf_d_some (by omega) hd]
        cases hb : rp_b g w (i + a + 1) 59 with
        | true =>
          have hbl := rp_b_lt hb
          rw [show rp_lp g w (m + 1) i c rk rd = rp_lp g w m (i + a + 2) (c + 1) (upd rk c k) (upd rd c d) from by simp only [rp_lp, hk, hd, hb, cond_true]]
          rw [xf_s_some (by omega) hb]
          exact xf_lp hn m (i + a + 2) (c + 1) (upd rk c k) (upd rd c d) (M - a - 1 - 1) (by omega) (by omega) (by omega)
        | false =>
          rw [show rp_lp g w (m + 1) i c rk rd = (true, i + a + 1, c + 1, upd rk c k, upd rd c d) from by simp only [rp_lp, hk, hd, hb, cond_false]]
          simp only [if_true]
          exact xf_s_none (by omega) (by omega) hb
end xf_1
end mg_0

section mg_1
/-! the text: signs, its end -/
section sy_T
theorem ge_nat {a b : Nat} (ha : a < 2147483648) (hb : b < 2147483648) : px_cmp .ge (Int32.ofNat a) (Int32.ofNat b) = decide (b ≤ a) := by
  rw [cmp_ge, nm_ofNat_toInt a ha, nm_ofNat_toInt b hb]
  simp only [decide_eq_decide]
  omega
theorem le_nat {a b : Nat} (ha : a < 2147483648) (hb : b < 2147483648) : px_cmp .le (Int32.ofNat a) (Int32.ofNat b) = decide (a ≤ b) := by
  rw [cmp_le, nm_ofNat_toInt a ha, nm_ofNat_toInt b hb]
  simp only [decide_eq_decide]
  omega
theorem cmp_gt (x y : Int32) : px_cmp .gt x y = decide (y.toInt < x.toInt) := by simp only [px_cmp, gt_iff_lt, Int32.lt_iff_toInt_lt]
theorem cmp_eq (x y : Int32) : px_cmp .eq x y = decide (x = y) := rfl
theorem cmp_ne (x y : Int32) : px_cmp .ne x y = !decide (x = y) := by
  rw [show px_cmp .ne x y = decide (¬ x = y) from rfl, decide_not]
theorem oN_inj {a b : Nat} (ha : a < 2147483648) (hb : b < 2147483648) (h : Int32.ofNat a = Int32.ofNat b) : a = b := by
  have := congrArg Int32.toInt h
  rw [nm_ofNat_toInt a ha, nm_ofNat_toInt b hb] at this
  omega
theorem eq_nat {a b : Nat} (ha : a < 2147483648) (hb : b < 2147483648) : px_cmp .eq (Int32.ofNat a) (Int32.ofNat b) = decide (a = b) := by
  rw [cmp_eq]
  simp only [decide_eq_decide]
  exact ⟨oN_inj ha hb, fun h => by rw [h]⟩
theorem toInt_oI {x : Int} (h1 : -2147483648 ≤ x) (h2 : x < 2147483648) : (Int32.ofInt x).toInt = x := by
  rw [Int32.toInt_ofInt, show Int32.size = 4294967296 from rfl, Int.bmod_eq_of_le] <;> omega
theorem oI_nat (i : Nat) (hi : i < 2147483648) : Int32.ofInt (i : Int) = Int32.ofNat i := by
  rw [← Int32.toInt_inj, nm_ofNat_toInt i hi, toInt_oI (by omega) (by omega)]
def TX (hX hM : px_H) : Prop := ∃ n, n ≤ 40 ∧ gI hX 12 1 = Int32.ofNat n ∧ gI hM 69 22 = Int32.ofNat n ∧ ∀ i, i < 40 → aI hX 13 i = aI hM 85 i
def Wtx (c k : Nat) : Bool := Nat.beq c 12 && Nat.beq k 1
def Vtx (c : Nat) : Bool := Nat.beq c 13
def Wtm (c k : Nat) : Bool := Nat.beq c 69 && (Nat.beq k 0 || Nat.beq k 22)
def Vtm (c : Nat) : Bool := Nat.beq c 85
def tx_A (l : Nat) (f : Nat → Int32) (h0 h : px_H) : Prop := oS h ∧ gI h 12 1 = Int32.ofNat l ∧ aI h 13 = f ∧ fz Wtx Vtx h0 h
def tx_B (l : Nat) (f : Nat → Int32) (h0 h : px_H) : Prop := oS h ∧ gI h 69 22 = Int32.ofNat l ∧ aI h 85 = f ∧ fz Wtm Vtm h0 h
theorem tx_ad {l n : Nat} {v : Int32} {h0 h : px_H} {f : Nat → Int32} (A : tx_A l f h0 h) (hl : l < 40) (v2 : Int32) (h2 : px_cmp .lt v2 0 = false) : ∃ h', fn_Text_add_L14 v (n + 1) v2 h = fn_Text_add_L14 v n (v2 + Int32.ofInt (-8)) h' ∧ tx_A (l + 1) (upd f l (nm_us v v2 &&& (Int16.ofInt 255).toInt32)) h0 h' := by
  obtain ⟨o, g, e, fr⟩ := A
  obtain ⟨o1, e1, n1, f1⟩ := oI 13 11 40 l (nm_us v v2 &&& (Int16.ofInt 255).toInt32) o rfl
  have g1 : gI (uI h 13 l (nm_us v v2 &&& (Int16.ofInt 255).toInt32)) 12 1 = Int32.ofNat l := gI_uI.trans g
  refine ⟨wF (uI h 13 l (nm_us v v2 &&& (Int16.ofInt 255).toInt32)) 12 1 (.int (Int32.ofNat (l + 1))), ?_, oS_wI (cs := [12]) (ci := 5) rfl List.mem_cons_self o1, gI_wF (cs := [12]) (ci := 5) rfl List.mem_cons_self o1, by rw [aI_wF, e1, e], fz_tr fr (fz_tr (fz_uI rfl) (fz_wF rfl))⟩
  show fb_Text_add_L14 v (fn_Text_add_L14 v n) v2 h = _
  unfold fb_Text_add_L14
  rw [h2, cond_false, g, nm_inR l 40 hl (by omega), cond_true, nm_ofNat_clamp l (by omega)]
  simp only [sb]
  rw [g1, inc1]
theorem tx_sg {l k n : Nat} {v : Int32} {h0 h : px_H} {f : Nat → Int32} (A : tx_B l f h0 h) (hl : l ≤ 36) (hk : k < 4) : ∃ h', fn_M_sign_L18 v (n + 1) (Int32.ofNat k) h = fn_M_sign_L18 v n (Int32.ofNat (k + 1)) h' ∧ tx_B l (upd f (l + k) ((v >>> (((Int8.ofInt 24).toInt32 - ((Int8.ofInt 8).toInt32 * Int32.ofNat k)) &&& 31)) &&& (Int16.ofInt 255).toInt32)) h0 h' := by
  obtain ⟨o, g, e, fr⟩ := A
  obtain ⟨o1, e1, n1, f1⟩ := oI 85 nr_tape 40 (l + k) ((v >>> (((Int8.ofInt 24).toInt32 - ((Int8.ofInt 8).toInt32 * Int32.ofNat k)) &&& 31)) &&& (Int16.ofInt 255).toInt32) o rfl
  refine ⟨uI h 85 (l + k) ((v >>> (((Int8.ofInt 24).toInt32 - ((Int8.ofInt 8).toInt32 * Int32.ofNat k)) &&& 31)) &&& (Int16.ofInt 255).toInt32), ?_, o1, gI_uI.trans g, by rw [e1, e], fz_tr fr (fz_uI rfl)⟩
  show fb_M_sign_L18 v (fn_M_sign_L18 v n) (Int32.ofNat k) h = _
  unfold fb_M_sign_L18
  rw [show Int32.ofInt 4 = Int32.ofNat 4 from rfl, ge_nat (by omega) (by omega), decide_eq_false (show ¬ 4 ≤ k by omega), cond_false, g, ← Int32.ofNat_add, nm_inR (l + k) 40 (by omega) (by omega), cond_true, nm_ofNat_clamp (l + k) (by omega)]
  simp only [sb]
  rw [inc1]
theorem ib_255t : (List.range 32).all (fun i => decide (ib (Int16.ofInt 255).toInt32 i = decide (i < 8))) = true := by decide +kernel
theorem tx_v (v : Int32) {s : Nat} (hs : s ≤ 24) {a b : Int32} (ea : a = Int32.ofNat s) (eb : b = Int32.ofNat s) : nm_us v a &&& (Int16.ofInt 255).toInt32 = (v >>> (b &&& 31)) &&& (Int16.ofInt 255).toInt32 := by
  subst ea eb
  refine ib_ext (fun i hi => ?_)
  have e := of_decide_eq_true (List.all_eq_true.mp ib_255t i (List.mem_range.mpr hi))
  rw [ib_and, ib_and, e]
  by_cases h8 : i < 8
  · rw [ib_us _ (by omega), ib_shr _ (by omega), decide_eq_false (show ¬ 32 ≤ i by omega), if_pos (show s + i < 32 by omega), Bool.not_false, Bool.true_and]
  · rw [decide_eq_false h8, Bool.and_false, Bool.and_false]
variable {hX hM : px_H}
theorem sim_sign (oX : oS hX) (oM : oS hM) (hT : TX hX hM) (a : Int32) : ∃ (v : Int32) (hX' hM' : px_H), fn_X_sign a hX = some (v, hX') ∧ fn_M_sign a hM = some (v, hM') ∧ fz Wtx Vtx hX hX' ∧ fz Wtm Vtm hM hM' ∧ TX hX' hM' := by
  obtain ⟨n, n4, t1, t2, t3⟩ := hT
  obtain ⟨o1, f1⟩ := vl_thr oM
  have f1' : fz Wtm Vtm hM (wF hM 69 0 (.int (Int32.ofInt 0))) := fz_wF rfl
  have t2' : gI (wF hM 69 0 (.int (Int32.ofInt 0))) 69 22 = Int32.ofNat n := (fz_gI f1 rfl).trans t2
  have e85 : aI (wF hM 69 0 (.int (Int32.ofInt 0))) 85 = aI hM 85 := aI_wF
  unfold fn_X_sign fn_Text_add fn_M_sign
  simp only [sb]
  generalize wF hM 69 0 (.int (Int32.ofInt 0)) = m1 at o1 f1' t2' e85 ⊢
  rw [t1, t2', show (Int8.ofInt 36).toInt32 = Int32.ofNat 36 from by decide, le_nat (by omega) (by omega)]
  by_cases h : n ≤ 36
  · rw [decide_eq_true h, cond_true, cond_true]
    obtain ⟨k, hk⟩ : ∃ k, fu = k + 5 := ⟨fu - 5, by have := fu_lt (m := 5) (by omega); omega⟩
    rw [hk]
    obtain ⟨x1, q1, A1⟩ := tx_ad (n := k + 4) (v := a) (h0 := hX) (h := hX) ⟨oX, t1, rfl, fz_rf⟩ (by omega) (Int8.ofInt 24).toInt32 (by decide)
    obtain ⟨x2, q2, A2⟩ := tx_ad (n := k + 3) (v := a) A1 (by omega) ((Int8.ofInt 24).toInt32 + Int32.ofInt (-8)) (by decide)
    obtain ⟨x3, q3, A3⟩ := tx_ad (n := k + 2) (v := a) A2 (by omega) ((Int8.ofInt 24).toInt32 + Int32.ofInt (-8) + Int32.ofInt (-8)) (by decide)
    obtain ⟨x4, q4, A4⟩ := tx_ad (n := k + 1) (v := a) A3 (by omega) ((Int8.ofInt 24).toInt32 + Int32.ofInt (-8) + Int32.ofInt (-8) + Int32.ofInt (-8)) (by decide)
    obtain ⟨y1, p1, B1⟩ := tx_sg (n := k + 4) (k := 0) (v := a) (h0 := hM) (h := m1) ⟨o1, t2', rfl, f1'⟩ h (by omega)
    obtain ⟨y2, p2, B2⟩ := tx_sg (n := k + 3) (k := 1) (v := a) B1 h (by omega)
    obtain ⟨y3, p3, B3⟩ := tx_sg (n := k + 2) (k := 2) (v := a) B2 h (by omega)
    obtain ⟨y4, p4, B4⟩ := tx_sg (n := k + 1) (k := 3) (v := a) B3 h (by omega)
    have q5 : fn_Text_add_L14 a (k + 1) ((Int8.ofInt 24).toInt32 + Int32.ofInt (-8) + Int32.ofInt (-8) + Int32.ofInt (-8) + Int32.ofInt (-8)) x4 = some (Int32.ofInt 1, x4) := by
      show fb_Text_add_L14 a (fn_Text_add_L14 a k) _ x4 = _
      unfold fb_Text_add_L14
      rw [show px_cmp .lt ((Int8.ofInt 24).toInt32 + Int32.ofInt (-8) + Int32.ofInt (-8) + Int32.ofInt (-8) + Int32.ofInt (-8)) 0 = true from by decide, cond_true]
    have p5 : fn_M_sign_L18 a (k + 1) (Int32.ofNat 4) y4 = some (Int32.ofNat (n + 4), wF y4 69 22 (.int (Int32.ofNat (n + 4)))) := by
      show fb_M_sign_L18 a (fn_M_sign_L18 a k) _ y4 = _
      unfold fb_M_sign_L18
      rw [show px_cmp .ge (Int32.ofNat 4) (Int32.ofInt 4) = true from by decide, cond_true, B4.2.1, show Int32.ofInt 4 = Int32.ofNat 4 from rfl, ← Int32.ofNat_add]
      simp only [sb]
      rw [gI_wF (cs := [69]) (ci := 9) rfl List.mem_cons_self B4.1]
    rw [q1, q2, q3, q4, q5, Option.bind_some, show px_cmp .eq ((Int32.ofInt 1, x4) : Int32 × px_H).1 0 = false from rfl, cond_false]
    refine ⟨Int32.ofNat (n + 4), x4, wF y4 69 22 (.int (Int32.ofNat (n + 4))), by rw [A4.2.1], ?_, A4.2.2.2, fz_tr B4.2.2.2 (fz_wF rfl), n + 4, by omega, A4.2.1, gI_wF (cs := [69]) (ci := 9) rfl List.mem_cons_self B4.1, fun i hi => ?_⟩
    · exact p1.trans (p2.trans (p3.trans (p4.trans p5)))
    · rw [aI_wF, A4.2.2.1, B4.2.2.1, upd_eq, upd_eq, upd_eq, upd_eq, upd_eq, upd_eq, upd_eq, upd_eq, tx_v a (s := 24) (by omega) (a := (Int8.ofInt 24).toInt32) (b := (Int8.ofInt 24).toInt32 - ((Int8.ofInt 8).toInt32 * Int32.ofNat 0)) (by decide) (by decide), tx_v a (s := 16) (by omega) (a := (Int8.ofInt 24).toInt32 + Int32.ofInt (-8)) (b := (Int8.ofInt 24).toInt32 - ((Int8.ofInt 8).toInt32 * Int32.ofNat 1)) (by decide) (by decide), tx_v a (s := 8) (by omega) (a := (Int8.ofInt 24).toInt32 + Int32.ofInt (-8) + Int32.ofInt (-8)) (b := (Int8.ofInt 24).toInt32 - ((Int8.ofInt 8).toInt32 * Int32.ofNat 2)) (by decide) (by decide), tx_v a (s := 0) (by omega) (a := (Int8.ofInt 24).toInt32 + Int32.ofInt (-8) + Int32.ofInt (-8) + Int32.ofInt (-8)) (b := (Int8.ofInt 24).toInt32 - ((Int8.ofInt 8).toInt32 * Int32.ofNat 3)) (by decide) (by decide), e85, t3 i hi]
      rfl
  · rw [decide_eq_false h, cond_false, cond_false, Option.bind_some, show px_cmp .eq ((Int32.ofInt 0, hX) : Int32 × px_H).1 0 = true from rfl, cond_true]
    exact ⟨_, hX, m1, rfl, rfl, fz_rf, f1', n, n4, t1, t2', fun i hi => by rw [e85]; exact t3 i hi⟩
/-- the class cuts its text -/
theorem tx_cut (oX : oS hX) {n : Nat} (n4 : n ≤ 40) (t1 : gI hX 12 1 = Int32.ofNat n) (a : Int32) : fn_Text_cut a hX = some (bif decide (0 ≤ a.toInt ∧ a.toInt ≤ n) then (Int32.ofInt 1, wF hX 12 1 (.int a)) else (Int32.ofInt 0, hX)) := by
  unfold fn_Text_cut
  rw [lt0, t1, cmp_le, nm_ofNat_toInt n (by omega)]
  by_cases h0 : a.toInt < 0
  · rw [decide_eq_true h0, decide_eq_false (show ¬ (0 ≤ a.toInt ∧ a.toInt ≤ (n : Int)) by omega)]
    rfl
  · rw [decide_eq_false h0, cond_false]
    by_cases h1 : a.toInt ≤ (n : Int)
    · rw [decide_eq_true h1, decide_eq_true (show 0 ≤ a.toInt ∧ a.toInt ≤ (n : Int) by omega)]
      rfl
    · rw [decide_eq_false h1, decide_eq_false (show ¬ (0 ≤ a.toInt ∧ a.toInt ≤ (n : Int)) by omega)]
      rfl
theorem sim_end (oX : oS hX) (oM : oS hM) (hT : TX hX hM) (a : Int32) : ∃ (v : Int32) (hX' hM' : px_H), fn_X_end a hX = some (v, hX') ∧ fn_M_end a hM = some (v, hM') ∧ fz Wtx Vtx hX hX' ∧ fz Wtm Vtm hM hM' ∧ TX hX' hM' := by
  obtain ⟨n, n4, t1, t2, t3⟩ := hT
  obtain ⟨o1, f1⟩ := vl_thr oM
  have f1' : fz Wtm Vtm hM (wF hM 69 0 (.int (Int32.ofInt 0))) := fz_wF rfl
  have t2' : gI (wF hM 69 0 (.int (Int32.ofInt 0))) 69 22 = Int32.ofNat n := (fz_gI f1 rfl).trans t2
  have e85 : aI (wF hM 69 0 (.int (Int32.ofInt 0))) 85 = aI hM 85 := aI_wF
  unfold fn_X_end fn_M_end
  simp only [sb]
  generalize wF hM 69 0 (.int (Int32.ofInt 0)) = m1 at o1 f1' t2' e85 ⊢
  rw [tx_cut oX n4 t1, Option.bind_some, b01_in, cmp_b01n, Int32.toInt_toInt64, t2', Int32.toInt_toInt64, nm_ofNat_toInt n (by omega), i64c.1]
  by_cases h : 0 ≤ a.toInt ∧ a.toInt ≤ (n : Int)
  · rw [decide_eq_true h, cond_true, cond_true]
    obtain ⟨p, p4, rfl⟩ := nat_of (n := 41) h.1 (by omega)
    rw [nm_ofNat_toInt p (by omega)] at h
    exact ⟨_, wF hX 12 1 (.int (Int32.ofNat p)), wF m1 69 22 (.int (Int32.ofNat p)), rfl, rfl, fz_wF rfl, fz_tr f1' (fz_wF rfl), p, by omega, gI_wF (cs := [12]) (ci := 5) rfl List.mem_cons_self oX, gI_wF (cs := [69]) (ci := 9) rfl List.mem_cons_self o1, fun i hi => by rw [aI_wF, aI_wF, e85]; exact t3 i hi⟩
  · rw [decide_eq_false h, cond_false, cond_false]
    exact ⟨_, hX, m1, rfl, rfl, fz_rf, f1', n, n4, t1, t2', fun i hi => by rw [e85]; exact t3 i hi⟩
end sy_T
/-! the first fault -/
section sy_U
theorem tx_behind {q : Nat} (hq : q ≤ 3) (s : Int32) (h : px_H) : fn_Text_behind (Int32.ofNat q) s h = some (rp_bi (rp_bh q s)) := by
  unfold fn_Text_behind
  match q, hq with
  | 0, _ =>
    rw [show px_cmp .eq (Int32.ofNat 0) (Int32.ofInt 0) = true from by decide, cond_true, rp_bh0, cmp_ne, cmp_eq, cmp_eq, cmp_ne, show (Int8.ofInt 115).toInt32 = 115 from by decide, show (Int8.ofInt 107).toInt32 = 107 from by decide, show (Int8.ofInt 100).toInt32 = 100 from by decide, show (Int8.ofInt 119).toInt32 = 119 from by decide]
    by_cases h1 : s = 115
    · rw [if_pos h1, decide_eq_true h1]; rfl
    · rw [if_neg h1, decide_eq_false h1]
      by_cases h2 : s = 107
      · rw [if_pos (Or.inl h2), decide_eq_true h2]; rfl
      · rw [decide_eq_false h2]
        by_cases h3 : s = 100
        · rw [if_pos (Or.inr (Or.inl h3)), decide_eq_true h3]; rfl
        · rw [decide_eq_false h3]
          by_cases h4 : s = 119
          · rw [if_pos (Or.inr (Or.inr h4)), decide_eq_true h4]; rfl
          · rw [if_neg (by rintro (e | e | e); exact h2 e; exact h3 e; exact h4 e), decide_eq_false h4]; rfl
  | 1, _ =>
    rw [show px_cmp .eq (Int32.ofNat 1) (Int32.ofInt 0) = false from by decide, cond_false, show px_cmp .eq (Int32.ofNat 1) (Int32.ofInt 1) = true from by decide, cond_true, rp_bh1, cmp_lt, cmp_gt, show (Int8.ofInt 49).toInt32.toInt = 49 from by decide, show (Int8.ofInt 54).toInt32.toInt = 54 from by decide]
    by_cases h1 : s.toInt < 49
    · rw [if_neg (by omega), decide_eq_true h1]; rfl
    · rw [decide_eq_false h1]
      by_cases h2 : 54 < s.toInt
      · rw [if_neg (by omega), decide_eq_true h2]; rfl
      · rw [if_pos (by omega), decide_eq_false h2]; rfl
  | 2, _ =>
    rw [show px_cmp .eq (Int32.ofNat 2) (Int32.ofInt 0) = false from by decide, cond_false, show px_cmp .eq (Int32.ofNat 2) (Int32.ofInt 1) = false from by decide, cond_false, show px_cmp .eq (Int32.ofNat 2) (Int32.ofInt 2) = true from by decide, cond_true, rp_bh2, cmp_eq, cmp_eq, cmp_ne, show (Int8.ofInt 98).toInt32 = 98 from by decide, show (Int8.ofInt 116).toInt32 = 116 from by decide, show (Int8.ofInt 108).toInt32 = 108 from by decide]
    by_cases h2 : s = 98
    · rw [if_pos (Or.inl h2), decide_eq_true h2]; rfl
    · rw [decide_eq_false h2]
      by_cases h3 : s = 116
      · rw [if_pos (Or.inr (Or.inl h3)), decide_eq_true h3]; rfl
      · rw [decide_eq_false h3]
        by_cases h4 : s = 108
        · rw [if_pos (Or.inr (Or.inr h4)), decide_eq_true h4]; rfl
        · rw [if_neg (by rintro (e | e | e); exact h2 e; exact h3 e; exact h4 e), decide_eq_false h4]; rfl
  | 3, _ =>
    rw [show px_cmp .eq (Int32.ofNat 3) (Int32.ofInt 0) = false from by decide, cond_false, show px_cmp .eq (Int32.ofNat 3) (Int32.ofInt 1) = false from by decide, cond_false, show px_cmp .eq (Int32.ofNat 3) (Int32.ofInt 2) = false from by decide, cond_false, rp_bh3, cmp_ne, show (Int8.ofInt 59).toInt32 = 59 from by decide]
    by_cases h2 : s = 59
    · rw [if_pos h2, decide_eq_true h2]; rfl
    · rw [if_neg h2, decide_eq_false h2]; rfl
  | q + 4, h => omega
theorem tx_ff {h : px_H} {n : Nat} (hn : gI h 12 1 = Int32.ofNat n) (n4 : n ≤ 40) : ∀ (m q i N : Nat), q ≤ 3 → i ≤ min n 20 → min n 20 < i + m → m < N → fn_Text_firstFault_L4 h N (Int32.ofNat q) (Int32.ofNat i) = some (Int32.ofInt (xf (aI h 13) (min n 20) n m q i)) := by
  intro m
  induction m with
  | zero => intro q i N h1 h2 h3; omega
  | succ m ih =>
    intro q i N hq hi hm hN
    obtain ⟨N, rfl⟩ : ∃ k, N = k + 1 := ⟨N - 1, by omega⟩
    have E : (bif decide (n ≤ 20) then (bif decide (n = 0) then some (Int32.ofInt (-1)) else (bif !decide (q = 3) then some (Int32.ofNat n) else some (Int32.ofInt (-1)))) else some (Int32.ofNat 20)) = some (Int32.ofInt (xf_end n q)) := by
      unfold xf_end
      by_cases h1 : n ≤ 20
      · rw [decide_eq_true h1, cond_true, if_neg (by omega)]
        by_cases h2 : n = 0
        · rw [decide_eq_true h2, if_pos (Or.inl h2)]; rfl
        · rw [decide_eq_false h2, cond_false]
          by_cases h3 : q = 3
          · rw [decide_eq_true h3, if_pos (Or.inr h3)]; rfl
          · rw [decide_eq_false h3, if_neg (by omega), oI_nat n (by omega)]; rfl
      · rw [decide_eq_false h1, if_pos (by omega)]; rfl
    have eq0 : px_cmp .eq (Int32.ofNat n) 0 = decide (n = 0) := eq_nat (b := 0) (by omega) (by omega)
    have eq3 : px_cmp .ne (Int32.ofNat q) (Int32.ofInt 3) = !decide (q = 3) := by
      rw [show px_cmp .ne (Int32.ofNat q) (Int32.ofInt 3) = px_cmp .ne (Int32.ofNat q) (Int32.ofNat 3) from rfl, cmp_ne]
      congr 1
      exact eq_nat (a := q) (b := 3) (by omega) (by omega)
    show fb_Text_firstFault_L4 h (fn_Text_firstFault_L4 h N) (Int32.ofNat q) (Int32.ofNat i) = _
    unfold fb_Text_firstFault_L4
    rw [hn, show (Int8.ofInt 20).toInt32 = Int32.ofNat 20 from by decide, ge_nat (a := i) (b := n) (by omega) (by omega), ge_nat (a := i) (b := 20) (by omega) (by omega), le_nat (a := n) (b := 20) (by omega) (by omega), eq0, eq3]
    by_cases hw : i < min n 20
    · rw [decide_eq_false (show ¬ n ≤ i by omega), decide_eq_false (show ¬ 20 ≤ i by omega), cond_false, cond_false, nm_inR i 40 (by omega) (by omega), cond_true, nm_ofNat_clamp i (by omega), tx_behind hq, Option.bind_some]
      cases hb : rp_bh q (aI h 13 i) with
      | none =>
        rw [xf_no hw hb, oI_nat i (by omega), show px_cmp .ge (rp_bi none) 0 = false from by decide, cond_false]
      | some q' =>
        have q3 := rp_bh_le hb
        rw [xf_go hw hb, show px_cmp .ge (rp_bi (some q')) 0 = true from (ge_nat (a := q') (b := 0) (by omega) (by omega)).trans (decide_eq_true (by omega)), cond_true, inc1]
        exact ih q' (i + 1) N q3 (by omega) (by omega) (by omega)
    · rw [xf_at hw]
      by_cases hin : n ≤ i
      · rw [decide_eq_true hin, cond_true]; exact E
      · rw [decide_eq_false hin, cond_false, decide_eq_true (show 20 ≤ i by omega), cond_true]; exact E
theorem xf_bd {g : Nat → Int32} {w n : Nat} (hw : w ≤ n) : ∀ (m q i : Nat), -1 ≤ xf g w n m q i ∧ xf g w n m q i ≤ max (n : Int) 20 := by
  have E : ∀ q, -1 ≤ xf_end n q ∧ xf_end n q ≤ max (n : Int) 20 := by
    intro q
    unfold xf_end
    split
    · omega
    · split <;> omega
  intro m
  induction m with
  | zero => intro q i; exact E q
  | succ m ih =>
    intro q i
    unfold xf
    split
    · split
      · exact ih _ _
      · omega
    · exact E q
theorem tx_first {h : px_H} {n : Nat} (hn : gI h 12 1 = Int32.ofNat n) (n4 : n ≤ 40) : fn_Text_firstFault h = some (Int32.ofInt (xf (aI h 13) (min n 20) n 21 0 0)) := tx_ff hn n4 21 0 0 fu (by omega) (by omega) (by omega) (fu_lt (by omega))
end sy_U
end mg_1

section mg_2
/-! the model reads a rule -/
section sy_V
def Wrd (c k : Nat) : Bool := Nat.beq c 69 && (Nat.beq k 22 || (Nat.beq k 23 || (Nat.beq k 24 || Nat.beq k 27)))
def Vrd (c : Nat) : Bool := Nat.beq c 86 || Nat.beq c 87
def MS (i w c : Nat) (g rk rd : Nat → Int32) (h0 h : px_H) : Prop := oS h ∧ gI h 69 23 = Int32.ofNat i ∧ gI h 69 24 = Int32.ofNat w ∧ gI h 69 27 = Int32.ofNat c ∧ aI h 85 = g ∧ aI h 86 = rk ∧ aI h 87 = rd ∧ fz Wrd Vrd h0 h ∧ gI h 69 22 = Int32.ofNat 0
variable {i w c : Nat} {g rk rd : Nat → Int32} {h0 h : px_H}
theorem tx_fl0 (h : px_H) : fn_M_flag (Int32.ofInt 0) h = some (Int32.ofInt 0) := by
  unfold fn_M_flag
  rw [show px_cmp .eq (Int32.ofInt 0) 0 = true from by decide, cond_true]
theorem tx_fl1 (h : px_H) : fn_M_flag (Int32.ofInt 1) h = some (Int32.ofInt 1) := by
  unfold fn_M_flag
  rw [show px_cmp .eq (Int32.ofInt 1) 0 = false from by decide, cond_false]
theorem add0 (i : Nat) : Int32.ofNat i + Int32.ofInt 0 = Int32.ofNat i := Int32.add_zero _
theorem MS_23 (A : MS i w c g rk rd h0 h) (j : Nat) : MS j w c g rk rd h0 (wF h 69 23 (.int (Int32.ofNat j))) := by
  obtain ⟨o, a23, a24, a27, e85, e86, e87, fr, a22⟩ := A
  exact ⟨oS_wI (cs := [69]) (ci := 9) rfl List.mem_cons_self o, gI_wF (cs := [69]) (ci := 9) rfl List.mem_cons_self o, (gI_wF_ne (by decide)).trans a24, (gI_wF_ne (by decide)).trans a27, aI_wF.trans e85, aI_wF.trans e86, aI_wF.trans e87, fz_tr fr (fz_wF rfl), (gI_wF_ne (by decide)).trans a22⟩
theorem tx_comes (A : MS i w c g rk rd h0 h) (hi : i ≤ w) (hw : w ≤ 20) (s : Int32) : ∃ h', fn_M_comes s h = some (b01 (rp_b g w i s), h') ∧ MS (i + rp_n (rp_b g w i s)) w c g rk rd h0 h' := by
  have put := MS_23 A
  obtain ⟨o, a23, a24, a27, e85, e86, e87, fr, a22⟩ := A
  unfold fn_M_comes
  simp only [sb]
  rw [a23, a24, ge_nat (by omega) (by omega)]
  by_cases h1 : w ≤ i
  · rw [decide_eq_true h1, cond_true, tx_fl0, Option.bind_some, rp_bf (fun e => by omega), add0]
    exact ⟨_, rfl, put i⟩
  · rw [decide_eq_false h1, cond_false, nm_inR i 40 (by omega) (by omega), cond_true, nm_ofNat_clamp i (by omega), e85, cmp_ne]
    by_cases h2 : g i = s
    · rw [decide_eq_true h2, Bool.not_true, cond_false, tx_fl1, Option.bind_some, rp_bt (by omega) h2, inc1]
      exact ⟨_, rfl, put (i + 1)⟩
    · rw [decide_eq_false h2, Bool.not_false, cond_true, tx_fl0, Option.bind_some, rp_bf (fun e => h2 e.2), add0]
      exact ⟨_, rfl, put i⟩
/-- the end of a line -/
noncomputable def rlE (x d : Int32) (b : Int32) (h : px_H) : Option (Int32 × px_H) :=
  bif px_inR (gI h 69 27) 8 then
  sb (uI h 86 (gI h 69 27).toNatClampNeg x) fun h43 =>
  bif px_inR (gI h43 69 27) 8 then
  sb (uI h43 87 (gI h43 69 27).toNatClampNeg d) fun h46 =>
  (fn_M_flag b h46).bind fun q48 =>
  sb (wF h46 69 27 (.int ((gI h46 69 27) + q48))) fun h51 =>
  some (b, h51)
  else none
  else none
noncomputable def rlT (x : Int32) (h : px_H) : Option (Int32 × px_H) :=
  (fn_M_comes (Int8.ofInt 98).toInt32 h).bind fun q27 =>
  bif px_cmp .eq q27.1 0 then
    (fn_M_comes (Int8.ofInt 116).toInt32 q27.2).bind fun q32 =>
    bif px_cmp .eq q32.1 0 then
      (fn_M_comes (Int8.ofInt 108).toInt32 q32.2).bind fun q37 =>
      bif px_cmp .eq q37.1 0 then rlE x (Int32.ofInt (-1)) (Int32.ofInt 0) q37.2 else rlE x (Int32.ofInt 2) (Int32.ofInt 1) q37.2
    else rlE x (Int32.ofInt 1) (Int32.ofInt 1) q32.2
  else rlE x (Int32.ofInt 0) (Int32.ofInt 1) q27.2
theorem tx_rlE (A : MS i w c g rk rd h0 h) (hc : c < 8) (x d : Int32) (b : Bool) : ∃ h', rlE x d (b01 b) h = some (b01 b, h') ∧ MS i w (c + rp_n b) g (upd rk c x) (upd rd c d) h0 h' := by
  obtain ⟨o, a23, a24, a27, e85, e86, e87, fr, a22⟩ := A
  obtain ⟨o1, e1, n1, f1⟩ := oI 86 nr_readKind 8 c x o rfl
  have g1 : ∀ k, gI (uI h 86 c x) 69 k = gI h 69 k := fun _ => gI_uI
  unfold rlE
  rw [a27, nm_inR c 8 hc (by omega), cond_true, nm_ofNat_clamp c (by omega)]
  simp only [sb]
  generalize uI h 86 c x = h1 at o1 e1 n1 f1 g1 ⊢
  obtain ⟨o2, e2, n2, f2⟩ := oI 87 nr_readDoes 8 c d o1 rfl
  have g2 : ∀ k, gI (uI h1 87 c d) 69 k = gI h 69 k := fun k => gI_uI.trans (g1 k)
  rw [g1, a27, nm_inR c 8 hc (by omega), cond_true, nm_ofNat_clamp c (by omega)]
  generalize uI h1 87 c d = h2 at o2 e2 n2 f2 g2 ⊢
  have ef : fn_M_flag (b01 b) h2 = some (b01 b) := by cases b; exact tx_fl0 h2; exact tx_fl1 h2
  have ea : Int32.ofNat c + b01 b = Int32.ofNat (c + rp_n b) := by cases b; exact add0 c; exact inc1 c
  rw [ef, Option.bind_some, g2, a27, ea]
  refine ⟨_, rfl, oS_wI (cs := [69]) (ci := 9) rfl List.mem_cons_self o2, (gI_wF_ne (by decide)).trans ((g2 23).trans a23), (gI_wF_ne (by decide)).trans ((g2 24).trans a24), gI_wF (cs := [69]) (ci := 9) rfl List.mem_cons_self o2, ?_, ?_, ?_, ?_, (gI_wF_ne (by decide)).trans ((g2 22).trans a22)⟩
  · rw [aI_wF, n2 85 (by decide), n1 85 (by decide), e85]
  · rw [aI_wF, n2 86 (by decide), e1, e86]
  · rw [aI_wF, e2, n1 87 (by decide), e87]
  · exact fz_tr fr (fz_tr (fz_mono f1 (fun _ _ _ => rfl) (fun _ h => by unfold Vrd at h; simp only [Bool.or_eq_false_iff] at h; exact h.1)) (fz_tr (fz_mono f2 (fun _ _ _ => rfl) (fun _ h => by unfold Vrd at h; simp only [Bool.or_eq_false_iff] at h; exact h.2)) (fz_wF rfl)))
theorem tx_rlT (A : MS i w c g rk rd h0 h) (hi : i ≤ w) (hw : w ≤ 20) (hc : c < 8) (x : Int32) : ∃ (b : Bool) (h' : px_H), rlT x h = some (b01 b, h') ∧ (rp_d g w i = none → b = false ∧ ∃ rk' rd', MS i w c g rk' rd' h0 h') ∧ ∀ d, rp_d g w i = some d → b = true ∧ MS (i + 1) w (c + 1) g (upd rk c x) (upd rd c d) h0 h' := by
  unfold rlT rp_d
  obtain ⟨h1, e1, A1⟩ := tx_comes A hi hw (Int8.ofInt 98).toInt32
  rw [show (Int8.ofInt 98).toInt32 = 98 from by decide] at e1 A1 ⊢
  rw [e1, Option.bind_some, show px_cmp .eq ((b01 (rp_b g w i 98), h1) : Int32 × px_H).1 0 = !rp_b g w i 98 from cmp_b01 _]
  cases hb1 : rp_b g w i 98 with
  | true =>
    rw [hb1] at A1
    rw [Bool.not_true, cond_false, cond_true]
    obtain ⟨h', t1, t2⟩ := tx_rlE A1 hc x (Int32.ofInt 0) true
    exact ⟨true, h', t1, fun e => (by cases e), fun d e => (by cases e; exact ⟨rfl, t2⟩)⟩
  | false =>
    rw [hb1] at A1
    have A1 : MS i w c g rk rd h0 h1 := A1
    rw [Bool.not_false, cond_true, cond_false]
    obtain ⟨h2, e2, A2⟩ := tx_comes A1 hi hw (Int8.ofInt 116).toInt32
    rw [show (Int8.ofInt 116).toInt32 = 116 from by decide] at e2 A2 ⊢
    rw [show ((b01 false, h1) : Int32 × px_H).2 = h1 from rfl, e2, Option.bind_some, show px_cmp .eq ((b01 (rp_b g w i 116), h2) : Int32 × px_H).1 0 = !rp_b g w i 116 from cmp_b01 _]
    cases hb2 : rp_b g w i 116 with
    | true =>
      rw [hb2] at A2
      rw [Bool.not_true, cond_false, cond_true]
      obtain ⟨h', t1, t2⟩ := tx_rlE A2 hc x (Int32.ofInt 1) true
      exact ⟨true, h', t1, fun e => (by cases e), fun d e => (by cases e; exact ⟨rfl, t2⟩)⟩
    | false =>
      rw [hb2] at A2
      have A2 : MS i w c g rk rd h0 h2 := A2
      rw [Bool.not_false, cond_true, cond_false]
      obtain ⟨h3, e3, A3⟩ := tx_comes A2 hi hw (Int8.ofInt 108).toInt32
      rw [show (Int8.ofInt 108).toInt32 = 108 from by decide] at e3 A3 ⊢
      rw [show ((b01 false, h2) : Int32 × px_H).2 = h2 from rfl, e3, Option.bind_some, show px_cmp .eq ((b01 (rp_b g w i 108), h3) : Int32 × px_H).1 0 = !rp_b g w i 108 from cmp_b01 _]
      cases hb3 : rp_b g w i 108 with
      | true =>
        rw [hb3] at A3
        rw [Bool.not_true, cond_false, cond_true]
        obtain ⟨h', t1, t2⟩ := tx_rlE A3 hc x (Int32.ofInt 2) true
        exact ⟨true, h', t1, fun e => (by cases e), fun d e => (by cases e; exact ⟨rfl, t2⟩)⟩
      | false =>
        rw [hb3] at A3
        have A3 : MS i w c g rk rd h0 h3 := A3
        rw [Bool.not_false, cond_true, cond_false]
        obtain ⟨h', t1, t2⟩ := tx_rlE A3 hc x (Int32.ofInt (-1)) false
        exact ⟨false, h', t1, fun _ => ⟨rfl, _, _, t2⟩, fun d e => (by cases e)⟩
/-- what a line tells -/
def LQ (i w c : Nat) (g rk rd : Nat → Int32) (h0 : px_H) (b : Bool) (h' : px_H) : Prop :=
  (rp_k g w i = none → b = false ∧ MS (rp_kf g w i) w c g rk rd h0 h') ∧
  (∀ k n, rp_k g w i = some (k, n) → rp_d g w (i + n) = none → b = false ∧ ∃ rk' rd', MS (i + n) w c g rk' rd' h0 h') ∧
  (∀ k n d, rp_k g w i = some (k, n) → rp_d g w (i + n) = some d → b = true ∧ MS (i + n + 1) w (c + 1) g (upd rk c k) (upd rd c d) h0 h')
theorem tx_line1 {h1 : px_H} {k : Int32} {n : Nat} (hk : rp_k g w i = some (k, n)) (A : MS (i + n) w c g rk rd h0 h1) (hi : i + n ≤ w) (hw : w ≤ 20) (hc : c < 8) {x : Int32} (ex : x = k) : ∃ (b : Bool) (h' : px_H), rlT x h1 = some (b01 b, h') ∧ LQ i w c g rk rd h0 b h' := by
  subst ex
  obtain ⟨b, h', t1, t2, t3⟩ := tx_rlT A hi hw hc x
  refine ⟨b, h', t1, fun e => (by rw [hk] at e; cases e), fun k2 n2 e => ?_, fun k2 n2 d e => ?_⟩
  · rw [hk] at e; cases e; exact t2
  · rw [hk] at e; cases e; exact t3 d
theorem tx_line0 {h1 : px_H} (hk : rp_k g w i = none) (A : MS (rp_kf g w i) w c g rk rd h0 h1) : LQ i w c g rk rd h0 false h1 := ⟨fun _ => ⟨rfl, A⟩, fun _ _ e => (by rw [hk] at e; cases e), fun _ _ _ e => (by rw [hk] at e; cases e)⟩
theorem tx_line (A : MS i w c g rk rd h0 h) (hi : i ≤ w) (hw : w ≤ 20) (hc : c < 8) : ∃ (b : Bool) (h' : px_H), fn_M_readsLine h = some (b01 b, h') ∧ LQ i w c g rk rd h0 b h' := by
  unfold fn_M_readsLine
  obtain ⟨h1, e1, A1⟩ := tx_comes A hi hw (Int8.ofInt 107).toInt32
  rw [show (Int8.ofInt 107).toInt32 = 107 from by decide] at e1 A1 ⊢
  rw [e1, Option.bind_some, show px_cmp .eq ((b01 (rp_b g w i 107), h1) : Int32 × px_H).1 0 = !rp_b g w i 107 from cmp_b01 _]
  cases hb1 : rp_b g w i 107 with
  | true =>
    rw [hb1] at A1
    have hl := rp_b_lt hb1
    rw [Bool.not_true, cond_false]
    exact tx_line1 (k := 0) (n := 1) (by unfold rp_k; rw [hb1]; rfl) A1 (by omega) hw hc (x := Int32.ofInt 0) (by decide)
  | false =>
    rw [hb1] at A1
    have A1 : MS i w c g rk rd h0 h1 := A1
    rw [Bool.not_false, cond_true]
    obtain ⟨h2, e2, A2⟩ := tx_comes A1 hi hw (Int8.ofInt 100).toInt32
    rw [show (Int8.ofInt 100).toInt32 = 100 from by decide] at e2 A2 ⊢
    rw [show ((b01 false, h1) : Int32 × px_H).2 = h1 from rfl, e2, Option.bind_some, show px_cmp .eq ((b01 (rp_b g w i 100), h2) : Int32 × px_H).1 0 = !rp_b g w i 100 from cmp_b01 _]
    cases hb2 : rp_b g w i 100 with
    | true =>
      rw [hb2] at A2
      have hl := rp_b_lt hb2
      rw [Bool.not_true, cond_false]
      exact tx_line1 (k := 7) (n := 1) (by unfold rp_k; rw [hb1, hb2]; rfl) A2 (by omega) hw hc (x := (Int8.ofInt 7).toInt32) (by decide)
    | false =>
      rw [hb2] at A2
      have A2 : MS i w c g rk rd h0 h2 := A2
      rw [Bool.not_false, cond_true]
      obtain ⟨h3, e3, A3⟩ := tx_comes A2 hi hw (Int8.ofInt 119).toInt32
      rw [show (Int8.ofInt 119).toInt32 = 119 from by decide] at e3 A3 ⊢
      rw [show ((b01 false, h2) : Int32 × px_H).2 = h2 from rfl, e3, Option.bind_some, show px_cmp .eq ((b01 (rp_b g w i 119), h3) : Int32 × px_H).1 0 = !rp_b g w i 119 from cmp_b01 _]
      cases hb3 : rp_b g w i 119 with
      | true =>
        rw [hb3] at A3
        have hl := rp_b_lt hb3
        rw [Bool.not_true, cond_false]
        exact tx_line1 (k := 8) (n := 1) (by unfold rp_k; rw [hb1, hb2, hb3]; rfl) A3 (by omega) hw hc (x := (Int8.ofInt 8).toInt32) (by decide)
      | false =>
        rw [hb3] at A3
        have A3 : MS i w c g rk rd h0 h3 := A3
        rw [Bool.not_false, cond_true]
        obtain ⟨h4, e4, A4⟩ := tx_comes A3 hi hw (Int8.ofInt 115).toInt32
        rw [show (Int8.ofInt 115).toInt32 = 115 from by decide] at e4 A4 ⊢
        rw [show ((b01 false, h3) : Int32 × px_H).2 = h3 from rfl, e4, Option.bind_some, show px_cmp .eq ((b01 (rp_b g w i 115), h4) : Int32 × px_H).1 0 = !rp_b g w i 115 from cmp_b01 _]
        cases hb4 : rp_b g w i 115 with
        | false =>
          rw [hb4] at A4
          rw [Bool.not_false, cond_true]
          exact ⟨false, h4, rfl, tx_line0 (by unfold rp_k; rw [hb1, hb2, hb3, hb4]; rfl) (by unfold rp_kf; rw [hb4]; exact A4)⟩
        | true =>
          rw [hb4] at A4
          have A4 : MS (i + 1) w c g rk rd h0 h4 := A4
          have hl := rp_b_lt hb4
          have kf : rp_kf g w i = i + 1 := by unfold rp_kf; rw [hb4]; rfl
          rw [Bool.not_true, cond_false, show ((b01 true, h4) : Int32 × px_H).2 = h4 from rfl, A4.2.1, A4.2.2.1, ge_nat (by omega) (by omega)]
          by_cases h5 : w ≤ i + 1
          · rw [decide_eq_true h5, cond_true]
            refine ⟨false, h4, rfl, tx_line0 ?_ (by rw [kf]; exact A4)⟩
            unfold rp_k
            rw [hb1, hb2, hb3, hb4, decide_eq_false (show ¬ i + 1 < w by omega)]
            rfl
          · rw [decide_eq_false h5, cond_false, nm_inR (i + 1) 40 (by omega) (by omega), cond_true, nm_ofNat_clamp (i + 1) (by omega), A4.2.2.2.2.1, b01_in, cmp_b01n, Int32.toInt_toInt64, show (Int64.ofInt 49).toInt = 49 from by decide, show (Int64.ofInt 54).toInt = 54 from by decide]
            by_cases h6 : 49 ≤ (g (i + 1)).toInt ∧ (g (i + 1)).toInt ≤ 54
            · rw [decide_eq_true h6, cond_true, cond_true, inc1]
              have hk : rp_k g w i = some (g (i + 1) - 48, 2) := by
                unfold rp_k
                rw [hb1, hb2, hb3, hb4, decide_eq_true (show i + 1 < w by omega), decide_eq_true h6.1, decide_eq_true h6.2]
                rfl
              exact tx_line1 hk (MS_23 A4 (i + 2)) (by omega) hw hc (x := g (i + 1) - (Int8.ofInt 48).toInt32) (by rw [show (Int8.ofInt 48).toInt32 = 48 from by decide])
            · rw [decide_eq_false h6, cond_false]
              refine ⟨false, h4, rfl, tx_line0 ?_ (by rw [kf]; exact A4)⟩
              unfold rp_k
              rw [hb1, hb2, hb3, hb4]
              by_cases h7 : 49 ≤ (g (i + 1)).toInt
              · rw [decide_eq_false (show ¬ (g (i + 1)).toInt ≤ 54 by omega), Bool.and_false, Bool.and_false, Bool.and_false]; rfl
              · rw [decide_eq_false h7, Bool.false_and, Bool.and_false, Bool.and_false]; rfl
end sy_V
section sy_W
/-- the end of a rule -/
noncomputable def tx_E (v1 v2 v3 : Int32) (hp : px_H) : Option (Int32 × px_H) :=
    bif px_cmp .eq v3 0 then
      bif px_cmp .le v2 (Int8.ofInt 20).toInt32 then
        some (((Int32.ofInt (-1)) - (gI hp 69 23)), hp)
      else
        bif px_cmp .lt (gI hp 69 23) (Int8.ofInt 20).toInt32 then
          some (((Int32.ofInt (-1)) - (gI hp 69 23)), hp)
        else
          some ((Int8.ofInt (-21)).toInt32, hp)
    else
      bif px_cmp .ne (gI hp 69 23) (gI hp 69 24) then
        bif px_cmp .le v2 (Int8.ofInt 20).toInt32 then
          some (((Int32.ofInt (-1)) - (gI hp 69 23)), hp)
        else
          bif px_cmp .lt (gI hp 69 23) (Int8.ofInt 20).toInt32 then
            some (((Int32.ofInt (-1)) - (gI hp 69 23)), hp)
          else
            some ((Int8.ofInt (-21)).toInt32, hp)
      else
        bif px_cmp .le v2 (Int8.ofInt 20).toInt32 then
          bif px_inR v1 4 then
          sb (uI hp 81 v1.toNatClampNeg (gI hp 69 27)) fun h25 =>
          bif px_inR v1 4 then
          sb (uI h25 82 v1.toNatClampNeg (Int32.ofInt 1)) fun h28 =>
          fn_M_readsRule_L153 v1 fu (Int32.ofInt 0) h28
          else none
          else none
        else
          some ((Int8.ofInt (-21)).toInt32, hp)
theorem tx_E0 (v1 v2 v3 : Int32) (N : Nat) (h : px_H) : fn_M_readsRule_L43 v1 v2 (N + 1) v3 (Int32.ofInt 0) h = tx_E v1 v2 v3 h := by
  show fb_M_readsRule_L43 v1 v2 (fn_M_readsRule_L43 v1 v2 N) v3 (Int32.ofInt 0) h = _
  unfold fb_M_readsRule_L43 tx_E
  rw [show px_cmp .eq (Int32.ofInt 0) 0 = true from by decide, cond_true]
theorem tx_loop {w : Nat} {g : Nat → Int32} {h0 : px_H} (hw : w ≤ 20) (v1 v2 : Int32) : ∀ (m i c : Nat) (rk rd : Nat → Int32) (N : Nat) (v3 : Int32) (h : px_H), MS i w c g rk rd h0 h → i ≤ w → 3 * c ≤ i → w < i + 3 * m → m < N →
    ∃ (h' : px_H) (rk' rd' : Nat → Int32), fn_M_readsRule_L43 v1 v2 N v3 (Int32.ofInt 1) h = tx_E v1 v2 (b01 (rp_lp g w m i c rk rd).1) h' ∧ MS (rp_lp g w m i c rk rd).2.1 w (rp_lp g w m i c rk rd).2.2.1 g rk' rd' h0 h' ∧ ((rp_lp g w m i c rk rd).1 = true → rk' = (rp_lp g w m i c rk rd).2.2.2.1 ∧ rd' = (rp_lp g w m i c rk rd).2.2.2.2) := by
  intro m
  induction m with
  | zero => intro i c rk rd N v3 h A h1 h2 h3; omega
  | succ m ih =>
    intro i c rk rd N v3 h A hi hc hm hN
    obtain ⟨N, rfl⟩ : ∃ k, N = k + 2 := ⟨N - 2, by omega⟩
    obtain ⟨b, h1, e1, q1, q2, q3⟩ := tx_line A hi hw (by omega)
    rw [show fn_M_readsRule_L43 v1 v2 (N + 2) v3 (Int32.ofInt 1) h = fb_M_readsRule_L43 v1 v2 (fn_M_readsRule_L43 v1 v2 (N + 1)) v3 (Int32.ofInt 1) h from rfl]
    unfold fb_M_readsRule_L43
    rw [show px_cmp .eq (Int32.ofInt 1) 0 = false from by decide, cond_false, e1, Option.bind_some, show px_cmp .eq ((b01 b, h1) : Int32 × px_H).1 0 = !b from cmp_b01 _]
    cases hk : rp_k g w i with
    | none =>
      obtain ⟨rfl, A1⟩ := q1 hk
      rw [show rp_lp g w (m + 1) i c rk rd = (false, rp_kf g w i, c, rk, rd) from by simp only [rp_lp, hk]]
      rw [Bool.not_false, cond_true]
      exact ⟨h1, rk, rd, tx_E0 _ _ _ _ _, A1, fun e => (by cases e)⟩
    | some q =>
      obtain ⟨k, n⟩ := q
      have hl := rp_k_le hk
      cases hd : rp_d g w (i + n) with
      | none =>
        obtain ⟨rfl, rk', rd', A1⟩ := q2 k n hk hd
        rw [show rp_lp g w (m + 1) i c rk rd = (false, i + n, c, rk, rd) from by simp only [rp_lp, hk, hd]]
        rw [Bool.not_false, cond_true]
        exact ⟨h1, rk', rd', tx_E0 _ _ _ _ _, A1, fun e => (by cases e)⟩
      | some d =>
        have hdl := rp_d_lt hd
        obtain ⟨rfl, A1⟩ := q3 k n d hk hd
        obtain ⟨h2, e2, A2⟩ := tx_comes A1 (by omega) hw (Int8.ofInt 59).toInt32
        rw [show (Int8.ofInt 59).toInt32 = 59 from by decide] at e2 A2 ⊢
        rw [Bool.not_true, cond_false, show ((b01 true, h1) : Int32 × px_H).2 = h1 from rfl, e2, Option.bind_some, show px_cmp .eq ((b01 (rp_b g w (i + n + 1) 59), h2) : Int32 × px_H).1 0 = !rp_b g w (i + n + 1) 59 from cmp_b01 _]
        cases hb : rp_b g w (i + n + 1) 59 with
        | true =>
          rw [hb] at A2
          have hbl := rp_b_lt hb
          rw [show rp_lp g w (m + 1) i c rk rd = rp_lp g w m (i + n + 2) (c + 1) (upd rk c k) (upd rd c d) from by simp only [rp_lp, hk, hd, hb, cond_true]]
          rw [Bool.not_true, cond_false]
          exact ih (i + n + 2) (c + 1) (upd rk c k) (upd rd c d) (N + 1) (b01 true) h2 A2 (by omega) (by omega) (by omega) (by omega)
        | false =>
          rw [hb] at A2
          rw [show rp_lp g w (m + 1) i c rk rd = (true, i + n + 1, c + 1, upd rk c k, upd rd c d) from by simp only [rp_lp, hk, hd, hb, cond_false]]
          rw [Bool.not_false, cond_true]
          exact ⟨h2, _, _, tx_E0 _ _ _ _ _, A2, fun _ => ⟨rfl, rfl⟩⟩
def Wru (c k : Nat) : Bool := Wrd c k
def Vru (c : Nat) : Bool := Nat.beq c 81 || (Nat.beq c 82 || (Nat.beq c 83 || (Nat.beq c 84 || (Nat.beq c 86 || Nat.beq c 87))))
/-- the lines are laid down -/
theorem tx_153 {r c : Nat} (hr : r < 4) (hc : c ≤ 7) : ∀ (m k N : Nat) (h : px_H), oS h → gI h 69 27 = Int32.ofNat c → k + m = c → m < N →
    ∃ h', fn_M_readsRule_L153 (Int32.ofNat r) N (Int32.ofNat k) h = some (Int32.ofNat c, h') ∧ oS h' ∧ fz W0 (fun a => Nat.beq a 83 || Nat.beq a 84) h h' ∧ ∀ j, aI h' 83 j = (if 7 * r + k ≤ j ∧ j < 7 * r + c then aI h 86 (j - 7 * r) else aI h 83 j) ∧ aI h' 84 j = (if 7 * r + k ≤ j ∧ j < 7 * r + c then aI h 87 (j - 7 * r) else aI h 84 j) := by
  intro m
  induction m with
  | zero =>
    intro k N h o g hk hN
    obtain ⟨N, rfl⟩ : ∃ n, N = n + 1 := ⟨N - 1, by omega⟩
    refine ⟨h, ?_, o, fz_rf, fun j => ⟨by rw [if_neg (by omega)], by rw [if_neg (by omega)]⟩⟩
    show fb_M_readsRule_L153 (Int32.ofNat r) (fn_M_readsRule_L153 (Int32.ofNat r) N) (Int32.ofNat k) h = _
    unfold fb_M_readsRule_L153
    rw [g, ge_nat (by omega) (by omega), decide_eq_true (show c ≤ k by omega), cond_true]
  | succ m ih =>
    intro k N h o g hk hN
    obtain ⟨N, rfl⟩ : ∃ n, N = n + 1 := ⟨N - 1, by omega⟩
    have ej : (Int8.ofInt 7).toInt32 * Int32.ofNat r + Int32.ofNat k = Int32.ofNat (7 * r + k) := by
      rw [show (Int8.ofInt 7).toInt32 = Int32.ofNat 7 from by decide, ← Int32.ofNat_mul, ← Int32.ofNat_add]
    obtain ⟨o1, e1, n1, f1⟩ := oI 83 nr_lineKind 28 (7 * r + k) (aI h 86 k) o rfl
    have g1 : gI (uI h 83 (7 * r + k) (aI h 86 k)) 69 27 = Int32.ofNat c := gI_uI.trans g
    rw [show fn_M_readsRule_L153 (Int32.ofNat r) (N + 1) (Int32.ofNat k) h = fb_M_readsRule_L153 (Int32.ofNat r) (fn_M_readsRule_L153 (Int32.ofNat r) N) (Int32.ofNat k) h from rfl]
    unfold fb_M_readsRule_L153
    rw [g, ge_nat (by omega) (by omega), decide_eq_false (show ¬ c ≤ k by omega), cond_false, ej, nm_inR k 8 (by omega) (by omega), nm_inR (7 * r + k) 28 (by omega) (by omega), cond_true, cond_true, nm_ofNat_clamp k (by omega), nm_ofNat_clamp (7 * r + k) (by omega), inc1]
    simp only [sb, cond_true]
    generalize uI h 83 (7 * r + k) (aI h 86 k) = h1 at o1 e1 n1 f1 g1 ⊢
    obtain ⟨o2, e2, n2, f2⟩ := oI 84 nr_lineDoes 28 (7 * r + k) (aI h1 87 k) o1 rfl
    have g2 : gI (uI h1 84 (7 * r + k) (aI h1 87 k)) 69 27 = Int32.ofNat c := gI_uI.trans g1
    generalize uI h1 84 (7 * r + k) (aI h1 87 k) = h2 at o2 e2 n2 f2 g2 ⊢
    obtain ⟨h', q1, q2, q3, q4⟩ := ih (k + 1) N h2 o2 g2 (by omega) (by omega)
    refine ⟨h', q1, q2, fz_tr (fz_mono f1 (fun _ _ _ => rfl) (fun _ h => by simp only [Bool.or_eq_false_iff] at h; exact h.1)) (fz_tr (fz_mono f2 (fun _ _ _ => rfl) (fun _ h => by simp only [Bool.or_eq_false_iff] at h; exact h.2)) q3), fun j => ?_⟩
    obtain ⟨u1, u2⟩ := q4 j
    rw [u1, u2, n2 86 (by decide), n2 83 (by decide), n1 86 (by decide), e1, n2 87 (by decide), n1 87 (by decide), e2, n1 84 (by decide), n1 87 (by decide), upd_eq, upd_eq]
    by_cases hj : j = 7 * r + k
    · subst hj
      rw [if_neg (by omega), if_pos rfl, if_pos (by omega), if_neg (by omega), if_pos rfl, if_pos (by omega), show 7 * r + k - 7 * r = k from by omega]
      exact ⟨rfl, rfl⟩
    · rw [if_neg hj, if_neg hj]
      by_cases hh : 7 * r + (k + 1) ≤ j ∧ j < 7 * r + c
      · rw [if_pos hh, if_pos (by omega), if_pos hh, if_pos (by omega)]
        exact ⟨rfl, rfl⟩
      · rw [if_neg hh, if_neg (by omega), if_neg hh, if_neg (by omega)]
        exact ⟨rfl, rfl⟩
/-- what is known of a text that can stand -/
def LPt (g : Nat → Int32) (n c : Nat) (rk rd : Nat → Int32) : Prop := (n = 0 ∧ c = 0) ∨ (0 < n ∧ n ≤ 20 ∧ ∃ rk0 rd0, rp_lp g n 7 0 0 rk0 rd0 = (true, n, c, rk, rd))
def RQ (r n : Nat) (h : px_H) (v : Int32) (h' : px_H) : Prop :=
  oS h' ∧ fz Wru Vru h h' ∧ gI h' 69 22 = Int32.ofNat 0 ∧
  ((xf (aI h 85) (min n 20) n 21 0 0 < 0 ∧ ∃ (c : Nat) (rk rd : Nat → Int32), c ≤ 7 ∧ v = Int32.ofNat c ∧ LPt (aI h 85) n c rk rd ∧ aI h' 81 = upd (aI h 81) r (Int32.ofNat c) ∧ aI h' 82 = upd (aI h 82) r (Int32.ofInt 1) ∧ ∀ j, aI h' 83 j = (if 7 * r ≤ j ∧ j < 7 * r + c then rk (j - 7 * r) else aI h 83 j) ∧ aI h' 84 j = (if 7 * r ≤ j ∧ j < 7 * r + c then rd (j - 7 * r) else aI h 84 j)) ∨
   (¬ xf (aI h 85) (min n 20) n 21 0 0 < 0 ∧ v = Int32.ofInt (-1 - xf (aI h 85) (min n 20) n 21 0 0) ∧ aI h' 81 = aI h 81 ∧ aI h' 82 = aI h 82 ∧ aI h' 83 = aI h 83 ∧ aI h' 84 = aI h 84))
theorem m1_sub {a : Nat} (ha : a ≤ 40) : Int32.ofInt (-1) - Int32.ofNat a = Int32.ofInt (-1 - (a : Int)) := by
  rw [← Int32.toInt_inj, Int32.toInt_sub, nm_ofNat_toInt a (by omega), show (Int32.ofInt (-1)).toInt = -1 from by decide, toInt_oI (by omega) (by omega), Int.bmod_eq_of_le] <;> omega
theorem tx_RE {r n a c : Nat} {goes : Bool} {rk rd : Nat → Int32} {h0 h1 : px_H} (hr : r < 4) (n4 : n ≤ 40) (ha : a ≤ min n 20) (hc : c ≤ 7) (A : MS a (min n 20) c (aI h0 85) rk rd h0 h1)
    (hx : xf (aI h0 85) (min n 20) n 21 0 0 = if goes = true then (if a < min n 20 then (a : Int) else xf_end n 3) else (if a < min n 20 then (a : Int) else xf_end n 0)) (h0n : n = 0 → goes = true) (hL : goes = true → a = n → n ≤ 20 → LPt (aI h0 85) n c rk rd) :
    ∃ (v : Int32) (h' : px_H), tx_E (Int32.ofNat r) (Int32.ofNat n) (b01 goes) h1 = some (v, h') ∧ RQ r n h0 v h' := by
  obtain ⟨o, a23, a24, a27, e85, e86, e87, fr, h22⟩ := A
  have fr' : fz Wru Vru h0 h1 := fz_mono fr (fun _ _ h => h) (fun _ h => by
    unfold Vru at h
    unfold Vrd
    simp only [Bool.or_eq_false_iff] at h ⊢
    exact ⟨h.2.2.2.2.1, h.2.2.2.2.2⟩)
  have k : ∀ c, Vrd c = false → aI h1 c = aI h0 c := fun c hc => (fr.2 c hc).1
  have no : ∀ (x : Int), ¬ x < 0 → xf (aI h0 85) (min n 20) n 21 0 0 = x → ∀ v : Int32, v = Int32.ofInt (-1 - x) → RQ r n h0 v h1 := by
    intro x hx0 hx1 v hv
    exact ⟨o, fr', h22, Or.inr ⟨by rw [hx1]; exact hx0, by rw [hx1]; exact hv, k 81 rfl, k 82 rfl, k 83 rfl, k 84 rfl⟩⟩
  unfold tx_E
  rw [a23, a24, a27, show (Int8.ofInt 20).toInt32 = Int32.ofNat 20 from by decide, le_nat (by omega) (by omega), lt_nat (by omega) (by omega), cmp_b01, show px_cmp .ne (Int32.ofNat a) (Int32.ofNat (min n 20)) = !decide (a = min n 20) from by rw [cmp_ne]; congr 1; exact eq_nat (by omega) (by omega)]
  have low : ∀ (E : Int), xf (aI h0 85) (min n 20) n 21 0 0 = (if a < min n 20 then (a : Int) else E) → (¬ a < min n 20 → E = if 20 < n then 20 else (n : Int)) → ∃ (v : Int32) (h' : px_H), (bif decide (n ≤ 20) then some (Int32.ofInt (-1) - Int32.ofNat a, h1) else bif decide (a < 20) then some (Int32.ofInt (-1) - Int32.ofNat a, h1) else some ((Int8.ofInt (-21)).toInt32, h1)) = some (v, h') ∧ RQ r n h0 v h' := by
    intro E hE hE2
    by_cases haw : a < min n 20
    · rw [if_pos haw] at hE
      have hq := no (a : Int) (by omega) hE _ (m1_sub (show a ≤ 40 by omega))
      by_cases h20 : n ≤ 20
      · rw [decide_eq_true h20, cond_true]; exact ⟨_, h1, rfl, hq⟩
      · rw [decide_eq_false h20, cond_false, decide_eq_true (show a < 20 by omega), cond_true]; exact ⟨_, h1, rfl, hq⟩
    · have e := hE2 haw
      rw [if_neg haw, e] at hE
      by_cases h20 : n ≤ 20
      · rw [if_neg (by omega)] at hE
        rw [decide_eq_true h20, cond_true, show a = n from by omega]
        exact ⟨_, h1, rfl, no (n : Int) (by omega) hE _ (m1_sub n4)⟩
      · rw [if_pos (by omega)] at hE
        rw [decide_eq_false h20, cond_false, decide_eq_false (show ¬ a < 20 by omega), cond_false]
        exact ⟨_, h1, rfl, no 20 (by omega) hE _ (by decide)⟩
  cases goes with
  | false =>
    rw [Bool.not_false, cond_true]
    refine low _ (by rw [hx, if_neg (by decide)]) (fun haw => ?_)
    unfold xf_end
    by_cases h20 : 20 < n
    · rw [if_pos h20, if_pos h20]
    · rw [if_neg h20, if_neg h20, if_neg]
      rintro (e | e)
      · cases h0n e
      · cases e
  | true =>
    rw [Bool.not_true, cond_false]
    rw [if_pos rfl] at hx
    by_cases haw : a = min n 20
    · rw [decide_eq_true haw, Bool.not_true, cond_false]
      rw [if_neg (by omega)] at hx
      unfold xf_end at hx
      by_cases h20 : n ≤ 20
      · rw [if_neg (by omega), if_pos (Or.inr rfl)] at hx
        rw [decide_eq_true h20, cond_true, nm_inR r 4 hr (by omega), cond_true, nm_ofNat_clamp r (by omega)]
        simp only [sb, cond_true]
        obtain ⟨o1, e1, n1, f1⟩ := oI 81 nr_lines 4 r (Int32.ofNat c) o rfl
        have g1 : ∀ k, gI (uI h1 81 r (Int32.ofNat c)) 69 k = gI h1 69 k := fun _ => gI_uI
        generalize uI h1 81 r (Int32.ofNat c) = h2 at o1 e1 n1 f1 g1 ⊢
        obtain ⟨o2, e2, n2, f2⟩ := oI 82 nr_isTold 4 r (Int32.ofInt 1) o1 rfl
        have g2 : ∀ k, gI (uI h2 82 r (Int32.ofInt 1)) 69 k = gI h1 69 k := fun k => gI_uI.trans (g1 k)
        generalize uI h2 82 r (Int32.ofInt 1) = h3 at o2 e2 n2 f2 g2 ⊢
        obtain ⟨h', q1, q2, q3, q4⟩ := tx_153 hr hc c 0 fu h3 o2 ((g2 27).trans a27) (by omega) (fu_lt (by omega))
        have u : ∀ {x : Nat}, Vru x = false → Nat.beq x 81 = false ∧ Nat.beq x 82 = false ∧ Nat.beq x 83 = false ∧ Nat.beq x 84 = false := fun h => by
          unfold Vru at h
          simp only [Bool.or_eq_false_iff] at h
          exact ⟨h.1, h.2.1, h.2.2.1, h.2.2.2.1⟩
        refine ⟨Int32.ofNat c, h', q1, q2, fz_tr fr' (fz_tr (fz_mono f1 (fun _ _ _ => rfl) (fun _ h => (u h).1)) (fz_tr (fz_mono f2 (fun _ _ _ => rfl) (fun _ h => (u h).2.1)) (fz_mono q3 (fun _ _ _ => rfl) (fun _ h => by simp only [Bool.or_eq_false_iff]; exact ⟨(u h).2.2.1, (u h).2.2.2⟩)))), (fz_gI q3 rfl).trans ((g2 22).trans h22), Or.inl ⟨by rw [hx]; decide, c, rk, rd, hc, rfl, hL rfl (by omega) h20, ?_, ?_, fun j => ?_⟩⟩
        · rw [(q3.2 81 rfl).1, n2 81 (by decide), e1, k 81 rfl]
        · rw [(q3.2 82 rfl).1, e2, n1 82 (by decide), k 82 rfl]
        · obtain ⟨w1, w2⟩ := q4 j
          rw [w1, w2, n2 86 (by decide), n1 86 (by decide), e86, n2 83 (by decide), n1 83 (by decide), k 83 rfl, n2 87 (by decide), n1 87 (by decide), e87, n2 84 (by decide), n1 84 (by decide), k 84 rfl]
          exact ⟨rfl, rfl⟩
      · rw [if_pos (by omega)] at hx
        rw [decide_eq_false h20, cond_false]
        exact ⟨_, h1, rfl, no 20 (by omega) hx _ (by decide)⟩
    · rw [decide_eq_false haw, Bool.not_false, cond_true]
      exact low _ hx (fun h => absurd h (by omega))
theorem tx_reads {r n : Nat} {h : px_H} (hr : r < 4) (o : oS h) (n4 : n ≤ 40) (hn : gI h 69 22 = Int32.ofNat n) : ∃ (v : Int32) (h' : px_H), fn_M_readsRule (Int32.ofNat r) h = some (v, h') ∧ RQ r n h v h' := by
  unfold fn_M_readsRule
  rw [hn]
  simp only [sb]
  have ew : (if (Int8.ofInt 20).toInt32 < Int32.ofNat n then (Int8.ofInt 20).toInt32 else Int32.ofNat n) = Int32.ofNat (min n 20) := by
    rw [show (Int8.ofInt 20).toInt32 = Int32.ofNat 20 from by decide]
    by_cases h2 : 20 < n
    · rw [if_pos (by rw [Int32.lt_iff_toInt_lt, nm_ofNat_toInt 20 (by omega), nm_ofNat_toInt n (by omega)]; omega), show min n 20 = 20 from by omega]
    · rw [if_neg (by rw [Int32.lt_iff_toInt_lt, nm_ofNat_toInt 20 (by omega), nm_ofNat_toInt n (by omega)]; omega), show min n 20 = n from by omega]
  rw [ew]
  have W : ∀ {h : px_H} {k : Nat} {v : Int32}, bF [69] 9 k 0 = true → oS h → oS (wF h 69 k (.int v)) ∧ gI (wF h 69 k (.int v)) 69 k = v ∧ ∀ j, j ≠ k → gI (wF h 69 k (.int v)) 69 j = gI h 69 j := fun hb ho => ⟨oS_wI hb List.mem_cons_self ho, gI_wF hb List.mem_cons_self ho, fun j hj => gI_wF_ne (fun e => hj e.2)⟩
  obtain ⟨o1, a1, b1⟩ := W (k := 22) (v := Int32.ofInt 0) rfl o
  have f1 : fz Wrd Vrd h (wF h 69 22 (.int (Int32.ofInt 0))) := fz_wF rfl
  have c1 : ∀ c, aI (wF h 69 22 (.int (Int32.ofInt 0))) c = aI h c := fun _ => aI_wF
  generalize wF h 69 22 (.int (Int32.ofInt 0)) = h1 at o1 a1 b1 f1 c1 ⊢
  obtain ⟨o2, a2, b2⟩ := W (k := 23) (v := Int32.ofInt 0) rfl o1
  have f2 : fz Wrd Vrd h (wF h1 69 23 (.int (Int32.ofInt 0))) := fz_tr f1 (fz_wF rfl)
  have c2 : ∀ c, aI (wF h1 69 23 (.int (Int32.ofInt 0))) c = aI h c := fun c => aI_wF.trans (c1 c)
  generalize wF h1 69 23 (.int (Int32.ofInt 0)) = h2 at o2 a2 b2 f2 c2 ⊢
  obtain ⟨o3, a3, b3⟩ := W (k := 24) (v := Int32.ofNat (min n 20)) rfl o2
  have f3 : fz Wrd Vrd h (wF h2 69 24 (.int (Int32.ofNat (min n 20)))) := fz_tr f2 (fz_wF rfl)
  have c3 : ∀ c, aI (wF h2 69 24 (.int (Int32.ofNat (min n 20)))) c = aI h c := fun c => aI_wF.trans (c2 c)
  generalize wF h2 69 24 (.int (Int32.ofNat (min n 20))) = h3 at o3 a3 b3 f3 c3 ⊢
  obtain ⟨o4, a4, b4⟩ := W (k := 27) (v := Int32.ofInt 0) rfl o3
  have f4 : fz Wrd Vrd h (wF h3 69 27 (.int (Int32.ofInt 0))) := fz_tr f3 (fz_wF rfl)
  have c4 : ∀ c, aI (wF h3 69 27 (.int (Int32.ofInt 0))) c = aI h c := fun c => aI_wF.trans (c3 c)
  generalize wF h3 69 27 (.int (Int32.ofInt 0)) = h4 at o4 a4 b4 f4 c4 ⊢
  have h22 : gI h4 69 22 = Int32.ofNat 0 := by rw [b4 22 (by decide), b3 22 (by decide), b2 22 (by decide), a1]; rfl
  have A : MS 0 (min n 20) 0 (aI h 85) (aI h 86) (aI h 87) h h4 := ⟨o4, by rw [b4 23 (by decide), b3 23 (by decide), a2]; rfl, by rw [b4 24 (by decide), a3], a4, c4 85, c4 86, c4 87, f4, h22⟩
  rw [show px_cmp .le (Int32.ofNat n) 0 = decide (n ≤ 0) from le_nat (b := 0) (by omega) (by omega)]
  by_cases h0 : n = 0
  · rw [decide_eq_true (show n ≤ 0 by omega), cond_true]
    obtain ⟨N, hN⟩ : ∃ k, fu = k + 1 := ⟨fu - 1, by have := fu_lt (m := 1) (by omega); omega⟩
    rw [hN, tx_E0]
    refine tx_RE (goes := true) hr n4 (a := 0) (c := 0) (by omega) (by omega) A ?_ (fun _ => rfl) (fun _ _ _ => Or.inl ⟨h0, rfl⟩)
    subst h0
    rw [xf_at (by omega)]
    rfl
  · rw [decide_eq_false (show ¬ n ≤ 0 by omega), cond_false]
    obtain ⟨h', rk', rd', q1, q2, q3⟩ := tx_loop (by omega) (Int32.ofNat r) (Int32.ofNat n) 7 0 0 _ _ fu (Int32.ofInt 1) h4 A (by omega) (by omega) (by omega) (fu_lt (by omega))
    have bd := rp_lp_bd (g := aI h 85) (w := min n 20) 7 0 0 (aI h 86) (aI h 87) (by omega) (by omega)
    have hx := xf_lp (g := aI h 85) (w := min n 20) (n := n) (by omega) 7 0 0 (aI h 86) (aI h 87) 21 (by omega) (by omega) (by omega)
    generalize hq : rp_lp (aI h 85) (min n 20) 7 0 0 (aI h 86) (aI h 87) = q at q1 q2 q3 bd hx
    obtain ⟨goes, a, c, rk, rd⟩ := q
    simp only at q1 q2 q3 bd hx
    rw [q1]
    refine tx_RE (goes := goes) hr n4 bd.1 (by omega) q2 hx (fun e => absurd e h0) (fun eg ea e20 => Or.inr ⟨by omega, e20, aI h 86, aI h 87, ?_⟩)
    obtain ⟨rfl, rfl⟩ := q3 eg
    rw [show min n 20 = n from by omega] at hq
    rw [hq, eg, ea]
end sy_W
end mg_2

section mg_3
/-! the class reads a rule -/
section sy_X
abbrev rcl : List Nat := [14, 54, 58, 62]
def Wrc (rc c k : Nat) : Bool := Nat.beq c rc && Nat.beq k 3
def Vrc (rc c : Nat) : Bool := Nat.beq c (rc + 1) || (Nat.beq c (rc + 2) || Nat.beq c (rc + 3))
theorem rc_g {rc : Nat} {h : px_H} (o : oS h) (hrc : rc ∈ rcl) : gR h rc 0 = rc + 1 ∧ gR h rc 1 = rc + 2 ∧ gR h rc 2 = rc + 3 := by
  have one : ∀ (rc d k : Nat), bR [rc] 3 k [d] = true → gR h rc k = d := fun rc d k hb => List.mem_singleton.mp (bR_ok hb List.mem_cons_self o).choose_spec.2.2
  simp only [rcl, List.mem_cons, List.not_mem_nil, or_false] at hrc
  rcases hrc with rfl | rfl | rfl | rfl
  · exact ⟨one 14 15 0 rfl, one 14 16 1 rfl, one 14 17 2 rfl⟩
  · exact ⟨one 54 55 0 rfl, one 54 56 1 rfl, one 54 57 2 rfl⟩
  · exact ⟨one 58 59 0 rfl, one 58 60 1 rfl, one 58 61 2 rfl⟩
  · exact ⟨one 62 63 0 rfl, one 62 64 1 rfl, one 62 65 2 rfl⟩
def RS (rc n c : Nat) (g K S F : Nat → Int32) (h0 h : px_H) : Prop := oS h ∧ gI h 12 1 = Int32.ofNat n ∧ aI h 13 = g ∧ gI h rc 3 = Int32.ofNat c ∧ aI h (rc + 1) = K ∧ aI h (rc + 2) = S ∧ aI h (rc + 3) = F ∧ fz (Wrc rc) (Vrc rc) h0 h
variable {rc n c i N : Nat} {g K S F : Nat → Int32} {h0 h : px_H}
theorem rc_ne (hrc : rc ∈ rcl) : rc ≠ 12 ∧ rc + 1 ≠ 13 ∧ rc + 2 ≠ 13 ∧ rc + 3 ≠ 13 := by
  simp only [rcl, List.mem_cons, List.not_mem_nil, or_false] at hrc
  omega
theorem rc_b (hrc : rc ∈ rcl) : Nat.beq 12 rc = false := by
  simp only [rcl, List.mem_cons, List.not_mem_nil, or_false] at hrc
  rcases hrc with rfl | rfl | rfl | rfl <;> rfl
theorem RS_K (hrc : rc ∈ rcl) (A : RS rc n c g K S F h0 h) (x : Int32) : RS rc n c g (upd K c x) S F h0 (uI h (rc + 1) c x) := by
  obtain ⟨o, a1, a2, a3, e1, e2, e3, fr⟩ := A
  have hm : rc + 1 ∈ [15, 55, 59, 63] := by
    simp only [rcl, List.mem_cons, List.not_mem_nil, or_false] at hrc ⊢
    omega
  have ne := rc_ne hrc
  exact ⟨oS_uI (cs := [15, 55, 59, 63]) (t := 0) (n := 7) rfl hm o, gI_uI.trans a1, (aI_uI_ne (by omega)).trans a2, gI_uI.trans a3, by rw [aI_uI (cs := [15, 55, 59, 63]) (t := 0) (n := 7) rfl hm o, e1], (aI_uI_ne (by omega)).trans e2, (aI_uI_ne (by omega)).trans e3, fz_tr fr (fz_uI (by unfold Vrc; rw [Nat.beq_refl]; rfl))⟩
theorem RS_S (hrc : rc ∈ rcl) (A : RS rc n c g K S F h0 h) (x : Int32) : RS rc n c g K (upd S c x) F h0 (uI h (rc + 2) c x) := by
  obtain ⟨o, a1, a2, a3, e1, e2, e3, fr⟩ := A
  have hm : rc + 2 ∈ [16, 56, 60, 64] := by
    simp only [rcl, List.mem_cons, List.not_mem_nil, or_false] at hrc ⊢
    omega
  have ne := rc_ne hrc
  exact ⟨oS_uI (cs := [16, 56, 60, 64]) (t := 1) (n := 7) rfl hm o, gI_uI.trans a1, (aI_uI_ne (by omega)).trans a2, gI_uI.trans a3, (aI_uI_ne (by omega)).trans e1, by rw [aI_uI (cs := [16, 56, 60, 64]) (t := 1) (n := 7) rfl hm o, e2], (aI_uI_ne (by omega)).trans e3, fz_tr fr (fz_uI (by unfold Vrc; rw [Nat.beq_refl, Bool.true_or, Bool.or_true]))⟩
theorem RS_F (hrc : rc ∈ rcl) (A : RS rc n c g K S F h0 h) (x : Int32) : RS rc n (c + 1) g K S (upd F c x) h0 (wF (uI h (rc + 3) c x) rc 3 (.int (Int32.ofNat (c + 1)))) := by
  obtain ⟨o, a1, a2, a3, e1, e2, e3, fr⟩ := A
  have hm : rc + 3 ∈ [17, 57, 61, 65] := by
    simp only [rcl, List.mem_cons, List.not_mem_nil, or_false] at hrc ⊢
    omega
  have ne := rc_ne hrc
  have o1 : oS (uI h (rc + 3) c x) := oS_uI (cs := [17, 57, 61, 65]) (t := 2) (n := 7) rfl hm o
  exact ⟨oS_wI (cs := rcl) (ci := 3) rfl hrc o1, (gI_wF_ne (by omega)).trans (gI_uI.trans a1), aI_wF.trans ((aI_uI_ne (by omega)).trans a2), gI_wF (cs := rcl) (ci := 3) rfl hrc o1, aI_wF.trans ((aI_uI_ne (by omega)).trans e1), aI_wF.trans ((aI_uI_ne (by omega)).trans e2), by rw [aI_wF, aI_uI (cs := [17, 57, 61, 65]) (t := 2) (n := 7) rfl hm o, e3], fz_tr fr (fz_tr (fz_uI (by unfold Vrc; rw [Nat.beq_refl, Bool.or_true, Bool.or_true])) (fz_wF (by unfold Wrc; rw [Nat.beq_refl]; rfl)))⟩
/-- a sign: the loop's body where there is one -/
theorem rd_body (hrc : rc ∈ rcl) (A : RS rc n c g K S F h0 h) (n4 : n ≤ 40) (hi : i < n) (hc : c < 7) : fn_Rule_read_L7 rc (N + 1) (Int32.ofNat i) h =
    (bif px_cmp .lt (g i) (Int8.ofInt 49).toInt32 || px_cmp .gt (g i) (Int8.ofInt 54).toInt32 then
      (bif px_cmp .eq (g i) (Int8.ofInt 98).toInt32 || (px_cmp .eq (g i) (Int8.ofInt 116).toInt32 || !px_cmp .ne (g i) (Int8.ofInt 108).toInt32) then fn_Rule_read_L7 rc N (Int32.ofNat (i + 1)) (wF (uI h (rc + 3) c (g i)) rc 3 (.int (Int32.ofNat (c + 1))))
       else bif px_cmp .eq (g i) (Int8.ofInt 59).toInt32 then fn_Rule_read_L7 rc N (Int32.ofNat (i + 1)) h else fn_Rule_read_L7 rc N (Int32.ofNat (i + 1)) (uI h (rc + 1) c (g i)))
     else fn_Rule_read_L7 rc N (Int32.ofNat (i + 1)) (uI h (rc + 2) c (g i - (Int8.ofInt 48).toInt32))) := by
  obtain ⟨o, a1, a2, a3, e1, e2, e3, fr⟩ := A
  obtain ⟨g0, g1, g2⟩ := rc_g o hrc
  have gf : gI (uI h (rc + 3) c (g i)) rc 3 = Int32.ofNat c := gI_uI.trans a3
  rw [show fn_Rule_read_L7 rc (N + 1) (Int32.ofNat i) h = fb_Rule_read_L7 rc (fn_Rule_read_L7 rc N) (Int32.ofNat i) h from rfl]
  unfold fb_Rule_read_L7
  rw [a1, ge_nat (by omega) (by omega), decide_eq_false (show ¬ n ≤ i by omega), cond_false, a3, show (Int8.ofInt 7).toInt32 = Int32.ofNat 7 from by decide, ge_nat (by omega) (by omega), decide_eq_false (show ¬ 7 ≤ c by omega), cond_false, nm_inR i 40 (by omega) (by omega), cond_true, nm_ofNat_clamp i (by omega), a2, nm_inR c 7 hc (by omega), nm_ofNat_clamp c (by omega), g0, g1, g2, inc1]
  simp only [sb, cond_true]
  rw [gf, inc1]
  cases px_cmp .lt (g i) (Int8.ofInt 49).toInt32 <;> cases px_cmp .gt (g i) (Int8.ofInt 54).toInt32 <;> cases px_cmp .eq (g i) (Int8.ofInt 98).toInt32 <;> cases px_cmp .eq (g i) (Int8.ofInt 116).toInt32 <;> cases px_cmp .ne (g i) (Int8.ofInt 108).toInt32 <;> cases px_cmp .eq (g i) (Int8.ofInt 59).toInt32 <;> rfl
theorem rd_kind (hrc : rc ∈ rcl) (A : RS rc n c g K S F h0 h) (n4 : n ≤ 40) (hi : i < n) (hc : c < 7) (hg : g i = 107 ∨ g i = 100 ∨ g i = 119 ∨ g i = 115) : ∃ h', fn_Rule_read_L7 rc (N + 1) (Int32.ofNat i) h = fn_Rule_read_L7 rc N (Int32.ofNat (i + 1)) h' ∧ RS rc n c g (upd K c (g i)) S F h0 h' := by
  refine ⟨_, ?_, RS_K hrc A (g i)⟩
  rw [rd_body hrc A n4 hi hc]
  rcases hg with e | e | e | e <;> rw [e] <;> rfl
theorem rd_semi (hrc : rc ∈ rcl) (A : RS rc n c g K S F h0 h) (n4 : n ≤ 40) (hi : i < n) (hc : c < 7) (hg : g i = 59) : fn_Rule_read_L7 rc (N + 1) (Int32.ofNat i) h = fn_Rule_read_L7 rc N (Int32.ofNat (i + 1)) h := by
  rw [rd_body hrc A n4 hi hc, hg]
  rfl
theorem rd_fate (hrc : rc ∈ rcl) (A : RS rc n c g K S F h0 h) (n4 : n ≤ 40) (hi : i < n) (hc : c < 7) (hg : g i = 98 ∨ g i = 116 ∨ g i = 108) : ∃ h', fn_Rule_read_L7 rc (N + 1) (Int32.ofNat i) h = fn_Rule_read_L7 rc N (Int32.ofNat (i + 1)) h' ∧ RS rc n (c + 1) g K S (upd F c (g i)) h0 h' := by
  refine ⟨_, ?_, RS_F hrc A (g i)⟩
  rw [rd_body hrc A n4 hi hc]
  rcases hg with e | e | e <;> rw [e] <;> rfl
theorem rd_span (hrc : rc ∈ rcl) (A : RS rc n c g K S F h0 h) (n4 : n ≤ 40) (hi : i < n) (hc : c < 7) (h1 : 49 ≤ (g i).toInt) (h2 : (g i).toInt ≤ 54) : ∃ h', fn_Rule_read_L7 rc (N + 1) (Int32.ofNat i) h = fn_Rule_read_L7 rc N (Int32.ofNat (i + 1)) h' ∧ RS rc n c g K (upd S c (g i - (Int8.ofInt 48).toInt32)) F h0 h' := by
  refine ⟨_, ?_, RS_S hrc A (g i - (Int8.ofInt 48).toInt32)⟩
  rw [rd_body hrc A n4 hi hc, cmp_lt, cmp_gt, show (Int8.ofInt 49).toInt32.toInt = 49 from by decide, show (Int8.ofInt 54).toInt32.toInt = 54 from by decide, decide_eq_false (show ¬ (g i).toInt < 49 by omega), decide_eq_false (show ¬ 54 < (g i).toInt by omega), Bool.or_false, cond_false]
def LR (c : Nat) (K S F rk rd : Nat → Int32) : Prop := ∀ k, k < c → kR (K k) (S k) (rk k) ∧ fR (F k) (rd k)
theorem LR_up {c : Nat} {K S F rk rd : Nat → Int32} (h : LR c K S F rk rd) {k0 s0 f0 rk0 rd0 : Int32} (h1 : kR k0 s0 rk0) (h2 : fR f0 rd0) {S' : Nat → Int32} (hS : S' c = s0) (hS' : ∀ k, k < c → S' k = S k) : LR (c + 1) (upd K c k0) S' (upd F c f0) (upd rk c rk0) (upd rd c rd0) := by
  intro k hk
  rw [upd_eq, upd_eq, upd_eq, upd_eq]
  by_cases e : k = c
  · subst e
    rw [if_pos rfl, if_pos rfl, if_pos rfl, if_pos rfl, hS]
    exact ⟨h1, h2⟩
  · rw [if_neg e, if_neg e, if_neg e, if_neg e, hS' k (by omega)]
    exact h k (by omega)
theorem fR_of {g : Nat → Int32} {w j : Nat} {d : Int32} (h : rp_d g w j = some d) : (g j = 98 ∨ g j = 116 ∨ g j = 108) ∧ fR (g j) d := by
  have hl := rp_d_lt h
  unfold rp_d at h
  cases h1 : rp_b g w j 98 with
  | true =>
    rw [h1] at h
    cases h
    simp only [rp_b, Bool.and_eq_true, decide_eq_true_eq] at h1
    exact ⟨Or.inl h1.2, Or.inl ⟨h1.2, rfl⟩⟩
  | false =>
    cases h2 : rp_b g w j 116 with
    | true =>
      rw [h1, h2] at h
      cases h
      simp only [rp_b, Bool.and_eq_true, decide_eq_true_eq] at h2
      exact ⟨Or.inr (Or.inl h2.2), Or.inr (Or.inl ⟨h2.2, rfl⟩)⟩
    | false =>
      cases h3 : rp_b g w j 108 with
      | true =>
        rw [h1, h2, h3] at h
        cases h
        simp only [rp_b, Bool.and_eq_true, decide_eq_true_eq] at h3
        exact ⟨Or.inr (Or.inr h3.2), Or.inr (Or.inr ⟨h3.2, rfl⟩)⟩
      | false => rw [h1, h2, h3] at h; cases h
/-- the beginning of a line -/
theorem rd_beg (hrc : rc ∈ rcl) (A : RS rc n c g K S F h0 h) (n4 : n ≤ 40) (hc : c < 7) {k : Int32} {a : Nat} (hk : rp_k g n i = some (k, a)) : ∃ (h' : px_H) (k0 s0 : Int32) (S' : Nat → Int32), fn_Rule_read_L7 rc (N + a) (Int32.ofNat i) h = fn_Rule_read_L7 rc N (Int32.ofNat (i + a)) h' ∧ RS rc n c g (upd K c k0) S' F h0 h' ∧ kR k0 s0 k ∧ S' c = s0 ∧ ∀ j, j < c → S' j = S j := by
  have hl := rp_k_le hk
  unfold rp_k at hk
  cases h1 : rp_b g n i 107 with
  | true =>
    rw [h1] at hk
    cases hk
    simp only [rp_b, Bool.and_eq_true, decide_eq_true_eq] at h1
    obtain ⟨h', e, B⟩ := rd_kind (N := N) hrc A n4 h1.1 hc (Or.inl h1.2)
    exact ⟨h', _, _, S, e, B, Or.inl ⟨h1.2, rfl⟩, rfl, fun _ _ => rfl⟩
  | false =>
    cases h2 : rp_b g n i 100 with
    | true =>
      rw [h1, h2] at hk
      cases hk
      simp only [rp_b, Bool.and_eq_true, decide_eq_true_eq] at h2
      obtain ⟨h', e, B⟩ := rd_kind (N := N) hrc A n4 h2.1 hc (Or.inr (Or.inl h2.2))
      exact ⟨h', _, _, S, e, B, Or.inr (Or.inl ⟨h2.2, rfl⟩), rfl, fun _ _ => rfl⟩
    | false =>
      cases h3 : rp_b g n i 119 with
      | true =>
        rw [h1, h2, h3] at hk
        cases hk
        simp only [rp_b, Bool.and_eq_true, decide_eq_true_eq] at h3
        obtain ⟨h', e, B⟩ := rd_kind (N := N) hrc A n4 h3.1 hc (Or.inr (Or.inr (Or.inl h3.2)))
        exact ⟨h', _, _, S, e, B, Or.inr (Or.inr (Or.inl ⟨h3.2, rfl⟩)), rfl, fun _ _ => rfl⟩
      | false =>
        rw [h1, h2, h3] at hk
        cases h4 : (rp_b g n i 115 && (decide (i + 1 < n) && (decide (49 ≤ (g (i + 1)).toInt) && decide ((g (i + 1)).toInt ≤ 54)))) with
        | false => rw [h4] at hk; cases hk
        | true =>
          rw [h4] at hk
          cases hk
          simp only [rp_b, Bool.and_eq_true, decide_eq_true_eq] at h4
          obtain ⟨⟨c0, c1⟩, c2, c3, c4⟩ := h4
          obtain ⟨h', e, B⟩ := rd_kind (N := N + 1) hrc A n4 c0 hc (Or.inr (Or.inr (Or.inr c1)))
          obtain ⟨h2', e2, B2⟩ := rd_span (N := N) hrc B n4 c2 hc c3 c4
          have e48 : (Int8.ofInt 48).toInt32 = 48 := by decide
          refine ⟨h2', _, _, _, e.trans e2, B2, Or.inr (Or.inr (Or.inr ⟨c1, ?_, (g (i + 1)).toInt.toNat - 48, by omega, by omega, ?_⟩)), by rw [upd_eq, if_pos rfl], fun j hj => by rw [upd_eq, if_neg (by omega)]⟩
          · rw [e48]
          · rw [e48, ← Int32.toInt_inj, nm_ofNat_toInt _ (by omega), Int32.toInt_sub, show (48 : Int32).toInt = 48 from by decide, Int.bmod_eq_of_le] <;> omega
theorem rd_loop (hrc : rc ∈ rcl) (n2 : n ≤ 20) : ∀ (m i c : Nat) (K S F rk rd : Nat → Int32) (N : Nat) (h : px_H), RS rc n c g K S F h0 h → LR c K S F rk rd → i ≤ n → 3 * c ≤ i → n < i + 3 * m → n < i + N → (rp_lp g n m i c rk rd).1 = true → (rp_lp g n m i c rk rd).2.1 = n →
    ∃ (h' : px_H) (K' S' F' : Nat → Int32), fn_Rule_read_L7 rc N (Int32.ofNat i) h = some h' ∧ RS rc n (rp_lp g n m i c rk rd).2.2.1 g K' S' F' h0 h' ∧ LR (rp_lp g n m i c rk rd).2.2.1 K' S' F' (rp_lp g n m i c rk rd).2.2.2.1 (rp_lp g n m i c rk rd).2.2.2.2 := by
  intro m
  induction m with
  | zero => intro i c K S F rk rd N h A hL h1 h2 h3; omega
  | succ m ih =>
    intro i c K S F rk rd N h A hL hi hc hm hN hg ha
    cases hk : rp_k g n i with
    | none =>
      rw [show rp_lp g n (m + 1) i c rk rd = (false, rp_kf g n i, c, rk, rd) from by simp only [rp_lp, hk]] at hg
      cases hg
    | some q =>
      obtain ⟨k, a⟩ := q
      have hl := rp_k_le hk
      cases hd : rp_d g n (i + a) with
      | none =>
        rw [show rp_lp g n (m + 1) i c rk rd = (false, i + a, c, rk, rd) from by simp only [rp_lp, hk, hd]] at hg
        cases hg
      | some d =>
        have hdl := rp_d_lt hd
        obtain ⟨f1, f2⟩ := fR_of hd
        obtain ⟨N, rfl⟩ : ∃ M, N = M + 1 + a := ⟨N - 1 - a, by omega⟩
        obtain ⟨h1, k0, s0, S1, e1, A1, r1, r2, r3⟩ := rd_beg (N := N + 1) hrc A (by omega) (by omega) hk
        obtain ⟨h2, e2, A2⟩ := rd_fate (N := N) hrc A1 (by omega) hdl (by omega) f1
        have L2 := LR_up hL r1 f2 r2 r3
        cases hb : rp_b g n (i + a + 1) 59 with
        | true =>
          have hbl := rp_b_lt hb
          have hb2 : g (i + a + 1) = 59 := by
            simp only [rp_b, Bool.and_eq_true, decide_eq_true_eq] at hb
            exact hb.2
          rw [show rp_lp g n (m + 1) i c rk rd = rp_lp g n m (i + a + 2) (c + 1) (upd rk c k) (upd rd c d) from by simp only [rp_lp, hk, hd, hb, cond_true]] at hg ha ⊢
          obtain ⟨N, rfl⟩ : ∃ M, N = M + 1 := ⟨N - 1, by omega⟩
          have c7 : c + 1 < 7 := by omega
          have e3 := rd_semi (N := N) hrc A2 (by omega) hbl c7 hb2
          obtain ⟨h', K', S', F', q1, q2, q3⟩ := ih (i + a + 2) (c + 1) _ _ _ _ _ N h2 A2 L2 (by omega) (by omega) (by omega) (by omega) hg ha
          exact ⟨h', K', S', F', by rw [e1, e2, e3, q1], q2, q3⟩
        | false =>
          rw [show rp_lp g n (m + 1) i c rk rd = (true, i + a + 1, c + 1, upd rk c k, upd rd c d) from by simp only [rp_lp, hk, hd, hb, cond_false]] at hg ha ⊢
          simp only at ha
          obtain ⟨N, rfl⟩ : ∃ M, N = M + 1 := ⟨N - 1, by omega⟩
          refine ⟨h2, _, _, _, ?_, A2, L2⟩
          rw [e1, e2]
          show fb_Rule_read_L7 rc (fn_Rule_read_L7 rc N) (Int32.ofNat (i + a + 1)) h2 = _
          unfold fb_Rule_read_L7
          rw [A2.2.1, ge_nat (by omega) (by omega), decide_eq_true (show n ≤ i + a + 1 by omega), cond_true]
/-- a text that can stand is read -/
theorem rd_read (hrc : rc ∈ rcl) (o : oS h) {rk rd : Nat → Int32} (hn : gI h 12 1 = Int32.ofNat n) (hP : LPt (aI h 13) n c rk rd) : ∃ h', fn_Rule_read rc h = some h' ∧ oS h' ∧ fz (Wrc rc) (Vrc rc) h h' ∧ gI h' rc 3 = Int32.ofNat c ∧ ∀ k, k < c → kR (aI h' (rc + 1) k) (aI h' (rc + 2) k) (rk k) ∧ fR (aI h' (rc + 3) k) (rd k) := by
  unfold fn_Rule_read
  simp only [sb]
  have o1 : oS (wF h rc 3 (.int (Int32.ofInt 0))) := oS_wI (cs := rcl) (ci := 3) rfl hrc o
  have f1 : fz (Wrc rc) (Vrc rc) h (wF h rc 3 (.int (Int32.ofInt 0))) := fz_wF (by unfold Wrc; rw [Nat.beq_refl]; rfl)
  have g1 : gI (wF h rc 3 (.int (Int32.ofInt 0))) rc 3 = Int32.ofInt 0 := gI_wF (cs := rcl) (ci := 3) rfl hrc o
  have g2 : gI (wF h rc 3 (.int (Int32.ofInt 0))) 12 1 = Int32.ofNat n := (gI_wF_ne (by have := rc_ne hrc; omega)).trans hn
  have g3 : aI (wF h rc 3 (.int (Int32.ofInt 0))) 13 = aI h 13 := aI_wF
  generalize wF h rc 3 (.int (Int32.ofInt 0)) = h1 at o1 f1 g1 g2 g3 ⊢
  rcases hP with ⟨rfl, rfl⟩ | ⟨p1, p2, rk0, rd0, hq⟩
  · obtain ⟨N, hN⟩ : ∃ k, fu = k + 1 := ⟨fu - 1, by have := fu_lt (m := 1) (by omega); omega⟩
    refine ⟨h1, ?_, o1, f1, g1, fun k hk => by omega⟩
    rw [hN]
    show fb_Rule_read_L7 rc (fn_Rule_read_L7 rc N) (Int32.ofInt 0) h1 = _
    unfold fb_Rule_read_L7
    rw [g2, show px_cmp .ge (Int32.ofInt 0) (Int32.ofNat 0) = true from by decide, cond_true]
  · have A : RS rc n 0 (aI h 13) (aI h1 (rc + 1)) (aI h1 (rc + 2)) (aI h1 (rc + 3)) h h1 := ⟨o1, g2, g3, g1, rfl, rfl, rfl, f1⟩
    have hf := fu_lt (m := 50) (by omega)
    obtain ⟨h', K', S', F', q1, q2, q3⟩ := rd_loop hrc p2 7 0 0 _ _ _ rk0 rd0 fu h1 A (fun k hk => by omega) (by omega) (by omega) (by omega) (by omega) (by rw [hq]) (by rw [hq])
    rw [hq] at q2 q3
    obtain ⟨b1, b2, b3, b4, b5, b6, b7, b8⟩ := q2
    exact ⟨h', q1, b1, b8, b4, by rw [b5, b6, b7]; exact q3⟩
end sy_X
/-! both read -/
section sy_Y
variable {hX hM : px_H}
def Wri (rc c k : Nat) : Bool := Wrc rc c k || Wtx c k
/-- a text read into a rule of the class, and at a place of the model -/
theorem sim_reads {rc r n : Nat} (hrc : rc ∈ rcl) (hr : r < 4) (oX : oS hX) (oM : oS hM) (n4 : n ≤ 40) (t1 : gI hX 12 1 = Int32.ofNat n) (t2 : gI hM 69 22 = Int32.ofNat n) (t3 : ∀ i, i < 40 → aI hX 13 i = aI hM 85 i) :
    ∃ (v : Int32) (hX' hM' : px_H), fn_X_readInto rc hX = some (v, hX') ∧ fn_M_readsRule (Int32.ofNat r) hM = some (v, hM') ∧ oS hX' ∧ oS hM' ∧ fz (Wri rc) (Vrc rc) hX hX' ∧ fz Wru Vru hM hM' ∧ gI hX' 12 1 = Int32.ofNat 0 ∧ gI hM' 69 22 = Int32.ofNat 0 ∧
      ((px_cmp .lt v 0 = false ∧ ∃ c, c ≤ 7 ∧ v = Int32.ofNat c ∧ gI hX' rc 3 = Int32.ofNat c ∧ aI hM' 81 = upd (aI hM 81) r (Int32.ofNat c) ∧ aI hM' 82 = upd (aI hM 82) r (Int32.ofInt 1) ∧ (∀ k, k < c → kR (aI hX' (rc + 1) k) (aI hX' (rc + 2) k) (aI hM' 83 (7 * r + k)) ∧ fR (aI hX' (rc + 3) k) (aI hM' 84 (7 * r + k))) ∧ ∀ j, ¬ (7 * r ≤ j ∧ j < 7 * r + 7) → aI hM' 83 j = aI hM 83 j ∧ aI hM' 84 j = aI hM 84 j) ∨
       (px_cmp .lt v 0 = true ∧ fz Wtx V0 hX hX' ∧ aI hM' 81 = aI hM 81 ∧ aI hM' 82 = aI hM 82 ∧ aI hM' 83 = aI hM 83 ∧ aI hM' 84 = aI hM 84)) := by
  obtain ⟨v, hM', e1, o2, f2, g2, alt⟩ := tx_reads hr oM n4 t2
  have hxe : xf (aI hX 13) (min n 20) n 21 0 0 = xf (aI hM 85) (min n 20) n 21 0 0 := by
    have cg : ∀ (m q i : Nat), xf (aI hX 13) (min n 20) n m q i = xf (aI hM 85) (min n 20) n m q i := by
      intro m
      induction m with
      | zero => intro q i; rfl
      | succ m ih =>
        intro q i
        unfold xf
        by_cases hi : i < min n 20
        · rw [if_pos hi, if_pos hi, t3 i (by omega)]
          cases rp_bh q (aI hM 85 i) with
          | none => rfl
          | some q' => exact ih q' (i + 1)
        · rw [if_neg hi, if_neg hi]
    exact cg 21 0 0
  have bd := xf_bd (g := aI hM 85) (w := min n 20) (n := n) (by omega) 21 0 0
  have hge : px_cmp .ge (Int32.ofInt (xf (aI hM 85) (min n 20) n 21 0 0)) 0 = decide (0 ≤ xf (aI hM 85) (min n 20) n 21 0 0) := by
    rw [cmp_ge, toInt_oI (by omega) (by omega), show (0 : Int32).toInt = 0 from by decide]
  unfold fn_X_readInto
  rw [tx_first t1 n4, hxe, Option.bind_some, hge]
  rcases alt with ⟨hx, c, rk, rd, c7, rfl, hP, k1, k2, k3⟩ | ⟨hx, hv, k1, k2, k3, k4⟩
  · rw [decide_eq_false (by omega), cond_false]
    have hP' : LPt (aI hX 13) n c rk rd := by
      rcases hP with h | ⟨p1, p2, rk0, rd0, hq⟩
      · exact Or.inl h
      · refine Or.inr ⟨p1, p2, rk0, rd0, ?_⟩
        have b : ∀ (i : Nat) (s : Int32), rp_b (aI hX 13) n i s = rp_b (aI hM 85) n i s := by
          intro i s
          unfold rp_b
          by_cases hi : i < n
          · rw [t3 i (by omega)]
          · rw [decide_eq_false hi, Bool.false_and, Bool.false_and]
        have kk : ∀ i, rp_k (aI hX 13) n i = rp_k (aI hM 85) n i := by
          intro i
          unfold rp_k
          rw [b, b, b, b]
          by_cases hi : i + 1 < n
          · rw [t3 (i + 1) (by omega)]
          · rw [decide_eq_false hi, Bool.false_and, Bool.false_and, Bool.and_false]
            rfl
        have dd : ∀ i, rp_d (aI hX 13) n i = rp_d (aI hM 85) n i := by
          intro i
          unfold rp_d
          rw [b, b, b]
        have lp : ∀ (m i c : Nat) (rk rd : Nat → Int32), rp_lp (aI hX 13) n m i c rk rd = rp_lp (aI hM 85) n m i c rk rd := by
          intro m
          induction m with
          | zero => intro i c rk rd; rfl
          | succ m ih =>
            intro i c rk rd
            unfold rp_lp
            rw [kk]
            cases rp_k (aI hM 85) n i with
            | none => simp only [rp_kf, b]
            | some q =>
              obtain ⟨k, a⟩ := q
              simp only
              rw [dd]
              cases rp_d (aI hM 85) n (i + a) with
              | none => rfl
              | some d =>
                simp only
                rw [b, ih]
        rw [lp]
        exact hq
    obtain ⟨h1, q1, q2, q3, q4, q5⟩ := rd_read hrc oX t1 hP'
    have nr := rc_ne hrc
    have t1' : gI h1 12 1 = Int32.ofNat n := (fz_gI q3 (by unfold Wrc; rw [show Nat.beq 12 rc = false from rc_b hrc]; rfl)).trans t1
    rw [q1, Option.bind_some, tx_cut q2 n4 t1', show decide (0 ≤ (Int32.ofInt 0).toInt ∧ (Int32.ofInt 0).toInt ≤ (n : Int)) = true from decide_eq_true ⟨by decide, by rw [show (Int32.ofInt 0).toInt = 0 from by decide]; omega⟩, cond_true, Option.bind_some, cond_false]
    have f3 : fz (Wri rc) (Vrc rc) h1 (wF h1 12 1 (.int (Int32.ofInt 0))) := fz_wF (by unfold Wri Wtx; simp)
    have f4 : fz (Wri rc) (Vrc rc) hX h1 := fz_mono q3 (fun _ _ h => by unfold Wri at h; simp only [Bool.or_eq_false_iff] at h; exact h.1) (fun _ h => h)
    have g4 : gI (wF h1 12 1 (.int (Int32.ofInt 0))) rc 3 = Int32.ofNat c := (gI_wF_ne (by omega)).trans q4
    refine ⟨Int32.ofNat c, wF h1 12 1 (.int (Int32.ofInt 0)), hM', ?_, e1, oS_wI (cs := [12]) (ci := 5) rfl List.mem_cons_self q2, o2, fz_tr f4 f3, f2, gI_wF (cs := [12]) (ci := 5) rfl List.mem_cons_self q2, g2, Or.inl ⟨?_, c, c7, rfl, g4, k1, k2, fun k hk => ?_, fun j hj => ?_⟩⟩
    · show some (gI (wF h1 12 1 (.int (Int32.ofInt 0))) rc 3, wF h1 12 1 (.int (Int32.ofInt 0))) = _
      rw [g4]
    · exact (lt_nat (b := 0) (by omega) (by omega)).trans (decide_eq_false (by omega))
    · rw [aI_wF, aI_wF, aI_wF, (k3 _).1, (k3 _).2, if_pos (by omega), if_pos (by omega), show 7 * r + k - 7 * r = k from by omega]
      exact q5 k hk
    · rw [(k3 _).1, (k3 _).2, if_neg (by omega), if_neg (by omega)]
      exact ⟨rfl, rfl⟩
  · rw [decide_eq_true (by omega), cond_true, tx_cut oX n4 t1, show decide (0 ≤ (Int32.ofInt 0).toInt ∧ (Int32.ofInt 0).toInt ≤ (n : Int)) = true from decide_eq_true ⟨by decide, by rw [show (Int32.ofInt 0).toInt = 0 from by decide]; omega⟩, cond_true, Option.bind_some, cond_true]
    have hv2 : Int32.ofInt (-1) - Int32.ofInt (xf (aI hM 85) (min n 20) n 21 0 0) = v := by
      rw [hv, ← Int32.toInt_inj, Int32.toInt_sub, toInt_oI (show -2147483648 ≤ (-1 : Int) by omega) (by omega), toInt_oI (show -2147483648 ≤ xf (aI hM 85) (min n 20) n 21 0 0 by omega) (by omega), toInt_oI (by omega) (by omega), Int.bmod_eq_of_le] <;> omega
    rw [hv2]
    refine ⟨v, _, hM', rfl, e1, oS_wI (cs := [12]) (ci := 5) rfl List.mem_cons_self oX, o2, fz_wF (by unfold Wri Wtx; simp), f2, gI_wF (cs := [12]) (ci := 5) rfl List.mem_cons_self oX, g2, Or.inr ⟨?_, fz_wF rfl, k1, k2, k3, k4⟩⟩
    rw [hv, lt0, toInt_oI (by omega) (by omega)]
    exact decide_eq_true (by omega)
end sy_Y
end mg_3

section mg_4
/-! debt and sheet: the debts -/
def sd_R (hp : px_H) : Prop := ∃ (z : Int32) (f g : Nat → Int32), ac_fv hp 1 0 = some (.int z) ∧ ac_fv hp 69 3 = some (.int z) ∧ hp[3]? = some (.inl (13, 10, .inl f)) ∧ hp[na_owes]? = some (.inl (nr_owes, 10, .inl g)) ∧ ∀ i : Nat, i < 10 → f i = g i ∧ (z.toInt ≤ i → f i = 0)
def sd_Rf (ws : List (Nat × Nat)) (wa : List Nat) : Bool := !(ac_has ws 1 0) && (!(ac_has ws 69 3) && (!(ac_in 3 wa) && !(ac_in na_owes wa)))
theorem sd_R_fr {ws : List (Nat × Nat)} {wa : List Nat} {hp hp' : px_H} (h : px_fr ws wa hp hp') (hw : sd_Rf ws wa = true) (hR : sd_R hp) : sd_R hp' := by
  simp only [sd_Rf, Bool.and_eq_true, Bool.not_eq_true'] at hw
  obtain ⟨z, f, g, h1, h2, h3, h4, h5⟩ := hR
  exact ⟨z, f, g, ex_fv_fr h hw.1 h1, ex_fv_fr h hw.2.1 h2, h.1 _ _ (ac_in_no hw.2.2.1) h3, h.1 _ _ (ac_in_no hw.2.2.2) h4, h5⟩
theorem sd_R_arr {hp : px_H} {x y : Nat × vp_A} (hx : hp[105]? = some (.inl x)) (hR : sd_R hp) : sd_R (hp.set 105 (.inl y)) := by
  obtain ⟨z, f, g, h1, h2, h3, h4, h5⟩ := hR
  exact ⟨z, f, g, by rw [ac_fv_arr hx]; exact h1, by rw [ac_fv_arr hx]; exact h2, by rw [List.getElem?_set_ne (by decide)]; exact h3, by rw [List.getElem?_set_ne (by decide)]; exact h4, h5⟩
set_option maxRecDepth 1000000 in
theorem sd_R0 : sd_R nm_H1 := ⟨0, _, _, rfl, rfl, rfl, rfl, fun i hi => ⟨rfl, fun _ => rfl⟩⟩
/-- what two calls leave -/
def sd_twoR (X M : Nat) (cmp : Bool) (a a' : Nat) (t : List Value) (hp : px_H) : Prop :=
  ∃ (v v' : Int32) (hp1 hp2 : px_H), px_C nm_T nm_P X (.ref a :: t) hp (some (.int v)) hp1 ∧ ab_h nm_GH hp1 ∧ px_C nm_T nm_P M (.ref a' :: t) hp1 (some (.int v')) hp2 ∧ ab_h nm_GH hp2 ∧ (cmp = true → v = v') ∧ sd_R hp2
theorem di_no : ∀ κ ∈ ([] : List ac_K), nm_ok κ := fun _ h => absurd h List.not_mem_nil
def di_B (c d : Nat) (z : Int) : ac_S := ([(0, ((2, 0, 0, [c]), none)), (1, ((0, -2147483648, 2147483647, []), some (2, 1, 0))), (2, ((0, -2147483648, 2147483647, []), some (2, 2, 0)))], [((0, 0, z - 1, []), some (2, 1, 0)), ((2, 0, 0, [d]), none)], [], [], [], [])
set_option maxRecDepth 1000000 in
theorem di_t : (List.range 11).all (fun z => ex_ps (-1) 28 32 (di_B 0 3 (z : Nat)) (di_B 69 72 (z : Nat)) (ex_runS [] [] [] [] mi_X_debt mm_X_debt kc_X_debt_0.2.1 [(1, 0, 0, (z : Nat), (z : Nat), [])] [28]) (ex_runS [] [] [(69, 0)] [] mi_M_debt mm_M_debt kc_M_debt_0.2.1 [(69, 3, 0, (z : Nat), (z : Nat), [])] [32])) = true := by decide +kernel
theorem di_bd {hp : px_H} (hG : ab_h nm_GH hp) {z : Int32} (h : ac_fv hp 1 0 = some (.int z)) : 0 ≤ z.toInt ∧ z.toInt ≤ 10 := by
  obtain ⟨w, w1, w2, w3⟩ := ex_fv (c := 1) (k := 0) (by decide +kernel) hG
  rw [h] at w1
  cases w1
  exact ⟨w2, w3⟩
theorem sd_debt {hp : px_H} {a1 a2 : Int32} (hG : ab_h nm_GH hp) (hR : sd_R hp) : sd_twoR mi_X_debt mi_M_debt true 0 69 [.int a1, .int a2] hp := by
  have hR0 := hR
  obtain ⟨z, f, g, h1, h2, h3, h4, h5⟩ := hR
  obtain ⟨z0, z9⟩ := di_bd hG h1
  have t := List.all_eq_true.mp di_t z.toInt.toNat (List.mem_range.mpr (by omega))
  have e1 : ((z.toInt.toNat : Nat) : Int) ≤ z.toInt := by omega
  have e2 : z.toInt ≤ ((z.toInt.toNat : Nat) : Int) := by omega
  rcases ex_hyb di_no di_no rfl rfl (Nat.le_of_ble_eq_true rfl) (Nat.le_of_ble_eq_true rfl) t hG (a := 0) (a' := 69) (tl := [.int a1, .int a2]) ⟨⟨rfl, List.mem_cons_self⟩, ⟨rfl, ab_i32 _⟩, ⟨rfl, ab_i32 _⟩, trivial⟩ ⟨⟨rfl, List.mem_cons_self⟩, ⟨rfl, ab_i32 _⟩, ⟨rfl, ab_i32 _⟩, trivial⟩ (ex_ov1 h1 e1 e2) with ⟨v, hp1, c1, v1, g1, f1, hM⟩ | ⟨lv, st, hp1, γ, s1, f1, hX, hM⟩
  · have hR1 := sd_R_fr f1 (by decide) hR0
    obtain ⟨v', hp2, c2, v2, g2, f2⟩ := hM hp1 g1 (ex_ov1 (ex_fv_fr f1 (by decide) h2) e1 e2)
    exact ⟨v, v', hp1, hp2, c1, g1, c2, g2, fun _ => by rw [← Int32.toInt_inj, v1, v2], sd_R_fr f2 (by decide) hR1⟩
  · obtain ⟨b1, b2, b3, -⟩ := s1
    obtain ⟨u0, l0, o0⟩ := b1 0 _ (List.mem_cons_self)
    obtain ⟨u1, l1, o1⟩ := b1 1 _ (List.mem_cons_of_mem _ List.mem_cons_self)
    obtain ⟨u2, l2, o2⟩ := b1 2 _ (List.mem_cons_of_mem _ (List.mem_cons_of_mem _ List.mem_cons_self))
    obtain ⟨c0, rfl, e0⟩ := ab_f2 o0.1
    cases List.mem_singleton.mp e0
    obtain ⟨rfl, -, -⟩ := ex_org o1
    obtain ⟨rfl, -, -⟩ := ex_org o2
    have x1 : ac_xs [.ref 0, .int a1, .int a2] 1 = a1 := rfl
    have x2 : ac_xs [.ref 0, .int a1, .int a2] 2 = a2 := rfl
    rw [x1] at l1
    rw [x2] at l2
    match st, b2, hX with
    | [w1, w2], ⟨s1, s2, _⟩, hX =>
      obtain ⟨rfl, p0, p9⟩ := ex_org s1
      obtain ⟨c6, rfl, e6⟩ := ab_f2 s2.1
      cases List.mem_singleton.mp e6
      rw [x1] at hX p0 p9
      have p8 : a1.toInt ≤ ((z.toInt.toNat : Nat) : Int) - 1 := p9
      obtain ⟨fs0, hx0, -, -⟩ := ac_obj b3 (c := 0) rfl
      obtain ⟨fs1, hx1, -, -⟩ := ac_obj b3 (c := 1) rfl
      have h3' : hp1[3]? = some (.inl (13, 10, .inl f)) := f1.1 _ _ (by decide) h3
      have h4' : hp1[na_owes]? = some (.inl (nr_owes, 10, .inl g)) := f1.1 _ _ (by decide) h4
      have h1' := ex_fv_fr f1 (by decide) h1
      have h2' := ex_fv_fr f1 (by decide) h2
      have hgX : ab_h nm_GH (hp1.set 3 (.inl (13, 10, .inl (upd f a1.toNatClampNeg a2)))) := ac_h_arr b3 h3' rfl ⟨rfl, rfl, fun j _ => ⟨rfl, ab_i32 _⟩⟩
      have cX : px_C nm_T nm_P mi_X_debt [.ref 0, .int a1, .int a2] hp (some (.int (f a1.toNatClampNeg))) (hp1.set 3 (.inl (13, 10, .inl (upd f a1.toNatClampNeg a2)))) := by
        refine hX _ _ ?_
        refine px_q_iald (len := 1) rfl h3' rfl (nm_ixR a1 10 p0 (by omega)) ?_
        refine px_Z_its (pc1 := 30) (lv1 := px_st1 lv 3 (.int (f a1.toNatClampNeg))) (st1 := []) (hp1 := hp1) 1 (fun _ _ _ _ => rfl) ?_
        refine px_q_aln (len := 1) (j := 0) rfl (px_st1_nr l0) ?_
        refine px_q_get (len := 3) (ci := 8) (k := 0) (fs := fs0) (v := .ref 1) rfl rfl hx0 (ac_refF b3 (ci := 8) (k := 0) (c := 0) (d := 1) rfl hx0) ?_
        refine px_q_get (len := 3) (ci := 6) (k := 2) (fs := fs1) (v := .ref 3) rfl rfl hx1 (ac_refF b3 (ci := 6) (k := 2) (c := 1) (d := 3) rfl hx1) ?_
        refine px_q_iln (len := 1) (j := 1) rfl (px_st1_ne l1) ?_
        refine px_q_iln (len := 1) (j := 2) rfl (ab_sto1_find l2 (by decide) (fun _ hc => by cases hc)) ?_
        refine px_q_iast (len := 1) rfl h3' rfl (nm_ixR a1 10 p0 (by omega)) ?_
        refine px_q_iln (pc := 40) (len := 1) (j := 3) rfl (px_st1_at _ _ _) ?_
        exact px_q_iret (len := 1) (ty := .int) rfl rfl rfl
      have h2q : ac_fv (hp1.set 3 (.inl (13, 10, .inl (upd f a1.toNatClampNeg a2)))) 69 3 = some (.int z) := by rw [ac_fv_arr h3']; exact h2'
      have h1q : ac_fv (hp1.set 3 (.inl (13, 10, .inl (upd f a1.toNatClampNeg a2)))) 1 0 = some (.int z) := by rw [ac_fv_arr h3']; exact h1'
      have h4q : (hp1.set 3 (.inl (13, 10, .inl (upd f a1.toNatClampNeg a2))))[na_owes]? = some (.inl (nr_owes, 10, .inl g)) := by rw [List.getElem?_set_ne (by decide)]; exact h4'
      have h3q : (hp1.set 3 (.inl (13, 10, .inl (upd f a1.toNatClampNeg a2))))[3]? = some (.inl (13, 10, .inl (upd f a1.toNatClampNeg a2))) := List.getElem?_set_self (List.getElem?_eq_some_iff.mp h3').1
      generalize hp1.set 3 (.inl (13, 10, .inl (upd f a1.toNatClampNeg a2))) = hq at hgX cX h1q h2q h3q h4q
      obtain ⟨lv2, st2, hq1, γ2, s9, f2, hMc⟩ := hM hq hgX (ex_ov1 h2q e1 e2)
      obtain ⟨y1, y2, y3, -⟩ := s9
      obtain ⟨t0, k0, i0⟩ := y1 0 _ (List.mem_cons_self)
      obtain ⟨t1, k1, i1⟩ := y1 1 _ (List.mem_cons_of_mem _ List.mem_cons_self)
      obtain ⟨t2, k2, i2⟩ := y1 2 _ (List.mem_cons_of_mem _ (List.mem_cons_of_mem _ List.mem_cons_self))
      obtain ⟨c1, rfl, e1'⟩ := ab_f2 i0.1
      cases List.mem_singleton.mp e1'
      obtain ⟨rfl, -, -⟩ := ex_org i1
      obtain ⟨rfl, -, -⟩ := ex_org i2
      rw [x1] at k1
      rw [x2] at k2
      match st2, y2, hMc with
      | [w3, w4], ⟨s3, s4, _⟩, hMc =>
        obtain ⟨rfl, -, -⟩ := ex_org s3
        obtain ⟨c75, rfl, e75⟩ := ab_f2 s4.1
        cases List.mem_singleton.mp e75
        rw [x1] at hMc
        obtain ⟨fs, hx, -, -⟩ := ac_obj y3 (c := 69) rfl
        have h4r : hq1[na_owes]? = some (.inl (nr_owes, 10, .inl g)) := f2.1 _ _ (by decide) h4q
        have h3r := f2.1 3 _ (by decide) h3q
        have h1r := ex_fv_fr f2 (by decide) h1q
        have h2r := ex_fv_fr f2 (by decide) h2q
        have hn : a1.toNatClampNeg < 10 := by unfold Int32.toNatClampNeg; omega
        refine ⟨f a1.toNatClampNeg, g a1.toNatClampNeg, hq, hq1.set na_owes (.inl (nr_owes, 10, .inl (upd g a1.toNatClampNeg a2))), cX, hgX, ?_, ac_h_arr y3 h4r rfl ⟨rfl, rfl, fun j _ => ⟨rfl, ab_i32 _⟩⟩, fun _ => (h5 _ hn).1, z, _, _, by rw [ac_fv_arr h4r]; exact h1r, by rw [ac_fv_arr h4r]; exact h2r, by rw [List.getElem?_set_ne (by decide)]; exact h3r, List.getElem?_set_self (List.getElem?_eq_some_iff.mp h4r).1, fun i hi => ?_⟩
        · refine hMc _ _ ?_
          refine px_q_iald (len := 1) rfl h4r rfl (nm_ixR a1 10 p0 (by omega)) ?_
          refine px_Z_its (pc1 := 34) (lv1 := px_st1 lv2 3 (.int (g a1.toNatClampNeg))) (st1 := []) (hp1 := hq1) 1 (fun _ _ _ _ => rfl) ?_
          refine px_q_aln (len := 1) (j := 0) rfl (px_st1_nr k0) ?_
          refine px_q_get (len := 3) (ci := 9) (k := nf_owes) (fs := fs) (v := .ref na_owes) rfl rfl hx (nm_f y3 hx rfl) ?_
          refine px_q_iln (len := 1) (j := 1) rfl (px_st1_ne k1) ?_
          refine px_q_iln (len := 1) (j := 2) rfl (ab_sto1_find k2 (by decide) (fun _ hc => by cases hc)) ?_
          refine px_q_iast (len := 1) rfl h4r rfl (nm_ixR a1 10 p0 (by omega)) ?_
          refine px_q_iln (pc := 41) (len := 1) (j := 3) rfl (px_st1_at _ _ _) ?_
          exact px_q_iret (len := 1) (ty := .int) rfl rfl rfl
        · have hne : z.toInt ≤ i → i ≠ a1.toNatClampNeg := fun h e => by
            have : a1.toNatClampNeg = a1.toInt.toNat := rfl
            omega
          simp only [upd]
          split
          · rename_i e
            exact ⟨rfl, fun h => absurd e (hne h)⟩
          · exact h5 i hi
/-! person -/
def dp_B (z : Int) : ac_S := ([], [((0, 0, 5, []), none), ((2, 0, 0, [1]), none)], [(1, 0, 0, z, min z 9, [])], [], [], [])
def dp_M (z : Int) : ac_S := ([(0, ((2, 0, 0, [69]), none))], [((0, 0, 0, []), none), ((0, z, z, []), none), ((2, 0, 0, [72]), none)], [(69, 3, 0, z, z, [])], [], [], [])
def dp_N (z : Int) : ac_S := ([(0, ((2, 0, 0, [69]), none))], [], [(69, 3, 0, z, z, [])], [], [], [])
set_option maxRecDepth 1000000 in
theorem dp_t : (List.range 11).all (fun z => ex_ps (-1) 29 47 (dp_B (z : Nat)) (dp_M (z : Nat)) (ex_runS [] [] [] [] mi_X_person mm_X_person kc_X_person_0.2.1 [(1, 0, 0, (z : Nat), (z : Nat), [])] [29]) (ex_runS [] [] [(69, 0)] [na_home] mi_M_person mm_M_person kc_M_person_0.2.1 [(69, 3, 0, (z : Nat), (z : Nat), [])] [47])) = true := by decide +kernel
def dp_g (z : Int) : Bool := match ac_run nm_T nm_P nm_GH nm_FA [] [] [(1, 0)] [2, 4, 5, 6] 20000 false [] mi_X_person mm_X_person 29 (dp_B z) with
  | some (os, []) => os.all (ex_rz z 1 0 (z + 1))
  | _ => false
def dp_h (z : Int) : Bool := match ac_run nm_T nm_P nm_GH nm_FA [] [] [(69, 3)] [na_goneFrom, na_goneTo, na_dead] 20000 false [] mi_M_person mm_M_person 48 (dp_N z) with
  | some (os, []) => os.all (ex_rz z 69 3 (z + 1))
  | _ => false
set_option maxRecDepth 1000000 in
theorem dp_u : (List.range 10).all (fun z => dp_g (z : Nat) && dp_h (z : Nat)) = true := by decide +kernel
theorem sd_person {hp : px_H} {a1 : Int32} (hG : ab_h nm_GH hp) (hR : sd_R hp) : sd_twoR mi_X_person mi_M_person true 0 69 [.int a1] hp := by
  have hR0 := hR
  obtain ⟨z, f, g, h1, h2, h3, h4, h5⟩ := hR
  obtain ⟨z0, z9⟩ := di_bd hG h1
  have t := List.all_eq_true.mp dp_t z.toInt.toNat (List.mem_range.mpr (by omega))
  have e1 : ((z.toInt.toNat : Nat) : Int) ≤ z.toInt := by omega
  have e2 : z.toInt ≤ ((z.toInt.toNat : Nat) : Int) := by omega
  rcases ex_hyb di_no di_no rfl rfl (Nat.le_of_ble_eq_true rfl) (Nat.le_of_ble_eq_true rfl) t hG (a := 0) (a' := 69) (tl := [.int a1]) ⟨⟨rfl, List.mem_cons_self⟩, ⟨rfl, ab_i32 _⟩, trivial⟩ ⟨⟨rfl, List.mem_cons_self⟩, ⟨rfl, ab_i32 _⟩, trivial⟩ (ex_ov1 h1 e1 e2) with ⟨v, hp1, c1, v1, g1, f1, hM⟩ | ⟨lv, st, hp1, γ, s1, f1, hX, hM⟩
  · have hR1 := sd_R_fr f1 (by decide) hR0
    obtain ⟨v', hp2, c2, v2, g2, f2⟩ := hM hp1 g1 (ex_ov1 (ex_fv_fr f1 (by decide) h2) e1 e2)
    exact ⟨v, v', hp1, hp2, c1, g1, c2, g2, fun _ => by rw [← Int32.toInt_inj, v1, v2], sd_R_fr f2 (by decide) hR1⟩
  · have h1' := ex_fv_fr f1 (by decide) h1
    have zz := s1.2.2.2.1 (1, 0, 0, ((z.toInt.toNat : Nat) : Int), min ((z.toInt.toNat : Nat) : Int) 9, []) List.mem_cons_self (.int z) h1'
    have z8 : z.toInt ≤ min ((z.toInt.toNat : Nat) : Int) 9 := zz.2.2
    have z8 : z.toInt ≤ 9 := by omega
    have u := List.all_eq_true.mp dp_u z.toInt.toNat (List.mem_range.mpr (by omega))
    simp only [Bool.and_eq_true] at u
    obtain ⟨u1, u2⟩ := u
    unfold dp_g at u1
    split at u1
    rotate_left
    · cases u1
    rename_i os hos
    obtain ⟨r, hp4, q, n1, n2, n3, n4⟩ := ex_goOn di_no hos s1
    have hz := List.all_eq_true.mp u1 q n1
    simp only [ex_rz, Bool.and_eq_true] at hz
    obtain ⟨v, rfl, hv⟩ := ex_rt_ok hz.1 n3
    obtain ⟨v9, w, e9, w1, w2⟩ := ex_ze_ok (by decide +kernel) hz.2 n3
    have h3q : hp4[3]? = some (.inl (13, 10, .inl f)) := n4.1 _ _ (by decide) (f1.1 _ _ (by decide) h3)
    have h4q : hp4[na_owes]? = some (.inl (nr_owes, 10, .inl g)) := n4.1 _ _ (by decide) (f1.1 _ _ (by decide) h4)
    have h2q := ex_fv_fr n4 (by decide) (ex_fv_fr f1 (by decide) h2)
    obtain ⟨lv2, st2, hq1, γ3, s9, f2, hMc⟩ := hM hp4 n3.2.1 (ex_ov1 h2q e1 e2)
    have h4r : hq1[na_owes]? = some (.inl (nr_owes, 10, .inl g)) := f2.1 _ _ (by decide) h4q
    obtain ⟨b1, b2, b3, b4, -⟩ := s9
    match st2, b2, hMc with
    | [w3, w4, w5], ⟨t1, t2, t3, _⟩, hMc =>
      obtain ⟨k, rfl, hk⟩ := ab_f0 t1.1
      obtain ⟨j, rfl, hj⟩ := ab_f0 t2.1
      obtain ⟨c', rfl, e⟩ := ab_f2 t3.1
      cases List.mem_singleton.mp e
      have k1 : (0 : Int) ≤ k.toInt := hk.1
      have k2 : k.toInt ≤ (0 : Int) := hk.2
      have hk9 : k = 0 := by
        rw [← Int32.toInt_inj, Int32.toInt_zero]
        omega
      subst hk9
      have j1 : ((z.toInt.toNat : Nat) : Int) ≤ j.toInt := hj.1
      have j2 : j.toInt ≤ ((z.toInt.toNat : Nat) : Int) := hj.2
      have hjn : j.toNatClampNeg = z.toInt.toNat := by unfold Int32.toNatClampNeg; omega
      have hG2 : ab_h nm_GH (hq1.set na_owes (.inl (nr_owes, 10, .inl (upd g z.toInt.toNat 0)))) := ac_h_arr b3 (c := na_owes) h4r rfl (y := (nr_owes, 10, .inl (upd g z.toInt.toNat 0))) ⟨rfl, rfl, fun j _ => ⟨rfl, ab_i32 _⟩⟩
      have hlv := ex_sA (hq1.set na_owes (.inl (nr_owes, 10, .inl (upd g z.toInt.toNat 0)))) (L := (dp_N ((z.toInt.toNat : Nat) : Int)).1) rfl b1
      have hov : ac_ov (dp_N ((z.toInt.toNat : Nat) : Int)).2.2.1 (hq1.set na_owes (.inl (nr_owes, 10, .inl (upd g z.toInt.toNat 0)))) := ex_ovA h4r b4
      have hc9 : (hq1.set na_owes (.inl (nr_owes, 10, .inl (upd g z.toInt.toNat 0))))[na_owes]? = some (.inl (nr_owes, 10, .inl (upd g z.toInt.toNat 0))) := List.getElem?_set_self (List.getElem?_eq_some_iff.mp h4r).1
      have h3r : (hq1.set na_owes (.inl (nr_owes, 10, .inl (upd g z.toInt.toNat 0))))[3]? = some (.inl (13, 10, .inl f)) := by rw [List.getElem?_set_ne (by decide)]; exact f2.1 _ _ (by decide) h3q
      have h1r : ac_fv (hq1.set na_owes (.inl (nr_owes, 10, .inl (upd g z.toInt.toNat 0)))) 1 0 = some (.int w) := by rw [ac_fv_arr h4r]; exact ex_fv_fr f2 (by decide) w1
      generalize hh : hq1.set na_owes (.inl (nr_owes, 10, .inl (upd g z.toInt.toNat 0))) = hpA at hG2 hlv hov hc9 h3r h1r
      unfold dp_h at u2
      split at u2
      rotate_left
      · cases u2
      rename_i os2 hos2
      obtain ⟨r', hp5, q', y1, y2, y3, y4⟩ := ex_goOn di_no hos2 (xs := ac_xs [.ref 0, .int a1]) (γ := fun _ => 0) (lv := lv2) (st := []) (hp := hpA) ⟨hlv, trivial, hG2, hov, fun j q hq => (by simp [dp_N] at hq), fun i hi => (by cases hi), fun q hq => (by cases hq)⟩
      have hz2 := List.all_eq_true.mp u2 q' y1
      simp only [ex_rz, Bool.and_eq_true] at hz2
      obtain ⟨v', rfl, hv'⟩ := ex_rt_ok hz2.1 y3
      obtain ⟨v8, w', e8, w1', w2'⟩ := ex_ze_ok (by decide +kernel) hz2.2 y3
      have hw : w = w' := by rw [← Int32.toInt_inj, w2, w2']
      subst hw
      refine ⟨v, v', hp4, hp5, hX _ _ n2, n3.2.1, hMc _ _ ?_, y3.2.1, fun _ => by rw [← Int32.toInt_inj, hv, hv'], w, f, upd g z.toInt.toNat 0, ex_fv_fr y4 (by decide) h1r, w1', y4.1 _ _ (by decide) h3r, y4.1 _ _ (by decide) hc9, fun i hi => ?_⟩
      · refine px_q_iast (len := 1) rfl h4r rfl (nm_ixR j 10 (by omega) (by omega)) ?_
        rw [hjn, hh]
        exact y2
      · have := h5 i hi
        refine ⟨?_, fun h => this.2 (by omega)⟩
        simp only [upd]
        split
        · rename_i e
          exact this.2 (by omega)
        · exact this.1
/-! sheet -/
theorem px_q_math {T : px_T} {X : Option (Nat × (Nat → Int32))} {P : List px_M} {M : px_M} {pc len idx w z1 : Nat} {z2 : Int} {lv : List (Nat × Value)} {st st' : List Value} {hp hp' : px_H} {r : Option Value} (hf : px_find pc (px_cd M) = some (len, .invokestatic idx)) (hj : px_find idx (px_cp M) = some (11, w, z1, z2)) (hm : px_math w st = some st') (h8 : ((st.drop 2).map fun v => v.category).sum ≤ 8)
    (hR : px_Z T X P M (pc + 3) lv st' hp r hp') : px_Z T X P M pc lv st hp r hp' := by
  obtain ⟨n0, k, h2⟩ := hR
  refine ⟨n0, 1 + k, fun m hm9 N0 nc ns q1 q2 => px_its_run 1 ?_ (h2 m hm9 N0 nc ns q1 q2)⟩
  simp only [px_its, px_step, hf, px_alu, hj, hm, decide_eq_true h8, decide_eq_true q1, decide_eq_true q2]
def sh_c9 : Int32 := (Int16.ofInt 999).toInt32
def sh_cv (k v : Int32) : Int32 := if k = 0 then v.toInt8.toInt32 else if k = 1 then v.toInt16.toInt32 else v
def sh_mn (v : Int32) : Int32 := if v < sh_c9 then v else sh_c9
def sh_cl (v : Int32) : Int32 := if (0 : Int32) < sh_mn v then sh_mn v else 0
/-- the entry at a place, what is noted there, and their sum -/
def sh_e (f step : Int32) : Nat → Int32
  | 0 => f
  | p + 1 => sh_e f step p + step
def sh_t (k n f step : Int32) (i : Nat) : Int32 := if k = 3 ∨ n.toInt ≤ i then 0 else sh_cl (sh_cv k (sh_e f step i))
def sh_s (k n f step : Int32) : Nat → Int32
  | 0 => 0
  | p + 1 => sh_s k n f step p + sh_t k n f step p
def sh_G (k n f step : Int32) (g : Nat → Int32) (p : Nat) : Nat → Int32 := fun i => if i < p then sh_t k n f step i else g i
theorem sh_G_up (k n f step : Int32) (g : Nat → Int32) (p : Nat) : upd (sh_G k n f step g p) p (sh_t k n f step p) = sh_G k n f step g (p + 1) := by
  funext i
  simp only [upd, sh_G]
  by_cases h1 : i = p
  · subst h1
    rw [if_pos rfl, if_pos (by omega)]
  · rw [if_neg h1]
    by_cases h2 : i < p
    · rw [if_pos h2, if_pos (by omega)]
    · rw [if_neg h2, if_neg (by omega)]
theorem sh_eq {x y : Int32} {c : ClassFile.Cond} (hc : c = .eq) : px_cmp c x y = decide (x = y) := by subst hc; rfl
theorem sh_ne {x y : Int32} : px_cmp .ne x y = decide (¬ x = y) := rfl
/-! the class: one day -/
theorem sh_tail (k v u : Int32) (hp : px_H) : px_Z nm_T none nm_P mm_X_dayOnSheet 20 [(2, .int u), (0, .int k), (1, .int v)] [] hp (some (.int (sh_cl u))) hp := by
  refine px_Z_its (pc1 := 25) (lv1 := [(2, .int u), (0, .int k), (1, .int v)]) (st1 := [.int u, .int sh_c9, .int 0]) (hp1 := hp) 3 (fun _ _ _ _ => rfl) ?_
  refine px_q_math (len := 3) (w := 1) (st' := [.int (sh_mn u), .int 0]) rfl rfl rfl (Nat.le_of_ble_eq_true rfl) ?_
  refine px_q_math (len := 3) (w := 0) (st' := [.int (sh_cl u)]) rfl rfl rfl (Nat.le_of_ble_eq_true rfl) ?_
  exact px_q_iret (len := 1) (ty := .int) rfl rfl rfl
theorem sh_day (k v : Int32) (hp : px_H) : px_C nm_T nm_P mi_X_dayOnSheet [.int k, .int v] hp (some (.int (sh_cl (sh_cv k v)))) hp := by
  refine px_C_of (N := mm_X_dayOnSheet) rfl (Nat.le_of_ble_eq_true rfl) ?_
  refine px_Z_its (pc1 := 3) (lv1 := [(2, .int v), (0, .int k), (1, .int v)]) (st1 := [.int k]) (hp1 := hp) 3 (fun _ _ _ _ => rfl) ?_
  unfold sh_cv
  by_cases h0 : k = 0
  · rw [if_pos h0]
    refine px_q_if (bb := false) (len := 3) (c := .ne) (off := 9) rfl (by rw [sh_ne]; simp [h0]) ?_
    refine px_Z_its (pc1 := 20) (lv1 := [(2, .int v.toInt8.toInt32), (0, .int k), (1, .int v)]) (st1 := []) (hp1 := hp) 4 (fun _ _ _ _ => rfl) ?_
    exact sh_tail _ _ _ _
  · rw [if_neg h0]
    refine px_q_if (bb := true) (len := 3) (c := .ne) (off := 9) rfl (by rw [sh_ne]; simp [h0]) ?_
    refine px_Z_its (pc1 := 14) (lv1 := [(2, .int v), (0, .int k), (1, .int v)]) (st1 := [.int 1, .int k]) (hp1 := hp) 2 (fun _ _ _ _ => rfl) ?_
    by_cases h1 : k = 1
    · rw [if_pos h1]
      refine px_q_icmp (bb := false) (len := 3) (c := .ne) (off := 6) rfl (by rw [sh_ne]; simp [h1]) ?_
      refine px_Z_its (pc1 := 20) (lv1 := [(2, .int v.toInt16.toInt32), (0, .int k), (1, .int v)]) (st1 := []) (hp1 := hp) 3 (fun _ _ _ _ => rfl) ?_
      exact sh_tail _ _ _ _
    · rw [if_neg h1]
      refine px_q_icmp (bb := true) (len := 3) (c := .ne) (off := 6) rfl (by rw [sh_ne]; simp [h1]) ?_
      exact sh_tail _ _ _ _
/-! the class: clearDebts -/
theorem sh_clr {z : Int32} {f : Nat → Int32} (z0 : 0 ≤ z.toInt) (z9 : z.toInt ≤ 10) : ∀ (m p : Nat) (lv : List (Nat × Value)) (hp : px_H), z.toInt = (p : Int) + m → ab_h nm_GH hp → ac_fv hp 1 0 = some (.int z) → hp[3]? = some (.inl (13, 10, .inl (fun i => if i < p then 0 else f i))) → px_find 0 lv = some (.ref 1) → px_find 1 lv = some (.int (Int32.ofNat p)) →
    ∃ hp' : px_H, px_Z nm_T none nm_P mm_Town_clearDebts 2 lv [] hp none hp' ∧ ab_h nm_GH hp' ∧ hp'[3]? = some (.inl (13, 10, .inl (fun i => if i < z.toInt.toNat then 0 else f i))) ∧ px_fr [] [3] hp hp' := by
  intro m
  induction m with
  | zero =>
    intro p lv hp hm hG h1 h3 l0 l1
    obtain ⟨fs1, hx1, -, -⟩ := ac_obj hG (c := 1) rfl
    have hz := dr_fvo hx1 h1
    have ei := nm_ofNat_toInt p (by omega)
    refine ⟨hp, ?_, hG, by rw [show z.toInt.toNat = p from by omega]; exact h3, px_fr_rf _ _ _⟩
    refine px_q_iln (len := 1) (j := 1) rfl l1 ?_
    refine px_q_aln (len := 1) (j := 0) rfl l0 ?_
    refine px_q_get (len := 3) (ci := 6) (k := 0) (fs := fs1) (v := .int z) rfl rfl hx1 hz ?_
    refine px_q_icmp (bb := true) (len := 3) (c := .ge) (off := 16) rfl (by simp only [px_cmp, decide_eq_true_eq, ge_iff_le, Int32.le_iff_toInt_le, ei]; omega) ?_
    exact px_q_ret (len := 1) rfl rfl
  | succ m ih =>
    intro p lv hp hm hG h1 h3 l0 l1
    obtain ⟨fs1, hx1, -, -⟩ := ac_obj hG (c := 1) rfl
    have hz := dr_fvo hx1 h1
    have ei := nm_ofNat_toInt p (by omega)
    have hpn : (Int32.ofNat p).toNatClampNeg = p := nm_ofNat_clamp p (by omega)
    have hu : upd (fun i => if i < p then (0 : Int32) else f i) p 0 = (fun i => if i < p + 1 then 0 else f i) := by
      funext i
      simp only [upd]
      by_cases e1 : i = p
      · rw [if_pos e1, if_pos (by omega)]
      · rw [if_neg e1]
        by_cases e2 : i < p
        · rw [if_pos e2, if_pos (by omega)]
        · rw [if_neg e2, if_neg (by omega)]
    have hG2 : ab_h nm_GH (hp.set 3 (.inl (13, 10, .inl (fun i => if i < p + 1 then 0 else f i)))) := ac_h_arr hG h3 rfl ⟨rfl, rfl, fun j _ => ⟨rfl, ab_i32 _⟩⟩
    have h32 : (hp.set 3 (.inl (13, 10, .inl (fun i => if i < p + 1 then 0 else f i))))[3]? = some (.inl (13, 10, .inl (fun i => if i < p + 1 then 0 else f i))) := List.getElem?_set_self (List.getElem?_eq_some_iff.mp h3).1
    have h12 : ac_fv (hp.set 3 (.inl (13, 10, .inl (fun i => if i < p + 1 then 0 else f i)))) 1 0 = some (.int z) := by rw [ac_fv_arr h3]; exact h1
    have f2 : px_fr [] [3] hp (hp.set 3 (.inl (13, 10, .inl (fun i => if i < p + 1 then 0 else f i)))) := px_fr_arr h3 (by decide)
    have e1 : Int32.ofNat p + Int32.ofInt 1 = Int32.ofNat (p + 1) := by rw [Int32.ofNat_add]; rfl
    obtain ⟨hp', y1, y2, y3, y4⟩ := ih (p + 1) (px_st1 lv 1 (.int (Int32.ofNat (p + 1)))) _ (by omega) hG2 h12 h32 (px_st1_nr l0) (px_st1_at _ _ _)
    refine ⟨hp', ?_, y2, y3, px_fr_tr f2 y4⟩
    refine px_q_iln (len := 1) (j := 1) rfl l1 ?_
    refine px_q_aln (len := 1) (j := 0) rfl l0 ?_
    refine px_q_get (len := 3) (ci := 6) (k := 0) (fs := fs1) (v := .int z) rfl rfl hx1 hz ?_
    refine px_q_icmp (bb := false) (len := 3) (c := .ge) (off := 16) rfl (by simp only [px_cmp, decide_eq_false_iff_not, ge_iff_le, Int32.le_iff_toInt_le, ei]; omega) ?_
    refine px_q_aln (pc := 10) (len := 1) (j := 0) rfl l0 ?_
    refine px_q_get (len := 3) (ci := 6) (k := 2) (fs := fs1) (v := .ref 3) rfl rfl hx1 (ac_refF hG (ci := 6) (k := 2) (c := 1) (d := 3) rfl hx1) ?_
    refine px_q_iln (len := 1) (j := 1) rfl l1 ?_
    refine px_Z_its (pc1 := 16) (lv1 := lv) (st1 := [.int 0, .int (Int32.ofNat p), .ref 3]) (hp1 := hp) 1 (fun _ _ _ _ => rfl) ?_
    refine px_q_iast (len := 1) rfl h3 rfl (nm_ixR _ 10 (by omega) (by omega)) ?_
    rw [hpn, hu]
    refine px_q_iinc (pc := 17) (len := 3) (j := 1) (n := 1) rfl l1 rfl ?_
    rw [e1]
    exact px_Z_its (pc1 := 2) (lv1 := px_st1 lv 1 (.int (Int32.ofNat (p + 1)))) (st1 := []) 1 (fun _ _ _ _ => rfl) y1
theorem sh_clear {hp : px_H} {z : Int32} {f : Nat → Int32} (hG : ab_h nm_GH hp) (h1 : ac_fv hp 1 0 = some (.int z)) (h3 : hp[3]? = some (.inl (13, 10, .inl f))) (z0 : 0 ≤ z.toInt) (z9 : z.toInt ≤ 10) : ∃ hp' : px_H, px_C nm_T nm_P mi_Town_clearDebts [.ref 1] hp none hp' ∧ ab_h nm_GH hp' ∧ hp'[3]? = some (.inl (13, 10, .inl (fun i => if i < z.toInt.toNat then 0 else f i))) ∧ px_fr [] [3] hp hp' := by
  obtain ⟨hp', y1, y2, y3, y4⟩ := sh_clr (f := f) z0 z9 z.toInt.toNat 0 [(1, .int (Int32.ofNat 0)), (0, .ref 1)] hp (by omega) hG h1 (by rw [h3]; simp) rfl rfl
  refine ⟨hp', px_C_of (N := mm_Town_clearDebts) rfl (Nat.le_of_ble_eq_true rfl) ?_, y2, y3, y4⟩
  exact px_Z_its (pc1 := 2) (lv1 := [(1, .int (Int32.ofNat 0)), (0, .ref 1)]) (st1 := []) (hp1 := hp) 2 (fun _ _ _ _ => rfl) y1
/-! the class: the loop -/
theorem sh_X {k n f step z : Int32} {g : Nat → Int32} (z0 : 0 ≤ z.toInt) (z9 : z.toInt ≤ 10) (n0 : 0 ≤ n.toInt) (n9 : n.toInt ≤ 10) (k3 : ¬ k = 3) : ∀ (m p : Nat) (lv : List (Nat × Value)) (hp : px_H), z.toInt = (p : Int) + m → (p : Int) ≤ n.toInt → ab_h nm_GH hp → ac_fv hp 1 0 = some (.int z) → hp[3]? = some (.inl (13, 10, .inl (fun i => if i < p then sh_t k n f step i else g i))) → px_find 0 lv = some (.ref 0) → px_find 1 lv = some (.int k) → px_find 2 lv = some (.int n) → px_find 4 lv = some (.int step) → px_find 5 lv = some (.int (sh_s k n f step p)) → px_find 6 lv = some (.int (sh_e f step p)) → px_find 7 lv = some (.int (Int32.ofNat p)) →
    ∃ (hp' : px_H) (q : Nat), (q : Int) ≤ n.toInt ∧ (q : Int) ≤ z.toInt ∧ ((q : Int) = z.toInt ∨ (q : Int) = n.toInt) ∧ px_Z nm_T none nm_P mm_X_sheet 55 lv [] hp (some (.int (sh_s k n f step q))) hp' ∧ ab_h nm_GH hp' ∧ hp'[3]? = some (.inl (13, 10, .inl (fun i => if i < q then sh_t k n f step i else g i))) ∧ px_fr [] [3] hp hp' := by
  intro m
  have fin : ∀ (p : Nat) (lv : List (Nat × Value)) (hp : px_H), px_find 5 lv = some (.int (sh_s k n f step p)) → px_Z nm_T none nm_P mm_X_sheet 117 lv [] hp (some (.int (sh_s k n f step p))) hp := by
    intro p lv hp l5
    refine px_q_il (len := 2) (j := 5) rfl l5 ?_
    exact px_q_iret (len := 1) (ty := .int) rfl rfl rfl
  induction m with
  | zero =>
    intro p lv hp hm hpn hG h1 h3 l0 l1 l2 l4 l5 l6 l7
    obtain ⟨fs0, hx0, -, -⟩ := ac_obj hG (c := 0) rfl
    obtain ⟨fs1, hx1, -, -⟩ := ac_obj hG (c := 1) rfl
    have hz := dr_fvo hx1 h1
    have ei := nm_ofNat_toInt p (by omega)
    refine ⟨hp, p, hpn, by omega, Or.inl (by omega), ?_, hG, h3, px_fr_rf _ _ _⟩
    refine px_q_il (len := 2) (j := 7) rfl l7 ?_
    refine px_q_aln (len := 1) (j := 0) rfl l0 ?_
    refine px_q_get (len := 3) (ci := 8) (k := 0) (fs := fs0) (v := .ref 1) rfl rfl hx0 (ac_refF hG (ci := 8) (k := 0) (c := 0) (d := 1) rfl hx0) ?_
    refine px_q_get (len := 3) (ci := 6) (k := 0) (fs := fs1) (v := .int z) rfl rfl hx1 hz ?_
    refine px_q_icmp (bb := true) (len := 3) (c := .ge) (off := 53) rfl (by simp only [px_cmp, decide_eq_true_eq, ge_iff_le, Int32.le_iff_toInt_le, ei]; omega) ?_
    exact fin p lv hp l5
  | succ m ih =>
    intro p lv hp hm hpn hG h1 h3 l0 l1 l2 l4 l5 l6 l7
    obtain ⟨fs0, hx0, -, -⟩ := ac_obj hG (c := 0) rfl
    obtain ⟨fs1, hx1, -, -⟩ := ac_obj hG (c := 1) rfl
    have hz := dr_fvo hx1 h1
    have ei := nm_ofNat_toInt p (by omega)
    have hpc : (Int32.ofNat p).toNatClampNeg = p := nm_ofNat_clamp p (by omega)
    have head : ∀ (bb : Bool) (r : Option Value) (h9 : px_H), px_cmp .ge (Int32.ofNat p) n = bb → px_Z nm_T none nm_P mm_X_sheet (bif bb then 117 else 73) lv [] hp r h9 → px_Z nm_T none nm_P mm_X_sheet 55 lv [] hp r h9 := by
      intro bb r h9 hb h
      refine px_q_il (len := 2) (j := 7) rfl l7 ?_
      refine px_q_aln (len := 1) (j := 0) rfl l0 ?_
      refine px_q_get (len := 3) (ci := 8) (k := 0) (fs := fs0) (v := .ref 1) rfl rfl hx0 (ac_refF hG (ci := 8) (k := 0) (c := 0) (d := 1) rfl hx0) ?_
      refine px_q_get (len := 3) (ci := 6) (k := 0) (fs := fs1) (v := .int z) rfl rfl hx1 hz ?_
      refine px_q_icmp (bb := false) (len := 3) (c := .ge) (off := 53) rfl (by simp only [px_cmp, decide_eq_false_iff_not, ge_iff_le, Int32.le_iff_toInt_le, ei]; omega) ?_
      refine px_q_il (pc := 67) (len := 2) (j := 7) rfl l7 ?_
      refine px_q_iln (len := 1) (j := 2) rfl l2 ?_
      refine px_q_icmp (bb := bb) (len := 3) (c := .ge) (off := 47) rfl hb ?_
      cases bb
      · exact h
      · exact h
    by_cases hn : n.toInt ≤ p
    · refine ⟨hp, p, hpn, by omega, Or.inr (by omega), head true _ _ (by simp only [px_cmp, decide_eq_true_eq, ge_iff_le, Int32.le_iff_toInt_le, ei]; exact hn) (fin p lv hp l5), hG, h3, px_fr_rf _ _ _⟩
    · have ht : sh_cl (sh_cv k (sh_e f step p)) = sh_t k n f step p := by
        unfold sh_t
        rw [if_neg (by rintro (h | h); exact k3 h; omega)]
      have hu : upd (fun i => if i < p then sh_t k n f step i else g i) p (sh_t k n f step p) = (fun i => if i < p + 1 then sh_t k n f step i else g i) := sh_G_up k n f step g p
      have hG2 : ab_h nm_GH (hp.set 3 (.inl (13, 10, .inl (fun i => if i < p + 1 then sh_t k n f step i else g i)))) := ac_h_arr hG h3 rfl ⟨rfl, rfl, fun j _ => ⟨rfl, ab_i32 _⟩⟩
      have h32 : (hp.set 3 (.inl (13, 10, .inl (fun i => if i < p + 1 then sh_t k n f step i else g i))))[3]? = some (.inl (13, 10, .inl (fun i => if i < p + 1 then sh_t k n f step i else g i))) := List.getElem?_set_self (List.getElem?_eq_some_iff.mp h3).1
      have h12 : ac_fv (hp.set 3 (.inl (13, 10, .inl (fun i => if i < p + 1 then sh_t k n f step i else g i)))) 1 0 = some (.int z) := by rw [ac_fv_arr h3]; exact h1
      have hx02 : (hp.set 3 (.inl (13, 10, .inl (fun i => if i < p + 1 then sh_t k n f step i else g i))))[0]? = some (.inr (8, fs0)) := by rw [List.getElem?_set_ne (by decide)]; exact hx0
      have hx12 : (hp.set 3 (.inl (13, 10, .inl (fun i => if i < p + 1 then sh_t k n f step i else g i))))[1]? = some (.inr (6, fs1)) := by rw [List.getElem?_set_ne (by decide)]; exact hx1
      have f2 : px_fr [] [3] hp (hp.set 3 (.inl (13, 10, .inl (fun i => if i < p + 1 then sh_t k n f step i else g i)))) := px_fr_arr h3 (by decide)
      generalize hh : hp.set 3 (.inl (13, 10, .inl (fun i => if i < p + 1 then sh_t k n f step i else g i))) = hp2 at hG2 h32 h12 hx02 hx12 f2
      have e1 : Int32.ofNat p + Int32.ofInt 1 = Int32.ofNat (p + 1) := by rw [Int32.ofNat_add]; rfl
      generalize hlA : px_st1 lv 5 (.int (sh_s k n f step (p + 1))) = lvA
      have a0 : px_find 0 lvA = some (.ref 0) := by rw [← hlA]; exact px_st1_nr l0
      have a1 : px_find 1 lvA = some (.int k) := by rw [← hlA]; exact ab_sto1_find l1 (by decide) (fun _ hc => by cases hc)
      have a2 : px_find 2 lvA = some (.int n) := by rw [← hlA]; exact ab_sto1_find l2 (by decide) (fun _ hc => by cases hc)
      have a4 : px_find 4 lvA = some (.int step) := by rw [← hlA]; exact ab_sto1_find l4 (by decide) (fun _ hc => by cases hc)
      have a5 : px_find 5 lvA = some (.int (sh_s k n f step (p + 1))) := by rw [← hlA]; exact px_st1_at _ _ _
      have a6 : px_find 6 lvA = some (.int (sh_e f step p)) := by rw [← hlA]; exact ab_sto1_find l6 (by decide) (fun _ hc => by cases hc)
      have a7 : px_find 7 lvA = some (.int (Int32.ofNat p)) := by rw [← hlA]; exact ab_sto1_find l7 (by decide) (fun _ hc => by cases hc)
      generalize hlB : px_st1 lvA 6 (.int (sh_e f step (p + 1))) = lvB
      have b0 : px_find 0 lvB = some (.ref 0) := by rw [← hlB]; exact px_st1_nr a0
      have b1 : px_find 1 lvB = some (.int k) := by rw [← hlB]; exact ab_sto1_find a1 (by decide) (fun _ hc => by cases hc)
      have b2 : px_find 2 lvB = some (.int n) := by rw [← hlB]; exact ab_sto1_find a2 (by decide) (fun _ hc => by cases hc)
      have b4 : px_find 4 lvB = some (.int step) := by rw [← hlB]; exact ab_sto1_find a4 (by decide) (fun _ hc => by cases hc)
      have b5 : px_find 5 lvB = some (.int (sh_s k n f step (p + 1))) := by rw [← hlB]; exact ab_sto1_find a5 (by decide) (fun _ hc => by cases hc)
      have b6 : px_find 6 lvB = some (.int (sh_e f step (p + 1))) := by rw [← hlB]; exact px_st1_at _ _ _
      have b7 : px_find 7 lvB = some (.int (Int32.ofNat p)) := by rw [← hlB]; exact ab_sto1_find a7 (by decide) (fun _ hc => by cases hc)
      obtain ⟨hp', q, y0, y1, y2, y3, y4, y5, y6⟩ := ih (p + 1) (px_st1 lvB 7 (.int (Int32.ofNat (p + 1)))) hp2 (by omega) (by omega) hG2 h12 h32 (px_st1_nr b0) (ab_sto1_find b1 (by decide) (fun _ hc => by cases hc)) (ab_sto1_find b2 (by decide) (fun _ hc => by cases hc)) (ab_sto1_find b4 (by decide) (fun _ hc => by cases hc)) (ab_sto1_find b5 (by decide) (fun _ hc => by cases hc)) (ab_sto1_find b6 (by decide) (fun _ hc => by cases hc)) (px_st1_at _ _ _)
      refine ⟨hp', q, y0, y1, y2, head false _ _ (by simp only [px_cmp, decide_eq_false_iff_not, ge_iff_le, Int32.le_iff_toInt_le, ei]; exact hn) ?_, y4, y5, px_fr_tr f2 y6⟩
      refine px_q_aln (pc := 73) (len := 1) (j := 0) rfl l0 ?_
      refine px_q_get (len := 3) (ci := 8) (k := 0) (fs := fs0) (v := .ref 1) rfl rfl hx0 (ac_refF hG (ci := 8) (k := 0) (c := 0) (d := 1) rfl hx0) ?_
      refine px_q_get (len := 3) (ci := 6) (k := 2) (fs := fs1) (v := .ref 3) rfl rfl hx1 (ac_refF hG (ci := 6) (k := 2) (c := 1) (d := 3) rfl hx1) ?_
      refine px_q_il (len := 2) (j := 7) rfl l7 ?_
      refine px_q_iln (len := 1) (j := 1) rfl l1 ?_
      refine px_q_il (len := 2) (j := 6) rfl l6 ?_
      refine px_q_stat (len := 3) (n := 2) (N := mm_X_dayOnSheet) (mi := mi_X_dayOnSheet) rfl rfl rfl (Nat.le_of_ble_eq_true rfl) (Nat.le_of_ble_eq_true rfl) rfl rfl (sh_day _ _ _) ?_
      rw [ht]
      refine px_q_iast (len := 1) rfl h3 rfl (nm_ixR _ 10 (by omega) (by omega)) ?_
      rw [hpc, hu, hh]
      refine px_q_il (pc := 89) (len := 2) (j := 5) rfl l5 ?_
      refine px_q_aln (len := 1) (j := 0) rfl l0 ?_
      refine px_q_get (len := 3) (ci := 8) (k := 0) (fs := fs0) (v := .ref 1) rfl rfl hx02 (ac_refF hG2 (ci := 8) (k := 0) (c := 0) (d := 1) rfl hx02) ?_
      refine px_q_get (len := 3) (ci := 6) (k := 2) (fs := fs1) (v := .ref 3) rfl rfl hx12 (ac_refF hG2 (ci := 6) (k := 2) (c := 1) (d := 3) rfl hx12) ?_
      refine px_q_il (len := 2) (j := 7) rfl l7 ?_
      refine px_q_iald (len := 1) rfl h32 rfl (nm_ixR _ 10 (by omega) (by omega)) ?_
      rw [hpc, if_pos (by omega)]
      refine px_Z_its (pc1 := 104) (lv1 := lvA) (st1 := []) (hp1 := hp2) 2 (fun _ _ _ _ => by rw [← hlA]; rfl) ?_
      refine px_q_il (len := 2) (j := 6) rfl a6 ?_
      refine px_q_il (len := 2) (j := 4) rfl a4 ?_
      refine px_Z_its (pc1 := 111) (lv1 := lvB) (st1 := []) (hp1 := hp2) 2 (fun _ _ _ _ => by rw [← hlB]; rfl) ?_
      refine px_q_iinc (len := 3) (j := 7) (n := 1) rfl b7 rfl ?_
      rw [e1]
      exact px_Z_its (pc1 := 55) (lv1 := px_st1 lvB 7 (.int (Int32.ofNat (p + 1)))) (st1 := []) (hp1 := hp2) 1 (fun _ _ _ _ => rfl) y3
/-! the model: the loop -/
theorem sh_M {k n f step z : Int32} {g : Nat → Int32} (z0 : 0 ≤ z.toInt) (z9 : z.toInt ≤ 10) : ∀ (m p : Nat) (lv : List (Nat × Value)) (hp : px_H), z.toInt = (p : Int) + m → ab_h nm_GH hp → ac_fv hp 69 3 = some (.int z) → hp[na_owes]? = some (.inl (nr_owes, 10, .inl (fun i => if i < p then sh_t k n f step i else g i))) → px_find 0 lv = some (.ref 69) → px_find 1 lv = some (.int k) → px_find 2 lv = some (.int n) → px_find 4 lv = some (.int step) → px_find 5 lv = some (.int (sh_e f step p)) → px_find 6 lv = some (.int (sh_s k n f step p)) → px_find 7 lv = some (.int (Int32.ofNat p)) →
    ∃ hp' : px_H, px_Z nm_T none nm_P mm_M_sheet 46 lv [] hp (some (.int (if k = 3 then Int32.ofInt (-3) else sh_s k n f step z.toInt.toNat))) hp' ∧ ab_h nm_GH hp' ∧ hp'[na_owes]? = some (.inl (nr_owes, 10, .inl (fun i => if i < z.toInt.toNat then sh_t k n f step i else g i))) ∧ px_fr [] [na_owes] hp hp' := by
  intro m
  induction m with
  | zero =>
    intro p lv hp hm hG h1 h3 l0 l1 l2 l4 l5 l6 l7
    obtain ⟨fs, hx, -, -⟩ := ac_obj hG (c := 69) rfl
    have hz := dr_fvo hx h1
    have ei := nm_ofNat_toInt p (by omega)
    have ep : z.toInt.toNat = p := by omega
    rw [ep]
    refine ⟨hp, ?_, hG, h3, px_fr_rf _ _ _⟩
    refine px_q_il (len := 2) (j := 7) rfl l7 ?_
    refine px_q_aln (len := 1) (j := 0) rfl l0 ?_
    refine px_q_get (len := 3) (ci := 9) (k := nf_persons) (fs := fs) (v := .int z) rfl rfl hx hz ?_
    refine px_q_icmp (bb := true) (len := 3) (c := .ge) (off := 87) rfl (by simp only [px_cmp, decide_eq_true_eq, ge_iff_le, Int32.le_iff_toInt_le, ei]; omega) ?_
    refine px_q_iln (pc := 139) (len := 1) (j := 1) rfl l1 ?_
    refine px_Z_its (pc1 := 141) (lv1 := lv) (st1 := [.int 3, .int k]) (hp1 := hp) 1 (fun _ _ _ _ => rfl) ?_
    by_cases hk : k = 3
    · rw [if_pos hk]
      refine px_q_icmp (bb := false) (len := 3) (c := .ne) (off := 8) rfl (by rw [sh_ne]; simp [hk]) ?_
      refine px_Z_its (pc1 := 151) (lv1 := lv) (st1 := [.int (Int32.ofInt (-3))]) (hp1 := hp) 2 (fun _ _ _ _ => rfl) ?_
      exact px_q_iret (len := 1) (ty := .int) rfl rfl rfl
    · rw [if_neg hk]
      refine px_q_icmp (bb := true) (len := 3) (c := .ne) (off := 8) rfl (by rw [sh_ne]; simp [hk]) ?_
      refine px_q_il (pc := 149) (len := 2) (j := 6) rfl l6 ?_
      exact px_q_iret (len := 1) (ty := .int) rfl rfl rfl
  | succ m ih =>
    intro p lv hp hm hG h1 h3 l0 l1 l2 l4 l5 l6 l7
    obtain ⟨fs, hx, -, -⟩ := ac_obj hG (c := 69) rfl
    have hz := dr_fvo hx h1
    have ei := nm_ofNat_toInt p (by omega)
    have hpc : (Int32.ofNat p).toNatClampNeg = p := nm_ofNat_clamp p (by omega)
    have hu : upd (fun i => if i < p then sh_t k n f step i else g i) p (sh_t k n f step p) = (fun i => if i < p + 1 then sh_t k n f step i else g i) := sh_G_up k n f step g p
    have hG2 : ab_h nm_GH (hp.set na_owes (.inl (nr_owes, 10, .inl (fun i => if i < p + 1 then sh_t k n f step i else g i)))) := ac_h_arr hG (c := na_owes) h3 rfl (y := (nr_owes, 10, .inl (fun i => if i < p + 1 then sh_t k n f step i else g i))) ⟨rfl, rfl, fun j _ => ⟨rfl, ab_i32 _⟩⟩
    have h32 : (hp.set na_owes (.inl (nr_owes, 10, .inl (fun i => if i < p + 1 then sh_t k n f step i else g i))))[na_owes]? = some (.inl (nr_owes, 10, .inl (fun i => if i < p + 1 then sh_t k n f step i else g i))) := List.getElem?_set_self (List.getElem?_eq_some_iff.mp h3).1
    have h12 : ac_fv (hp.set na_owes (.inl (nr_owes, 10, .inl (fun i => if i < p + 1 then sh_t k n f step i else g i)))) 69 3 = some (.int z) := by rw [ac_fv_arr h3]; exact h1
    have hx2 : (hp.set na_owes (.inl (nr_owes, 10, .inl (fun i => if i < p + 1 then sh_t k n f step i else g i))))[69]? = some (.inr (9, fs)) := by rw [List.getElem?_set_ne (by decide)]; exact hx
    have f2 : px_fr [] [na_owes] hp (hp.set na_owes (.inl (nr_owes, 10, .inl (fun i => if i < p + 1 then sh_t k n f step i else g i)))) := px_fr_arr h3 (by decide)
    generalize hh : hp.set na_owes (.inl (nr_owes, 10, .inl (fun i => if i < p + 1 then sh_t k n f step i else g i))) = hp2 at hG2 h32 h12 hx2 f2
    have e1 : Int32.ofNat p + Int32.ofInt 1 = Int32.ofNat (p + 1) := by rw [Int32.ofNat_add]; rfl
    generalize hl8 : px_st1 lv 8 (.int (sh_cv k (sh_e f step p))) = lv8
    have c0 : px_find 0 lv8 = some (.ref 69) := by rw [← hl8]; exact px_st1_nr l0
    have c1 : px_find 1 lv8 = some (.int k) := by rw [← hl8]; exact ab_sto1_find l1 (by decide) (fun _ hc => by cases hc)
    have c2 : px_find 2 lv8 = some (.int n) := by rw [← hl8]; exact ab_sto1_find l2 (by decide) (fun _ hc => by cases hc)
    have c4 : px_find 4 lv8 = some (.int step) := by rw [← hl8]; exact ab_sto1_find l4 (by decide) (fun _ hc => by cases hc)
    have c5 : px_find 5 lv8 = some (.int (sh_e f step p)) := by rw [← hl8]; exact ab_sto1_find l5 (by decide) (fun _ hc => by cases hc)
    have c6 : px_find 6 lv8 = some (.int (sh_s k n f step p)) := by rw [← hl8]; exact ab_sto1_find l6 (by decide) (fun _ hc => by cases hc)
    have c7 : px_find 7 lv8 = some (.int (Int32.ofNat p)) := by rw [← hl8]; exact ab_sto1_find l7 (by decide) (fun _ hc => by cases hc)
    have c8 : px_find 8 lv8 = some (.int (sh_cv k (sh_e f step p))) := by rw [← hl8]; exact px_st1_at _ _ _
    generalize hlA : px_st1 lv8 6 (.int (sh_s k n f step (p + 1))) = lvA
    have a0 : px_find 0 lvA = some (.ref 69) := by rw [← hlA]; exact px_st1_nr c0
    have a1 : px_find 1 lvA = some (.int k) := by rw [← hlA]; exact ab_sto1_find c1 (by decide) (fun _ hc => by cases hc)
    have a2 : px_find 2 lvA = some (.int n) := by rw [← hlA]; exact ab_sto1_find c2 (by decide) (fun _ hc => by cases hc)
    have a4 : px_find 4 lvA = some (.int step) := by rw [← hlA]; exact ab_sto1_find c4 (by decide) (fun _ hc => by cases hc)
    have a5 : px_find 5 lvA = some (.int (sh_e f step p)) := by rw [← hlA]; exact ab_sto1_find c5 (by decide) (fun _ hc => by cases hc)
    have a6 : px_find 6 lvA = some (.int (sh_s k n f step (p + 1))) := by rw [← hlA]; exact px_st1_at _ _ _
    have a7 : px_find 7 lvA = some (.int (Int32.ofNat p)) := by rw [← hlA]; exact ab_sto1_find c7 (by decide) (fun _ hc => by cases hc)
    generalize hlB : px_st1 lvA 5 (.int (sh_e f step (p + 1))) = lvB
    have b0 : px_find 0 lvB = some (.ref 69) := by rw [← hlB]; exact px_st1_nr a0
    have b1 : px_find 1 lvB = some (.int k) := by rw [← hlB]; exact ab_sto1_find a1 (by decide) (fun _ hc => by cases hc)
    have b2 : px_find 2 lvB = some (.int n) := by rw [← hlB]; exact ab_sto1_find a2 (by decide) (fun _ hc => by cases hc)
    have b4 : px_find 4 lvB = some (.int step) := by rw [← hlB]; exact ab_sto1_find a4 (by decide) (fun _ hc => by cases hc)
    have b5 : px_find 5 lvB = some (.int (sh_e f step (p + 1))) := by rw [← hlB]; exact px_st1_at _ _ _
    have b6 : px_find 6 lvB = some (.int (sh_s k n f step (p + 1))) := by rw [← hlB]; exact ab_sto1_find a6 (by decide) (fun _ hc => by cases hc)
    have b7 : px_find 7 lvB = some (.int (Int32.ofNat p)) := by rw [← hlB]; exact ab_sto1_find a7 (by decide) (fun _ hc => by cases hc)
    obtain ⟨hp', y3, y4, y5, y6⟩ := ih (p + 1) (px_st1 lvB 7 (.int (Int32.ofNat (p + 1)))) hp2 (by omega) hG2 h12 h32 (px_st1_nr b0) (ab_sto1_find b1 (by decide) (fun _ hc => by cases hc)) (ab_sto1_find b2 (by decide) (fun _ hc => by cases hc)) (ab_sto1_find b4 (by decide) (fun _ hc => by cases hc)) (ab_sto1_find b5 (by decide) (fun _ hc => by cases hc)) (ab_sto1_find b6 (by decide) (fun _ hc => by cases hc)) (px_st1_at _ _ _)
    refine ⟨hp', ?_, y4, y5, px_fr_tr f2 y6⟩
    -- the day, put into its kind
    have segA : ∀ (r : Option Value) (h9 : px_H), px_Z nm_T none nm_P mm_M_sheet 80 lv8 [] hp r h9 → px_Z nm_T none nm_P mm_M_sheet 46 lv [] hp r h9 := by
      intro r h9 h
      refine px_q_il (len := 2) (j := 7) rfl l7 ?_
      refine px_q_aln (len := 1) (j := 0) rfl l0 ?_
      refine px_q_get (len := 3) (ci := 9) (k := nf_persons) (fs := fs) (v := .int z) rfl rfl hx hz ?_
      refine px_q_icmp (bb := false) (len := 3) (c := .ge) (off := 87) rfl (by simp only [px_cmp, decide_eq_false_iff_not, ge_iff_le, Int32.le_iff_toInt_le, ei]; omega) ?_
      refine px_q_iln (pc := 55) (len := 1) (j := 1) rfl l1 ?_
      have st8 : ∀ u : Int32, u = sh_cv k (sh_e f step p) → px_Z nm_T none nm_P mm_M_sheet 78 lv [.int u] hp r h9 := by
        intro u hu9
        subst hu9
        exact px_Z_its (pc1 := 80) (lv1 := lv8) (st1 := []) (hp1 := hp) 1 (fun _ _ _ _ => by rw [← hl8]; rfl) h
      by_cases k0 : k = 0
      · refine px_q_if (bb := false) (len := 3) (c := .ne) (off := 9) rfl (by rw [sh_ne]; simp [k0]) ?_
        refine px_q_il (pc := 59) (len := 2) (j := 5) rfl l5 ?_
        refine px_Z_its (pc1 := 78) (lv1 := lv) (st1 := [.int (sh_e f step p).toInt8.toInt32]) (hp1 := hp) 2 (fun _ _ _ _ => rfl) ?_
        exact st8 _ (by unfold sh_cv; rw [if_pos k0])
      · refine px_q_if (bb := true) (len := 3) (c := .ne) (off := 9) rfl (by rw [sh_ne]; simp [k0]) ?_
        refine px_q_iln (pc := 65) (len := 1) (j := 1) rfl l1 ?_
        refine px_Z_its (pc1 := 67) (lv1 := lv) (st1 := [.int 1, .int k]) (hp1 := hp) 1 (fun _ _ _ _ => rfl) ?_
        by_cases k1 : k = 1
        · refine px_q_icmp (bb := false) (len := 3) (c := .ne) (off := 9) rfl (by rw [sh_ne]; simp [k1]) ?_
          refine px_q_il (pc := 70) (len := 2) (j := 5) rfl l5 ?_
          refine px_Z_its (pc1 := 78) (lv1 := lv) (st1 := [.int (sh_e f step p).toInt16.toInt32]) (hp1 := hp) 2 (fun _ _ _ _ => rfl) ?_
          exact st8 _ (by unfold sh_cv; rw [if_neg k0, if_pos k1])
        · refine px_q_icmp (bb := true) (len := 3) (c := .ne) (off := 9) rfl (by rw [sh_ne]; simp [k1]) ?_
          refine px_q_il (pc := 76) (len := 2) (j := 5) rfl l5 ?_
          exact st8 _ (by unfold sh_cv; rw [if_neg k0, if_neg k1])
    -- what is noted
    have segB : ∀ (r : Option Value) (h9 : px_H), px_Z nm_T none nm_P mm_M_sheet 113 lv8 [.int (sh_t k n f step p), .int (Int32.ofNat p), .ref na_owes] hp r h9 → px_Z nm_T none nm_P mm_M_sheet 80 lv8 [] hp r h9 := by
      intro r h9 h
      refine px_q_aln (len := 1) (j := 0) rfl c0 ?_
      refine px_q_get (len := 3) (ci := 9) (k := nf_owes) (fs := fs) (v := .ref na_owes) rfl rfl hx (nm_f hG hx rfl) ?_
      refine px_q_il (len := 2) (j := 7) rfl c7 ?_
      refine px_q_iln (len := 1) (j := 1) rfl c1 ?_
      refine px_Z_its (pc1 := 88) (lv1 := lv8) (st1 := [.int 3, .int k, .int (Int32.ofNat p), .ref na_owes]) (hp1 := hp) 1 (fun _ _ _ _ => rfl) ?_
      have s97 : sh_t k n f step p = 0 → px_Z nm_T none nm_P mm_M_sheet 97 lv8 [.int (Int32.ofNat p), .ref na_owes] hp r h9 := by
        intro h0
        rw [h0] at h
        exact px_Z_its (pc1 := 113) (lv1 := lv8) (st1 := [.int 0, .int (Int32.ofNat p), .ref na_owes]) (hp1 := hp) 2 (fun _ _ _ _ => rfl) h
      by_cases k3 : k = 3
      · refine px_q_icmp (bb := true) (len := 3) (c := .eq) (off := 9) rfl (by rw [sh_eq rfl]; simp [k3]) ?_
        exact s97 (by unfold sh_t; rw [if_pos (Or.inl k3)])
      · refine px_q_icmp (bb := false) (len := 3) (c := .eq) (off := 9) rfl (by rw [sh_eq rfl]; simp [k3]) ?_
        refine px_q_il (pc := 91) (len := 2) (j := 7) rfl c7 ?_
        refine px_q_iln (len := 1) (j := 2) rfl c2 ?_
        by_cases hn : n.toInt ≤ p
        · refine px_q_icmp (bb := false) (len := 3) (c := .lt) (off := 7) rfl (by simp only [px_cmp, decide_eq_false_iff_not, Int32.lt_iff_toInt_lt, ei]; omega) ?_
          exact s97 (by unfold sh_t; rw [if_pos (Or.inr hn)])
        · refine px_q_icmp (bb := true) (len := 3) (c := .lt) (off := 7) rfl (by simp only [px_cmp, decide_eq_true_eq, Int32.lt_iff_toInt_lt, ei]; omega) ?_
          have ht : sh_t k n f step p = sh_cl (sh_cv k (sh_e f step p)) := by
            unfold sh_t
            rw [if_neg (by rintro (h | h); exact k3 h; exact hn h)]
          rw [ht] at h
          refine px_Z_its (pc1 := 105) (lv1 := lv8) (st1 := [.int sh_c9, .int 0, .int (Int32.ofNat p), .ref na_owes]) (hp1 := hp) 2 (fun _ _ _ _ => rfl) ?_
          refine px_q_il (len := 2) (j := 8) rfl c8 ?_
          refine px_q_math (len := 3) (w := 1) (st' := [.int (sh_mn (sh_cv k (sh_e f step p))), .int 0, .int (Int32.ofNat p), .ref na_owes]) rfl rfl rfl (Nat.le_of_ble_eq_true rfl) ?_
          exact px_q_math (len := 3) (w := 0) (st' := [.int (sh_cl (sh_cv k (sh_e f step p))), .int (Int32.ofNat p), .ref na_owes]) rfl rfl rfl (Nat.le_of_ble_eq_true rfl) h
    refine segA _ _ (segB _ _ ?_)
    refine px_q_iast (len := 1) rfl h3 rfl (nm_ixR _ 10 (by omega) (by omega)) ?_
    rw [hpc, hu, hh]
    refine px_q_il (pc := 114) (len := 2) (j := 6) rfl c6 ?_
    refine px_q_aln (len := 1) (j := 0) rfl c0 ?_
    refine px_q_get (len := 3) (ci := 9) (k := nf_owes) (fs := fs) (v := .ref na_owes) rfl rfl hx2 (nm_f hG2 hx2 rfl) ?_
    refine px_q_il (len := 2) (j := 7) rfl c7 ?_
    refine px_q_iald (len := 1) rfl h32 rfl (nm_ixR _ 10 (by omega) (by omega)) ?_
    rw [hpc, if_pos (by omega)]
    refine px_Z_its (pc1 := 126) (lv1 := lvA) (st1 := []) (hp1 := hp2) 2 (fun _ _ _ _ => by rw [← hlA]; rfl) ?_
    refine px_q_il (len := 2) (j := 5) rfl a5 ?_
    refine px_q_il (len := 2) (j := 4) rfl a4 ?_
    refine px_Z_its (pc1 := 133) (lv1 := lvB) (st1 := []) (hp1 := hp2) 2 (fun _ _ _ _ => by rw [← hlB]; rfl) ?_
    refine px_q_iinc (len := 3) (j := 7) (n := 1) rfl b7 rfl ?_
    rw [e1]
    exact px_Z_its (pc1 := 46) (lv1 := px_st1 lvB 7 (.int (Int32.ofNat (p + 1)))) (st1 := []) (hp1 := hp2) 1 (fun _ _ _ _ => rfl) y3
/-! sheet, on both sides -/
abbrev sh_lo : Int := -2147483648
abbrev sh_hi : Int := 2147483647
def sh_fs (c : Nat) (k1 k2 n1 n2 : Int) : List ab_F := [(2, 0, 0, [c]), (0, k1, k2, []), (0, n1, n2, []), (0, sh_lo, sh_hi, []), (0, sh_lo, sh_hi, [])]
theorem sh_av {c : Nat} {a1 a2 a3 a4 : Int32} {k1 k2 n1 n2 : Int} (h1 : k1 ≤ a1.toInt) (h2 : a1.toInt ≤ k2) (h3 : n1 ≤ a2.toInt) (h4 : a2.toInt ≤ n2) : ac_argv (sh_fs c k1 k2 n1 n2) [.ref c, .int a1, .int a2, .int a3, .int a4] := ⟨⟨rfl, List.mem_cons_self⟩, ⟨rfl, h1, h2⟩, ⟨rfl, h3, h4⟩, ⟨rfl, ab_i32 _⟩, ⟨rfl, ab_i32 _⟩, trivial⟩
def sh_bad (t k1 k2 n1 n2 : Int) : Bool := ex_rts t (ex_run [] [] [] [] mi_X_sheet (sh_fs 0 k1 k2 n1 n2) []) && ex_rts t (ex_run [] [] [(69, 0)] [] mi_M_sheet (sh_fs 69 k1 k2 n1 n2) [])
set_option maxRecDepth 1000000 in
theorem sh_bad_t : (sh_bad (-1) sh_lo (-1) sh_lo sh_hi && (sh_bad (-1) 4 sh_hi sh_lo sh_hi && (sh_bad (-1) sh_lo sh_hi 11 sh_hi && sh_bad (-2) 0 2 sh_lo (-1)))) = true := by decide +kernel
theorem sh_bad_ok {t k1 k2 n1 n2 : Int} (h : sh_bad t k1 k2 n1 n2 = true) {hp : px_H} {a1 a2 a3 a4 : Int32} (hG : ab_h nm_GH hp) (hR : sd_R hp) (h1 : k1 ≤ a1.toInt) (h2 : a1.toInt ≤ k2) (h3 : n1 ≤ a2.toInt) (h4 : a2.toInt ≤ n2) : sd_twoR mi_X_sheet mi_M_sheet true 0 69 [.int a1, .int a2, .int a3, .int a4] hp := by
  simp only [sh_bad, Bool.and_eq_true] at h
  obtain ⟨v, hp1, q, m1, m2, m3, m4⟩ := ex_rts_ok di_no h.1 hG (sh_av (a3 := a3) (a4 := a4) h1 h2 h3 h4) (fun q hq => (by cases hq))
  obtain ⟨v', hp2, q', n1, n2, n3, n4⟩ := ex_rts_ok di_no h.2 m3.2.1 (sh_av (a3 := a3) (a4 := a4) h1 h2 h3 h4) (fun q hq => (by cases hq))
  exact ⟨v, v', hp1, hp2, m1, m3.2.1, n1, n3.2.1, fun _ => by rw [← Int32.toInt_inj, m2, n2], sd_R_fr n4 (by decide) (sd_R_fr m4 (by decide) hR)⟩
def sh_BX (k1 k2 n1 n2 : Int) : ac_S := ([(0, ((2, 0, 0, [0]), none)), (1, ((0, k1, k2, []), some (2, 1, 0))), (2, ((0, n1, n2, []), some (2, 2, 0))), (3, ((0, sh_lo, sh_hi, []), some (2, 3, 0))), (4, ((0, sh_lo, sh_hi, []), some (2, 4, 0)))], [((2, 0, 0, [1]), none)], [], [], [], [])
def sh_BM (k1 k2 n1 n2 : Int) : ac_S := ([(0, ((2, 0, 0, [69]), none)), (1, ((0, k1, k2, []), some (2, 1, 0))), (2, ((0, n1, n2, []), some (2, 2, 0))), (4, ((0, sh_lo, sh_hi, []), some (2, 4, 0))), (5, ((0, sh_lo, sh_hi, []), some (2, 3, 0))), (6, ((0, 0, 0, []), none)), (7, ((0, 0, 0, []), none))], [], [], [], [], [])
def sh_eX (k1 k2 n1 n2 : Int) (pc : Nat) : Bool := match ex_runS [] [] [] [] mi_X_sheet mm_X_sheet (sh_fs 0 k1 k2 n1 n2) [] [pc] with
  | some o => o.1.isEmpty && o.2.all (fun q => Nat.beq q.1 pc && ac_le nm_GH none q.2 (sh_BX k1 k2 n1 n2))
  | none => false
def sh_eM (k1 k2 n1 n2 : Int) : Bool := match ex_runS [] [] [(69, 0)] [] mi_M_sheet mm_M_sheet (sh_fs 69 k1 k2 n1 n2) [] [46] with
  | some o => o.1.isEmpty && o.2.all (fun q => Nat.beq q.1 46 && ac_le nm_GH none q.2 (sh_BM k1 k2 n1 n2))
  | none => false
set_option maxRecDepth 1000000 in
theorem sh_e_t : (sh_eX 3 3 sh_lo 10 26 && (sh_eX 0 2 0 10 43 && (sh_eM 3 3 sh_lo 10 && sh_eM 0 2 0 10))) = true := by decide +kernel
/-- the class, up to where it clears -/
theorem sh_toX {k1 k2 n1 n2 : Int} {pc : Nat} (t : sh_eX k1 k2 n1 n2 pc = true) {hp : px_H} {a1 a2 a3 a4 : Int32} (hG : ab_h nm_GH hp) (h1 : k1 ≤ a1.toInt) (h2 : a1.toInt ≤ k2) (h3 : n1 ≤ a2.toInt) (h4 : a2.toInt ≤ n2) : ∃ (lv : List (Nat × Value)) (hp1 : px_H), ab_h nm_GH hp1 ∧ px_fr [] [] hp hp1 ∧ px_find 0 lv = some (.ref 0) ∧ px_find 1 lv = some (.int a1) ∧ px_find 2 lv = some (.int a2) ∧ px_find 3 lv = some (.int a3) ∧ px_find 4 lv = some (.int a4) ∧
    ∀ (r : Option Value) (h9 : px_H), px_Z nm_T none nm_P mm_X_sheet pc lv [.ref 1] hp1 r h9 → px_C nm_T nm_P mi_X_sheet [.ref 0, .int a1, .int a2, .int a3, .int a4] hp r h9 := by
  unfold sh_eX at t
  split at t
  rotate_left
  · cases t
  rename_i o ho
  simp only [Bool.and_eq_true, List.all_eq_true, List.isEmpty_iff] at t
  rcases ex_runS_ok di_no rfl (by show _ ≤ _; exact Nat.le_of_ble_eq_true rfl) ho hG (sh_av (a3 := a3) (a4 := a4) h1 h2 h3 h4) (fun q hq => (by cases hq)) with ⟨r, hp', q, m1, -⟩ | ⟨pc', lv, st, hp1, A', m1, m2, m3, m4⟩
  · rw [t.1] at m1
    cases m1
  obtain ⟨q1, q2⟩ := t.2 _ m1
  have q1 := Nat.eq_of_beq_eq_true q1
  simp only at q1
  subst q1
  obtain ⟨γ2, -, h9, -⟩ := ac_le_ok q2 m2
  obtain ⟨b1, b2, b3, b4, -⟩ := h9
  obtain ⟨u0, l0, o0⟩ := b1 0 _ (List.mem_cons_self)
  obtain ⟨u1, l1, o1⟩ := b1 1 _ (List.mem_cons_of_mem _ List.mem_cons_self)
  obtain ⟨u2, l2, o2⟩ := b1 2 _ (List.mem_cons_of_mem _ (List.mem_cons_of_mem _ List.mem_cons_self))
  obtain ⟨u3, l3, o3⟩ := b1 3 _ (List.mem_cons_of_mem _ (List.mem_cons_of_mem _ (List.mem_cons_of_mem _ List.mem_cons_self)))
  obtain ⟨u4, l4, o4⟩ := b1 4 _ (List.mem_cons_of_mem _ (List.mem_cons_of_mem _ (List.mem_cons_of_mem _ (List.mem_cons_of_mem _ List.mem_cons_self))))
  obtain ⟨c0, rfl, e0⟩ := ab_f2 o0.1
  cases List.mem_singleton.mp e0
  obtain ⟨rfl, -, -⟩ := ex_org o1
  obtain ⟨rfl, -, -⟩ := ex_org o2
  obtain ⟨rfl, -, -⟩ := ex_org o3
  obtain ⟨rfl, -, -⟩ := ex_org o4
  refine ⟨lv, hp1, b3, m3, l0, l1, l2, l3, l4, fun r h9 hz => m4 _ _ ?_⟩
  match st, b2 with
  | [w1], ⟨t1, _⟩ =>
    obtain ⟨c1, rfl, ec⟩ := ab_f2 t1.1
    cases List.mem_singleton.mp ec
    exact hz
theorem sh_runM {k1 k2 n1 n2 : Int} (t : sh_eM k1 k2 n1 n2 = true) {hp : px_H} {a1 a2 a3 a4 z : Int32} {g : Nat → Int32} (hG : ab_h nm_GH hp) (h1 : k1 ≤ a1.toInt) (h2 : a1.toInt ≤ k2) (h3 : n1 ≤ a2.toInt) (h4 : a2.toInt ≤ n2) (hz : ac_fv hp 69 3 = some (.int z)) (hg : hp[na_owes]? = some (.inl (nr_owes, 10, .inl g))) (z0 : 0 ≤ z.toInt) (z9 : z.toInt ≤ 10) : ∃ hp' : px_H, px_C nm_T nm_P mi_M_sheet [.ref 69, .int a1, .int a2, .int a3, .int a4] hp (some (.int (if a1 = 3 then Int32.ofInt (-3) else sh_s a1 a2 a3 a4 z.toInt.toNat))) hp' ∧ ab_h nm_GH hp' ∧ hp'[na_owes]? = some (.inl (nr_owes, 10, .inl (fun i => if i < z.toInt.toNat then sh_t a1 a2 a3 a4 i else g i))) ∧ px_fr [(69, 0)] [na_owes] hp hp' := by
  unfold sh_eM at t
  split at t
  rotate_left
  · cases t
  rename_i o ho
  simp only [Bool.and_eq_true, List.all_eq_true, List.isEmpty_iff] at t
  rcases ex_runS_ok di_no rfl (by show _ ≤ _; exact Nat.le_of_ble_eq_true rfl) ho hG (sh_av (a3 := a3) (a4 := a4) h1 h2 h3 h4) (fun q hq => (by cases hq)) with ⟨r, hp', q, m1, -⟩ | ⟨pc', lv, st, hp1, A', m1, m2, m3, m4⟩
  · rw [t.1] at m1
    cases m1
  obtain ⟨q1, q2⟩ := t.2 _ m1
  have q1 := Nat.eq_of_beq_eq_true q1
  simp only at q1
  subst q1
  obtain ⟨γ2, -, h9, -⟩ := ac_le_ok q2 m2
  obtain ⟨b1, b2, b3, b4, -⟩ := h9
  have mem : ∀ {a b c d e f g : Nat × ab_V}, a ∈ [a, b, c, d, e, f, g] ∧ b ∈ [a, b, c, d, e, f, g] ∧ c ∈ [a, b, c, d, e, f, g] ∧ d ∈ [a, b, c, d, e, f, g] ∧ e ∈ [a, b, c, d, e, f, g] ∧ f ∈ [a, b, c, d, e, f, g] ∧ g ∈ [a, b, c, d, e, f, g] := by simp
  obtain ⟨u0, l0, o0⟩ := b1 0 _ mem.1
  obtain ⟨u1, l1, o1⟩ := b1 1 _ mem.2.1
  obtain ⟨u2, l2, o2⟩ := b1 2 _ mem.2.2.1
  obtain ⟨u4, l4, o4⟩ := b1 4 _ mem.2.2.2.1
  obtain ⟨u5, l5, o5⟩ := b1 5 _ mem.2.2.2.2.1
  obtain ⟨u6, l6, o6⟩ := b1 6 _ mem.2.2.2.2.2.1
  obtain ⟨u7, l7, o7⟩ := b1 7 _ mem.2.2.2.2.2.2
  obtain ⟨c0, rfl, e0⟩ := ab_f2 o0.1
  cases List.mem_singleton.mp e0
  obtain ⟨rfl, -, -⟩ := ex_org o1
  obtain ⟨rfl, -, -⟩ := ex_org o2
  obtain ⟨rfl, -, -⟩ := ex_org o4
  obtain ⟨rfl, -, -⟩ := ex_org o5
  obtain ⟨x6, rfl, h6⟩ := ab_f0 o6.1
  obtain ⟨x7, rfl, h7⟩ := ab_f0 o7.1
  have zero : ∀ {x : Int32}, ab_in (0, 0) x.toInt → x = 0 := by
    intro x hx
    have : (0 : Int) ≤ x.toInt := hx.1
    have : x.toInt ≤ (0 : Int) := hx.2
    rw [← Int32.toInt_inj, Int32.toInt_zero]
    omega
  have h6 := zero h6
  have h7 := zero h7
  subst h6 h7
  have est : st = [] := by
    cases st with
    | nil => rfl
    | cons v s => exact absurd b2 (by simp [sh_BM, ab_st])
  subst est
  obtain ⟨hp', y1, y2, y3, y4⟩ := sh_M (k := a1) (n := a2) (f := a3) (step := a4) (g := g) z0 z9 z.toInt.toNat 0 lv hp1 (by omega) b3 (ex_fv_fr m3 (by decide) hz) (by rw [m3.1 _ _ (by decide) hg]; simp) l0 l1 l2 l4 l5 l6 l7
  exact ⟨hp', m4 _ _ y1, y2, y3, px_fr_tr (px_fr_mono m3 (by decide) (fun q hq => (by cases hq))) (px_fr_mono y4 (fun q hq => (by cases hq)) (by decide))⟩
theorem sh_s_ext {k n f step : Int32} {q : Nat} : ∀ m : Nat, (∀ i, q ≤ i → i < q + m → sh_t k n f step i = 0) → sh_s k n f step (q + m) = sh_s k n f step q
  | 0, _ => rfl
  | m + 1, h => by
    show sh_s k n f step (q + m) + sh_t k n f step (q + m) = _
    rw [h (q + m) (by omega) (by omega), Int32.add_zero]
    exact sh_s_ext m (fun i h1 h2 => h i h1 (by omega))
theorem sd_sheet {hp : px_H} {a1 a2 a3 a4 : Int32} (hG : ab_h nm_GH hp) (hR : sd_R hp) : sd_twoR mi_X_sheet mi_M_sheet true 0 69 [.int a1, .int a2, .int a3, .int a4] hp := by
  have hR0 := hR
  obtain ⟨z, f, g, h1, h2, h3, h4, h5⟩ := hR
  obtain ⟨z0, z9⟩ := di_bd hG h1
  have T := sh_bad_t
  simp only [Bool.and_eq_true] at T
  obtain ⟨T1, T2, T3, T4⟩ := T
  have E := sh_e_t
  simp only [Bool.and_eq_true] at E
  obtain ⟨E1, E2, E3, E4⟩ := E
  have i1 := ab_i32 a1
  have i2 := ab_i32 a2
  have j1 : (-2147483648 : Int) ≤ a1.toInt := i1.1
  have j2 : a1.toInt ≤ 2147483647 := i1.2
  have j3 : (-2147483648 : Int) ≤ a2.toInt := i2.1
  have j4 : a2.toInt ≤ 2147483647 := i2.2
  by_cases c1 : a1.toInt < 0
  · exact sh_bad_ok T1 hG hR0 j1 (by omega) j3 j4
  by_cases c2 : 3 < a1.toInt
  · exact sh_bad_ok T2 hG hR0 (by omega) j2 j3 j4
  by_cases c3 : 10 < a2.toInt
  · exact sh_bad_ok T3 hG hR0 j1 j2 (by omega) j4
  have three : a1 = 3 ↔ a1.toInt = 3 := by
    rw [← Int32.toInt_inj, show (3 : Int32).toInt = 3 from rfl]
  by_cases c4 : a1.toInt = 3
  · obtain ⟨lv, hp1, g1, f1, -, -, -, -, -, hX⟩ := sh_toX E1 (a1 := a1) (a2 := a2) (a3 := a3) (a4 := a4) hG (by omega) (by omega) j3 (by omega)
    obtain ⟨hp2, y1, y2, y3, y4⟩ := sh_clear g1 (ex_fv_fr f1 (by decide) h1) (f1.1 _ _ (by decide) h3) z0 z9
    obtain ⟨fs1, hx1, -, -⟩ := ac_obj g1 (c := 1) rfl
    have f2 : px_fr [] [3] hp hp2 := px_fr_tr (px_fr_mono f1 (fun q hq => (by cases hq)) (fun q hq => (by cases hq))) y4
    have cX : px_C nm_T nm_P mi_X_sheet [.ref 0, .int a1, .int a2, .int a3, .int a4] hp (some (.int (Int32.ofInt (-3)))) hp2 := by
      refine hX _ _ ?_
      refine px_q_virt (len := 3) (n := 0) (a := 1) (N := mm_Town_clearDebts) (mi := mi_Town_clearDebts) (ci := 6) rfl rfl rfl hx1 rfl (Nat.le_of_ble_eq_true rfl) (Nat.le_of_ble_eq_true rfl) rfl rfl y1 ?_
      refine px_Z_its (pc1 := 31) (lv1 := lv) (st1 := [.int (Int32.ofInt (-3))]) (hp1 := hp2) 1 (fun _ _ _ _ => rfl) ?_
      exact px_q_iret (len := 1) (ty := .int) rfl rfl rfl
    obtain ⟨hp3, w1, w2, w3, w4⟩ := sh_runM E3 (a1 := a1) (a2 := a2) (a3 := a3) (a4 := a4) (z := z) (g := g) y2 (by omega) (by omega) j3 (by omega) (ex_fv_fr f2 (by decide) h2) (f2.1 _ _ (by decide) h4) z0 z9
    rw [if_pos (three.mpr c4)] at w1
    refine ⟨_, _, hp2, hp3, cX, y2, w1, w2, fun _ => rfl, z, _, _, ex_fv_fr w4 (by decide) (ex_fv_fr f2 (by decide) h1), ex_fv_fr w4 (by decide) (ex_fv_fr f2 (by decide) h2), w4.1 _ _ (by decide) y3, w3, fun i hi => ?_⟩
    have := h5 i hi
    by_cases hz : i < z.toInt.toNat
    · rw [if_pos hz, if_pos hz]
      refine ⟨?_, fun _ => rfl⟩
      unfold sh_t
      rw [if_pos (Or.inl (three.mpr c4))]
    · rw [if_neg hz, if_neg hz]
      exact this
  by_cases c5 : a2.toInt < 0
  · exact sh_bad_ok T4 hG hR0 (by omega) (by omega) j3 (by omega)
  have k3 : ¬ a1 = 3 := fun h => c4 (three.mp h)
  obtain ⟨lv, hp1, g1, f1, l0, l1, l2, l3, l4, hX⟩ := sh_toX E2 (a1 := a1) (a2 := a2) (a3 := a3) (a4 := a4) hG (by omega) (by omega) (by omega) (by omega)
  obtain ⟨hp2, y1, y2, y3, y4⟩ := sh_clear g1 (ex_fv_fr f1 (by decide) h1) (f1.1 _ _ (by decide) h3) z0 z9
  obtain ⟨fs1, hx1, -, -⟩ := ac_obj g1 (c := 1) rfl
  have f2 : px_fr [] [3] hp hp2 := px_fr_tr (px_fr_mono f1 (fun q hq => (by cases hq)) (fun q hq => (by cases hq))) y4
  obtain ⟨hp3, q, q0, q1, q2, q3, q4, q5, q6⟩ := sh_X (k := a1) (n := a2) (f := a3) (step := a4) (z := z) (g := fun i => if i < z.toInt.toNat then 0 else f i) z0 z9 (by omega) (by omega) k3 z.toInt.toNat 0 (px_st1 (px_st1 (px_st1 lv 5 (.int 0)) 6 (.int a3)) 7 (.int (Int32.ofNat 0))) hp2 (by omega) (by omega) y2 (ex_fv_fr f2 (by decide) h1) (by rw [y3]; simp)
    (px_st1_nr (px_st1_nr (px_st1_nr l0))) (ab_sto1_find (ab_sto1_find (ab_sto1_find l1 (by decide) (fun _ hc => by cases hc)) (by decide) (fun _ hc => by cases hc)) (by decide) (fun _ hc => by cases hc)) (ab_sto1_find (ab_sto1_find (ab_sto1_find l2 (by decide) (fun _ hc => by cases hc)) (by decide) (fun _ hc => by cases hc)) (by decide) (fun _ hc => by cases hc)) (ab_sto1_find (ab_sto1_find (ab_sto1_find l4 (by decide) (fun _ hc => by cases hc)) (by decide) (fun _ hc => by cases hc)) (by decide) (fun _ hc => by cases hc)) (ab_sto1_find (ab_sto1_find (px_st1_at _ _ _) (by decide) (fun _ hc => by cases hc)) (by decide) (fun _ hc => by cases hc)) (ab_sto1_find (px_st1_at _ _ _) (by decide) (fun _ hc => by cases hc)) (px_st1_at _ _ _)
  have f3 : px_fr [] [3] hp hp3 := px_fr_tr f2 q6
  have cX : px_C nm_T nm_P mi_X_sheet [.ref 0, .int a1, .int a2, .int a3, .int a4] hp (some (.int (sh_s a1 a2 a3 a4 q))) hp3 := by
    refine hX _ _ ?_
    refine px_q_virt (len := 3) (n := 0) (a := 1) (N := mm_Town_clearDebts) (mi := mi_Town_clearDebts) (ci := 6) rfl rfl rfl hx1 rfl (Nat.le_of_ble_eq_true rfl) (Nat.le_of_ble_eq_true rfl) rfl rfl y1 ?_
    refine px_Z_its (pc1 := 49) (lv1 := px_st1 lv 5 (.int 0)) (st1 := []) (hp1 := hp2) 2 (fun _ _ _ _ => rfl) ?_
    refine px_q_iln (len := 1) (j := 3) rfl (ab_sto1_find l3 (by decide) (fun _ hc => by cases hc)) ?_
    exact px_Z_its (pc1 := 55) (lv1 := px_st1 (px_st1 (px_st1 lv 5 (.int 0)) 6 (.int a3)) 7 (.int (Int32.ofNat 0))) (st1 := []) (hp1 := hp2) 3 (fun _ _ _ _ => rfl) q3
  obtain ⟨hp4, w1, w2, w3, w4⟩ := sh_runM E4 (a1 := a1) (a2 := a2) (a3 := a3) (a4 := a4) (z := z) (g := g) q4 (by omega) (by omega) (by omega) (by omega) (ex_fv_fr f3 (by decide) h2) (f3.1 _ _ (by decide) h4) z0 z9
  rw [if_neg k3] at w1
  have hzero : ∀ i : Nat, q ≤ i → i < z.toInt.toNat → sh_t a1 a2 a3 a4 i = 0 := by
    intro i e1 e2
    unfold sh_t
    rw [if_pos (Or.inr (by omega))]
  have hsum : sh_s a1 a2 a3 a4 z.toInt.toNat = sh_s a1 a2 a3 a4 q := by
    have := sh_s_ext (k := a1) (n := a2) (f := a3) (step := a4) (q := q) (z.toInt.toNat - q) (fun i e1 e2 => hzero i e1 (by omega))
    rwa [show q + (z.toInt.toNat - q) = z.toInt.toNat from by omega] at this
  refine ⟨_, _, hp3, hp4, cX, q4, w1, w2, fun _ => hsum.symm, z, _, _, ex_fv_fr w4 (by decide) (ex_fv_fr f3 (by decide) h1), ex_fv_fr w4 (by decide) (ex_fv_fr f3 (by decide) h2), w4.1 _ _ (by decide) q5, w3, fun i hi => ?_⟩
  have := h5 i hi
  by_cases hz : i < z.toInt.toNat
  · rw [if_pos hz, if_pos hz]
    by_cases hq : i < q
    · rw [if_pos hq]
      exact ⟨rfl, fun h => by omega⟩
    · rw [if_neg hq, hzero i (by omega) hz]
      exact ⟨rfl, fun _ => rfl⟩
  · rw [if_neg hz, if_neg hz, if_neg (by omega)]
    exact this
end mg_4

section mg_5
/-! the relation of all that the town, the chest, the text and the rules hold -/
theorem two_of3 {R : px_H → px_H → Prop} (Rag : ∀ {a b a' b' : px_H}, agX a a' → agM b b' → R a b → R a' b') {P : px_H → px_H → px_H → Prop} {κX κM : ac_K} (kX : nm_ok κX) (kM : nm_ok κM) (pX : κX.2.2.1 = []) (pM : κM.2.2.1 = []) (iX : isX κX.2.2.2.2.1 κX.2.2.2.2.2 = true) (iM : isM κM.2.2.2.2.1 κM.2.2.2.2.2 = true) {avX avM : List Value} (fX : px_H → Option (Int32 × px_H)) (fM : px_H → Option (Int32 × px_H))
    (xX : ∀ (h : px_H) (q : Int32 × px_H), oS h → fX h = some q → px_C nm_T nm_P κX.1 avX h (some (.int q.1)) q.2) (xM : ∀ (h : px_H) (q : Int32 × px_H), oS h → fM h = some q → px_C nm_T nm_P κM.1 avM h (some (.int q.1)) q.2) {cmp : Bool} {hp : px_H} (hG : ab_h nm_GH hp) (aX : ac_argv κX.2.1 avX) (aM : ac_argv κM.2.1 avM) (hR : R hp hp)
    (sim : ∀ hM : px_H, ab_h nm_GH hM → R hp hM → ∃ (v w : Int32) (hX' hM' : px_H), fX hp = some (v, hX') ∧ fM hM = some (w, hM') ∧ (cmp = true → v = w) ∧ P hM hX' hM')
    (fin : ∀ hM hX' hM' : px_H, oS hX' → oS hM' → R hp hM → P hM hX' hM' → px_fr κX.2.2.2.2.1 κX.2.2.2.2.2 hp hX' → px_fr κM.2.2.2.2.1 κM.2.2.2.2.2 hM hM' → oS hM → R hX' hM') :
    ∃ (v v' : Int32) (hp1 hp2 : px_H), px_C nm_T nm_P κX.1 avX hp (some (.int v)) hp1 ∧ ab_h nm_GH hp1 ∧ px_C nm_T nm_P κM.1 avM hp1 (some (.int v')) hp2 ∧ ab_h nm_GH hp2 ∧ (cmp = true → v = v') ∧ R hp2 hp2 := by
  have hS := oS_of hG
  obtain ⟨v, w, h1, -, s1, -, -, -⟩ := sim hp hG hR
  have c1 := xX hp _ hS s1
  obtain ⟨r, g1, o, m1, m2, m3, m4, -, -, m7⟩ := kX avX hp hG aX (fun i hi => by rw [pX] at hi; cases hi)
  obtain ⟨-, e⟩ := px_C_fun c1 m2
  simp only at e
  rw [← e] at m3 m7
  have a1 : agM hp h1 := agM_of hS m7 iX
  have hR1 := Rag (agX_rf hp) a1 hR
  obtain ⟨v2, w2, h1', h2, s3, s4, s5, s6⟩ := sim h1 m3 hR1
  rw [s1] at s3
  cases s3
  have c2 := xM h1 _ (oS_of m3) s4
  obtain ⟨r', g2, o', n1, n2, n3, n4, -, -, n7⟩ := kM avM h1 m3 aM (fun i hi => by rw [pM] at hi; cases hi)
  obtain ⟨-, e2⟩ := px_C_fun c2 n2
  simp only at e2
  rw [← e2] at n3 n7
  have a2 : agX h1 h2 := agX_of (oS_of m3) n7 iM
  exact ⟨v, w2, h1, h2, c1, m3, c2, n3, s5, Rag a2 (agM_rf h2) (fin h1 h1 h2 (oS_of m3) (oS_of n3) hR1 s6 m7 n7 (oS_of m3))⟩
/-- a cell of references that no frame names -/
theorem fr_aR {hp hp' : px_H} {ws : List (Nat × Nat)} {wa : List Nat} (hS : oS hp) {c : Nat} (hc : c < 106) (h : px_fr ws wa hp hp') (hw : c ∉ wa) (hn : ∀ k, (c, k) ∉ ws) : aR hp' c = aR hp c := (fr_cell hS hc h hn hw).2.2.2
/-- a rule beside -/
def RB (i : Nat) (hX hM : px_H) : Prop := ∃ ln, ln ≤ 7 ∧ gI hX (54 + 4 * i) 3 = Int32.ofNat ln ∧ aI hM 81 (1 + i) = Int32.ofNat ln ∧ ∀ k, k < ln → kR (aI hX (54 + 4 * i + 1) k) (aI hX (54 + 4 * i + 2) k) (aI hM 83 (7 * (1 + i) + k)) ∧ fR (aI hX (54 + 4 * i + 3) k) (aI hM 84 (7 * (1 + i) + k))
def RO (hX hM : px_H) : Prop := (∀ i, i < 3 → RB i hX hM) ∧ ∃ t : Nat, t < 8 ∧ gI hX 0 4 = Int32.ofNat t ∧ ∀ i, i < 3 → aI hM 82 (1 + i) = b01 (t.testBit i)
def KR (hX : px_H) : Prop := (∀ i, i < 3 → aR hX 51 i = 66 + i) ∧ ∀ i, i < 3 → aR hX 18 i = 54 + 4 * i
def FD (hX hM : px_H) : Prop := (∃ z dn nx ln, RLz z dn nx ln hX hM) ∧ KR hX ∧ DY hM ∧ TX hX hM ∧ RO hX hM
section sy_FD
variable {hX hM hX' hM' : px_H}
theorem KR_ag (a : agX hX hX') (h : KR hX) : KR hX' := ⟨fun i hi => by rw [agX_aR a (by omega)]; exact h.1 i hi, fun i hi => by rw [agX_aR a (by omega)]; exact h.2 i hi⟩
theorem DY_ag (b : agM hM hM') (h : DY hM) : DY hM' := fun d hd => by rw [agM_aI b (by omega) (by omega)]; exact h d hd
theorem TX_ag (a : agX hX hX') (b : agM hM hM') (h : TX hX hM) : TX hX' hM' := by
  unfold TX
  rw [agX_gI a (by omega), agX_aI a (c := 13) (by omega), agM_gI b, agM_aI b (c := 85) (by omega) (by omega)]
  exact h
theorem RB_ag {i : Nat} (hi : i < 3) (a : agX hX hX') (b : agM hM hM') (h : RB i hX hM) : RB i hX' hM' := by
  unfold RB
  rw [agX_gI a (show 54 + 4 * i < 69 by omega), agX_aI a (show 54 + 4 * i + 1 < 69 by omega), agX_aI a (show 54 + 4 * i + 2 < 69 by omega), agX_aI a (show 54 + 4 * i + 3 < 69 by omega), agM_aI b (c := 81) (by omega) (by omega), agM_aI b (c := 83) (by omega) (by omega), agM_aI b (c := 84) (by omega) (by omega)]
  exact h
theorem RO_ag (a : agX hX hX') (b : agM hM hM') (h : RO hX hM) : RO hX' hM' := by
  obtain ⟨h1, t, h2, h3, h4⟩ := h
  exact ⟨fun i hi => RB_ag hi a b (h1 i hi), t, h2, by rw [agX_gI a (by omega)]; exact h3, fun i hi => by rw [agM_aI b (by omega) (by omega)]; exact h4 i hi⟩
theorem FD_ag (a : agX hX hX') (b : agM hM hM') (h : FD hX hM) : FD hX' hM' := by
  obtain ⟨⟨z, dn, nx, ln, h1⟩, h2, h3, h4, h5⟩ := h
  exact ⟨⟨z, dn, nx, ln, RLz_ag a b h1⟩, KR_ag a h2, DY_ag b h3, TX_ag a b h4, RO_ag a b h5⟩
/-! what frames leave of it -/
variable {ws ws' : List (Nat × Nat)} {wa wa' : List Nat}
def fKR (ws : List (Nat × Nat)) (wa : List Nat) : Bool := ws.all (fun q => !Nat.beq q.1 51 && !Nat.beq q.1 18) && (!ac_in 51 wa && !ac_in 18 wa)
theorem KR_fr (oX : oS hX) (h : px_fr ws wa hX hX') (hw : fKR ws wa = true) (hR : KR hX) : KR hX' := by
  simp only [fKR, Bool.and_eq_true, Bool.not_eq_true'] at hw
  have n1 : ∀ k, (51, k) ∉ ws := fun k hm => by
    have := List.all_eq_true.mp hw.1 _ hm
    simp at this
  have n2 : ∀ k, (18, k) ∉ ws := fun k hm => by
    have := List.all_eq_true.mp hw.1 _ hm
    simp at this
  exact ⟨fun i hi => by rw [fr_aR oX (by omega) h (ac_in_no hw.2.1) n1]; exact hR.1 i hi, fun i hi => by rw [fr_aR oX (by omega) h (ac_in_no hw.2.2) n2]; exact hR.2 i hi⟩
abbrev wF_ (ws : List (Nat × Nat)) : Nat → Nat → Bool := fun c k => ac_has ws c k
abbrev wA_ (wa : List Nat) : Nat → Bool := fun c => ac_in c wa
theorem DY_k {W : Nat → Nat → Bool} {V : Nat → Bool} (b : fz W V hM hM') (hb : V 78 = false) (h : DY hM) : DY hM' := fun d hd => by rw [(b.2 78 hb).1]; exact h d hd
theorem TX_k {W W' : Nat → Nat → Bool} {V V' : Nat → Bool} (a : fz W V hX hX') (b : fz W' V' hM hM') (ha : nX W V [(12, 1)] [13] = true) (hb : nX W' V' [(69, 22)] [85] = true) (h : TX hX hM) : TX hX' hM' := by
  unfold TX
  rw [fz_gI a (c := 12) (k := 1) (nX_f ha (by decide)), (a.2 13 (nX_a ha (by decide))).1, fz_gI b (c := 69) (k := 22) (nX_f hb (by decide)), (b.2 85 (nX_a hb (by decide))).1]
  exact h
theorem RB_k {i : Nat} (hi : i < 3) {W W' : Nat → Nat → Bool} {V V' : Nat → Bool} (a : fz W V hX hX') (b : fz W' V' hM hM') (a1 : W (54 + 4 * i) 3 = false) (a2 : V (54 + 4 * i + 1) = false) (a3 : V (54 + 4 * i + 2) = false) (a4 : V (54 + 4 * i + 3) = false) (hb : nX W' V' [] [81, 83, 84] = true) (h : RB i hX hM) : RB i hX' hM' := by
  unfold RB
  rw [fz_gI a a1, (a.2 _ a2).1, (a.2 _ a3).1, (a.2 _ a4).1, (b.2 81 (nX_a hb (by decide))).1, (b.2 83 (nX_a hb (by decide))).1, (b.2 84 (nX_a hb (by decide))).1]
  exact h
theorem RO_k {W W' : Nat → Nat → Bool} {V V' : Nat → Bool} (a : fz W V hX hX') (b : fz W' V' hM hM') (ha : nX W V [(0, 4), (54, 3), (58, 3), (62, 3)] [55, 56, 57, 59, 60, 61, 63, 64, 65] = true) (hb : nX W' V' [] [81, 83, 84] = true) (hb2 : V' 82 = false) (h : RO hX hM) : RO hX' hM' := by
  obtain ⟨h1, t, h2, h3, h4⟩ := h
  refine ⟨fun i hi => ?_, t, h2, by rw [fz_gI a (nX_f ha (by decide))]; exact h3, fun i hi => by rw [(b.2 82 hb2).1]; exact h4 i hi⟩
  match i, hi with
  | 0, _ => exact RB_k (by omega) a b (nX_f ha (by decide)) (nX_a ha (by decide)) (nX_a ha (by decide)) (nX_a ha (by decide)) hb (h1 0 (by omega))
  | 1, _ => exact RB_k (by omega) a b (nX_f ha (by decide)) (nX_a ha (by decide)) (nX_a ha (by decide)) (nX_a ha (by decide)) hb (h1 1 (by omega))
  | 2, _ => exact RB_k (by omega) a b (nX_f ha (by decide)) (nX_a ha (by decide)) (nX_a ha (by decide)) (nX_a ha (by decide)) hb (h1 2 (by omega))
  | i + 3, h => omega
/-- what stands beside RLz -/
def gX (ws : List (Nat × Nat)) (wa : List Nat) : Bool := fKR ws wa && (nX (wF_ ws) (wA_ wa) [(12, 1), (0, 4), (54, 3), (58, 3), (62, 3)] [13, 55, 56, 57, 59, 60, 61, 63, 64, 65])
def gM (ws : List (Nat × Nat)) (wa : List Nat) : Bool := nX (wF_ ws) (wA_ wa) [(69, 22)] [85, 81, 82, 83, 84]
theorem nX_sub {W : Nat → Nat → Bool} {V : Nat → Bool} {fs fs' : List (Nat × Nat)} {as as' : List Nat} (h : nX W V fs as = true) (h1 : ∀ q ∈ fs', q ∈ fs) (h2 : ∀ c ∈ as', c ∈ as) : nX W V fs' as' = true := by
  simp only [nX, Bool.and_eq_true]
  exact ⟨List.all_eq_true.mpr (fun q hq => by rw [nX_f h (h1 q hq)]; rfl), List.all_eq_true.mpr (fun c hc => by rw [nX_a h (h2 c hc)]; rfl)⟩
theorem TRO_fr (oX : oS hX) (oX' : oS hX') (oM : oS hM) (oM' : oS hM') (a : px_fr ws wa hX hX') (b : px_fr ws' wa' hM hM') (ha : gX ws wa = true) (hb : gM ws' wa' = true) (h : KR hX ∧ TX hX hM ∧ RO hX hM) : KR hX' ∧ TX hX' hM' ∧ RO hX' hM' := by
  simp only [gX, Bool.and_eq_true] at ha
  have fa := fz_fr oX oX' a
  have fb := fz_fr oM oM' b
  exact ⟨KR_fr oX a ha.1 h.1, TX_k fa fb (nX_sub ha.2 (by decide) (by decide)) (nX_sub hb (by decide) (by decide)) h.2.1, RO_k fa fb (nX_sub ha.2 (by decide) (by decide)) (nX_sub hb (by decide) (by decide)) (nX_a hb (by decide)) h.2.2⟩
end sy_FD
end mg_5

section mg_6
/-! RLz behind calls, by frames -/
section sy_FE
variable {z dn nx ln : Nat} {hX hM hX' hM' : px_H} {W W' : Nat → Nat → Bool} {V V' : Nat → Bool}
/-- the rule is another -/
theorem RLz_kr {ln' : Nat} (a : fz W V hX hX') (b : fz W' V' hM hM') (ha : nX W V [(1, 0), (1, 8), (19, 0), (19, 1), (19, 2), (0, 11), (0, 14), (66, 0), (66, 1), (66, 2), (67, 0), (67, 1), (67, 2), (68, 0), (68, 1), (68, 2)] [2, 3, 4, 5, 6, 7, 8, 9, 10, 11, 52] = true) (hb : nX W' V' [(69, 3), (69, 11), (69, 15), (69, 20), (69, 31), (69, 32), (69, 33), (69, 37)] [71, 72, 73, 74, 75, 76, 77, 78, 79, 80, 88, 89, 90, 100, 101, 102, 103, 104] = true) (h : RLz z dn nx ln hX hM) (hr : RR0 ln' hX' hM') : RLz z dn nx ln' hX' hM' := by
  obtain ⟨h1, h2, h3, h4, ⟨h5, h6, h7⟩, h8, ⟨h9, h10⟩, h11⟩ := h
  refine ⟨TR_k a b (nX_sub ha (by decide) (by decide)) (nX_sub hb (by decide) (by decide)) h1, fun p hp hq => by rw [(a.2 3 (nX_a ha (by decide))).1]; exact h2 p hp hq, hr, CL_k a b (nX_sub ha (by decide) (by decide)) (nX_sub hb (by decide) (by decide)) h4, ⟨h5, by rw [fz_gI a (nX_f ha (by decide))]; exact h6, by rw [fz_gI b (nX_f hb (by decide))]; exact h7⟩, ?_, ⟨by rw [fz_gI b (nX_f hb (by decide))]; exact h9, by rw [fz_gI b (nX_f hb (by decide))]; exact h10⟩, KP_k a b (nX_sub ha (by decide) (by decide)) (nX_sub hb (by decide) (by decide)) h11⟩
  rw [fz_gI a (nX_f ha (by decide)), fz_gI b (c := 69) (k := 37) (nX_f hb (by decide))]
  exact h8
/-- a drawing is done -/
theorem RLz_run (a : fz W V hX hX') (b : fz W' V' hM hM') (ha : nX W V [(1, 0), (1, 8), (14, 3), (0, 14), (66, 0), (66, 1), (66, 2), (67, 0), (67, 1), (67, 2), (68, 0), (68, 1), (68, 2)] [2, 3, 4, 5, 6, 7, 8, 9, 10, 11, 15, 16, 17, 52] = true) (hb : nX W' V' [(69, 3), (69, 11), (69, 15), (69, 20)] [71, 72, 73, 74, 75, 76, 77, 78, 79, 80, 81, 83, 84, 100, 101, 102, 103, 104] = true) (h : RLz z dn nx ln hX hM) (hd : nx < dn) (hr : RP z nx hX' hM') : RLz z dn (nx + 1) ln hX' hM' := by
  obtain ⟨h1, h2, h3, h4, ⟨h5, h6, h7⟩, h8, ⟨h9, h10⟩, h11⟩ := h
  obtain ⟨r1, r2, r3, r4⟩ := hr
  have d6 := h1.2.1
  exact ⟨TR_k a b (nX_sub ha (by decide) (by decide)) (nX_sub hb (by decide) (by decide)) h1, fun p hp hq => by rw [(a.2 3 (nX_a ha (by decide))).1]; exact h2 p hp hq, RR0_k a b (nX_sub ha (by decide) (by decide)) (nX_sub hb (by decide) (by decide)) h3, r1, ⟨by omega, r3, r2⟩, r4, ⟨by rw [fz_gI b (nX_f hb (by decide))]; exact h9, by rw [fz_gI b (nX_f hb (by decide))]; exact h10⟩, KP_k a b (nX_sub ha (by decide) (by decide)) (nX_sub hb (by decide) (by decide)) h11⟩
/-- debts are others -/
theorem RLz_debt (a : fz W V hX hX') (b : fz W' V' hM hM') (ha : nX W V [(1, 0), (1, 8), (14, 3), (19, 0), (19, 1), (19, 2), (0, 11), (0, 14), (66, 0), (66, 1), (66, 2), (67, 0), (67, 1), (67, 2), (68, 0), (68, 1), (68, 2)] [2, 4, 5, 6, 7, 8, 9, 10, 11, 15, 16, 17, 52] = true) (hb : nX W' V' [(69, 3), (69, 11), (69, 15), (69, 20), (69, 31), (69, 32), (69, 33), (69, 37)] [71, 73, 74, 75, 76, 77, 78, 79, 80, 81, 83, 84, 88, 89, 90, 100, 101, 102, 103, 104] = true) (h : RLz z dn nx ln hX hM) (hr : ∀ p, p < 10 → aI hX' 3 p = aI hM' 72 p ∧ (z ≤ p → aI hX' 3 p = Int32.ofInt 0)) : RLz z dn nx ln hX' hM' := by
  obtain ⟨h1, h2, h3, h4, ⟨h5, h6, h7⟩, h8, ⟨h9, h10⟩, h11⟩ := h
  refine ⟨?_, fun p hp hq => (hr p hq).2 hp, RR0_k a b (nX_sub ha (by decide) (by decide)) (nX_sub hb (by decide) (by decide)) h3, CL_k a b (nX_sub ha (by decide) (by decide)) (nX_sub hb (by decide) (by decide)) h4, ⟨h5, by rw [fz_gI a (nX_f ha (by decide))]; exact h6, by rw [fz_gI b (nX_f hb (by decide))]; exact h7⟩, ?_, ⟨by rw [fz_gI b (nX_f hb (by decide))]; exact h9, by rw [fz_gI b (nX_f hb (by decide))]; exact h10⟩, KP_k a b (nX_sub ha (by decide) (by decide)) (nX_sub hb (by decide) (by decide)) h11⟩
  · unfold TR at h1 ⊢
    rw [fz_gI a (c := 1) (k := 0) (nX_f ha (by decide)), fz_gI a (c := 1) (k := 8) (nX_f ha (by decide)), fz_gI b (c := 69) (k := 3) (nX_f hb (by decide)), fz_gI b (c := 69) (k := 11) (nX_f hb (by decide)), (a.2 2 (nX_a ha (by decide))).1, (a.2 4 (nX_a ha (by decide))).1, (a.2 5 (nX_a ha (by decide))).1, (a.2 6 (nX_a ha (by decide))).1, (a.2 7 (nX_a ha (by decide))).1, (a.2 8 (nX_a ha (by decide))).1, (a.2 9 (nX_a ha (by decide))).1, (a.2 10 (nX_a ha (by decide))).1, (a.2 11 (nX_a ha (by decide))).1, (b.2 71 (nX_a hb (by decide))).1, (b.2 73 (nX_a hb (by decide))).1, (b.2 74 (nX_a hb (by decide))).1, (b.2 75 (nX_a hb (by decide))).1, (b.2 76 (nX_a hb (by decide))).1, (b.2 77 (nX_a hb (by decide))).1, (b.2 78 (nX_a hb (by decide))).1, (b.2 79 (nX_a hb (by decide))).1, (b.2 80 (nX_a hb (by decide))).1]
    obtain ⟨t1, t2, t3, t4, t5, t6, t7, t8, t9⟩ := h1
    exact ⟨t1, t2, t3, t4, t5, t6, fun p hp => ⟨(t7 p hp).1, (hr p hp).1, (t7 p hp).2.2.1, (t7 p hp).2.2.2⟩, t8, t9⟩
  · rw [fz_gI a (nX_f ha (by decide)), fz_gI b (c := 69) (k := 37) (nX_f hb (by decide))]
    exact h8
end sy_FE
/-! a text becomes a rule -/
section sy_FF
variable {hX hM hX' hM' : px_H}
theorem tb_t : (List.range 8).all (fun t => (List.range 3).all (fun i => decide (Int32.ofNat t ||| ((Int32.ofInt 1) <<< (Int32.ofNat i &&& 31)) = Int32.ofNat (t ||| (1 <<< i))) && (decide (t ||| (1 <<< i) < 8) && (List.range 3).all (fun j => decide ((t ||| (1 <<< i)).testBit j = (t.testBit j || Nat.beq j i)))))) = true := by decide +kernel
theorem tb {t i : Nat} (ht : t < 8) (hi : i < 3) : Int32.ofNat t ||| ((Int32.ofInt 1) <<< (Int32.ofNat i &&& 31)) = Int32.ofNat (t ||| (1 <<< i)) ∧ t ||| (1 <<< i) < 8 ∧ ∀ j, j < 3 → (t ||| (1 <<< i)).testBit j = (t.testBit j || Nat.beq j i) := by
  have := List.all_eq_true.mp (List.all_eq_true.mp tb_t t (List.mem_range.mpr ht)) i (List.mem_range.mpr hi)
  simp only [Bool.and_eq_true, decide_eq_true_eq, List.all_eq_true] at this
  exact ⟨this.1, this.2.1, fun j hj => this.2.2 j (List.mem_range.mpr hj)⟩
/-- a rule beside that is not read -/
theorem RB_keep {rc r i : Nat} (hi : i < 3) (hr : r ≠ 1 + i) (c1 : Wri rc (54 + 4 * i) 3 = false) (c2 : Vrc rc (54 + 4 * i + 1) = false) (c3 : Vrc rc (54 + 4 * i + 2) = false) (c4 : Vrc rc (54 + 4 * i + 3) = false) (a : fz (Wri rc) (Vrc rc) hX hX') (e1 : ∀ j, j ≠ r → aI hM' 81 j = aI hM 81 j) (e3 : ∀ j, ¬ (7 * r ≤ j ∧ j < 7 * r + 7) → aI hM' 83 j = aI hM 83 j ∧ aI hM' 84 j = aI hM 84 j) (h : RB i hX hM) : RB i hX' hM' := by
  obtain ⟨ln, l7, g1, g2, g3⟩ := h
  refine ⟨ln, l7, (fz_gI a c1).trans g1, by rw [e1 _ (by omega)]; exact g2, fun k hk => ?_⟩
  rw [(a.2 _ c2).1, (a.2 _ c3).1, (a.2 _ c4).1, (e3 (7 * (1 + i) + k) (by omega)).1, (e3 (7 * (1 + i) + k) (by omega)).2]
  exact g3 k hk
theorem RB_read {i c : Nat} (c7 : c ≤ 7) (g1 : gI hX' (54 + 4 * i) 3 = Int32.ofNat c) (g2 : aI hM' 81 = upd (aI hM 81) (1 + i) (Int32.ofNat c)) (g3 : ∀ k, k < c → kR (aI hX' (54 + 4 * i + 1) k) (aI hX' (54 + 4 * i + 2) k) (aI hM' 83 (7 * (1 + i) + k)) ∧ fR (aI hX' (54 + 4 * i + 3) k) (aI hM' 84 (7 * (1 + i) + k))) : RB i hX' hM' :=
  ⟨c, c7, g1, by rw [g2, upd_eq, if_pos rfl], g3⟩
theorem w_14 : nX (Wri 14) (Vrc 14) [(1, 0), (1, 8), (19, 0), (19, 1), (19, 2), (0, 11), (0, 14), (66, 0), (66, 1), (66, 2), (67, 0), (67, 1), (67, 2), (68, 0), (68, 1), (68, 2)] [2, 3, 4, 5, 6, 7, 8, 9, 10, 11, 52] = true := by decide
theorem w_ru : nX Wru Vru [(69, 3), (69, 11), (69, 15), (69, 20), (69, 31), (69, 32), (69, 33), (69, 37)] [71, 72, 73, 74, 75, 76, 77, 78, 79, 80, 88, 89, 90, 100, 101, 102, 103, 104] = true := by decide
theorem w_ot : (List.range 3).all (fun i => nX (Wri (54 + 4 * i)) (Vrc (54 + 4 * i)) [(1, 0), (1, 8), (14, 3), (19, 0), (19, 1), (19, 2), (0, 11), (0, 14), (0, 4), (66, 0), (66, 1), (66, 2), (67, 0), (67, 1), (67, 2), (68, 0), (68, 1), (68, 2)] [2, 3, 4, 5, 6, 7, 8, 9, 10, 11, 13, 15, 16, 17, 52]) = true := by decide
theorem sim_rule (oX : oS hX) (oM : oS hM) (hR : FD hX hM) : ∃ (v : Int32) (hX' hM' : px_H), fn_X_rule hX = some (v, hX') ∧ fn_M_rule hM = some (v, hM') ∧ (∃ z dn nx ln, RLz z dn nx ln hX' hM') ∧ DY hM' ∧ TX hX' hM' ∧ RO hX' hM' := by
  obtain ⟨⟨z, dn, nx, ln, hL⟩, hK, hD, ⟨n, n4, t1, t2, t3⟩, hO, t, t8, tt, tb9⟩ := hR
  have hL1 := RLz_thr hL oM
  obtain ⟨o1, f1⟩ := vl_thr oM
  have t2' : gI (wF hM 69 0 (.int (Int32.ofInt 0))) 69 22 = Int32.ofNat n := (fz_gI f1 rfl).trans t2
  have ee : ∀ c, aI (wF hM 69 0 (.int (Int32.ofInt 0))) c = aI hM c := fun _ => aI_wF
  unfold fn_X_rule fn_M_rule
  simp only [sb]
  generalize wF hM 69 0 (.int (Int32.ofInt 0)) = m1 at o1 hL1 t2' ee ⊢
  obtain ⟨v, hX', hM', e1, e2, oX', oM', fX, fM, x0, m0, alt⟩ := sim_reads (rc := 14) (r := 0) (by decide) (by omega) oX o1 n4 t1 t2' (fun i hi => by rw [ee]; exact t3 i hi)
  have e2 : fn_M_readsRule (Int32.ofInt 0) m1 = some (v, hM') := e2
  rw [e1, e2]
  have T2 : TX hX' hM' := ⟨0, by omega, x0, m0, fun i hi => by rw [(fX.2 13 rfl).1, (fM.2 85 rfl).1, ee]; exact t3 i hi⟩
  have D2 : DY hM' := fun d hd => by rw [(fM.2 78 rfl).1, ee]; exact hD d hd
  have L2 : ∀ ln', RR0 ln' hX' hM' → RLz z dn nx ln' hX' hM' := fun ln' hr => RLz_kr fX fM w_14 w_ru hL1 hr
  have x4 : gI hX' 0 4 = Int32.ofNat t := (fz_gI fX rfl).trans tt
  have O2 : (∀ j, j ≠ 0 → aI hM' 81 j = aI m1 81 j ∧ aI hM' 82 j = aI m1 82 j) → (∀ j, ¬ (7 * 0 ≤ j ∧ j < 7 * 0 + 7) → aI hM' 83 j = aI m1 83 j ∧ aI hM' 84 j = aI m1 84 j) → RO hX' hM' := by
    intro q1 q3
    have q0 : ∀ i, i < 3 → RB i hX m1 := fun i hi => by
      have := hO i hi
      unfold RB at this ⊢
      rw [ee, ee, ee]
      exact this
    refine ⟨fun i hi => ?_, t, t8, x4, fun i hi => by rw [(q1 (1 + i) (by omega)).2, ee]; exact tb9 i hi⟩
    match i, hi with
    | 0, _ => exact RB_keep (rc := 14) (r := 0) (by omega) (by omega) rfl rfl rfl rfl fX (fun j hj => (q1 j hj).1) q3 (q0 0 (by omega))
    | 1, _ => exact RB_keep (rc := 14) (r := 0) (by omega) (by omega) rfl rfl rfl rfl fX (fun j hj => (q1 j hj).1) q3 (q0 1 (by omega))
    | 2, _ => exact RB_keep (rc := 14) (r := 0) (by omega) (by omega) rfl rfl rfl rfl fX (fun j hj => (q1 j hj).1) q3 (q0 2 (by omega))
    | i + 3, h => omega
  refine ⟨v, hX', hM', rfl, rfl, ?_, D2, T2, ?_⟩
  · rcases alt with ⟨-, c, c7, -, g1, g2, -, g3, -⟩ | ⟨-, fT, g1, g2, g3, g4⟩
    · refine ⟨z, dn, nx, c, L2 c ⟨c7, g1, by rw [g2, upd_eq, if_pos rfl], fun k hk => ?_⟩⟩
      have := g3 k hk
      rw [show 7 * 0 + k = k from by omega] at this
      exact this
    · refine ⟨z, dn, nx, ln, L2 ln ?_⟩
      have h3 := hL1.2.2.1
      unfold RR0 at h3 ⊢
      rw [fz_gI fT (c := 14) (k := 3) rfl, (fT.2 15 rfl).1, (fT.2 16 rfl).1, (fT.2 17 rfl).1, g1, g3, g4]
      exact h3
  · rcases alt with ⟨-, c, c7, -, g1, g2, g2', g3, g4⟩ | ⟨-, fT, g1, g2, g3, g4⟩
    · exact O2 (fun j hj => by rw [g2, g2', upd_eq, upd_eq, if_neg hj, if_neg hj]; exact ⟨rfl, rfl⟩) g4
    · exact O2 (fun j _ => by rw [g1, g2]; exact ⟨rfl, rfl⟩) (fun j _ => by rw [g3, g4]; exact ⟨rfl, rfl⟩)
theorem tx_0 {n : Nat} (n4 : n ≤ 40) : decide (0 ≤ (Int32.ofInt 0).toInt ∧ (Int32.ofInt 0).toInt ≤ (n : Int)) = true := decide_eq_true ⟨by decide, by rw [show (Int32.ofInt 0).toInt = 0 from by decide]; omega⟩
theorem RB_thr {i : Nat} {m1 : px_H} (ee : ∀ c, aI m1 c = aI hM c) (h : RB i hX hM) : RB i hX m1 := by
  unfold RB at h ⊢
  rw [ee, ee, ee]
  exact h
theorem sim_other (oX : oS hX) (oM : oS hM) (hR : FD hX hM) (a : Int32) : ∃ (v : Int32) (hX' hM' : px_H), fn_X_other a hX = some (v, hX') ∧ fn_M_other a hM = some (v, hM') ∧ (∃ z dn nx ln, RLz z dn nx ln hX' hM') ∧ DY hM' ∧ TX hX' hM' ∧ RO hX' hM' := by
  obtain ⟨⟨z, dn, nx, ln, hL⟩, hK, hD, ⟨n, n4, t1, t2, t3⟩, hO, t, t8, tt, tb9⟩ := hR
  have hL1 := RLz_thr hL oM
  obtain ⟨o1, f1⟩ := vl_thr oM
  have t2' : gI (wF hM 69 0 (.int (Int32.ofInt 0))) 69 22 = Int32.ofNat n := (fz_gI f1 rfl).trans t2
  have ee : ∀ c, aI (wF hM 69 0 (.int (Int32.ofInt 0))) c = aI hM c := fun _ => aI_wF
  have e3 : sx_in a.toInt64 (Int64.ofNat 0) (Int64.ofInt 2) = b01 (inN a 3) := by
    rw [b01_in, Int32.toInt_toInt64, i64c.1, i64c.2.2.1]
    unfold inN
    congr 1
    simp only [decide_eq_decide]
    omega
  unfold fn_X_other fn_M_other
  simp only [sb]
  generalize wF hM 69 0 (.int (Int32.ofInt 0)) = m1 at o1 hL1 t2' ee ⊢
  rw [e3, cmp_b01n, lt0, cmp_lt, show (Int32.ofInt 3).toInt = 3 from by decide]
  cases hb : inN a 3 with
  | false =>
    have hb2 : ¬ (0 ≤ a.toInt ∧ a.toInt < 3) := of_decide_eq_false hb
    have hC : fn_Text_cut (Int32.ofInt 0) hX = some (Int32.ofInt 1, wF hX 12 1 (.int (Int32.ofInt 0))) := by
      rw [tx_cut oX n4 t1, tx_0 n4, cond_true]
    have fX : fz Wtx V0 hX (wF hX 12 1 (.int (Int32.ofInt 0))) := fz_wF rfl
    have fM : fz Wtm V0 m1 (wF m1 69 22 (.int (Int32.ofInt 0))) := fz_wF rfl
    have L2 : RLz z dn nx ln (wF hX 12 1 (.int (Int32.ofInt 0))) (wF m1 69 22 (.int (Int32.ofInt 0))) := RLz_k fX fM (by decide) (by decide) hL1
    have T2 : TX (wF hX 12 1 (.int (Int32.ofInt 0))) (wF m1 69 22 (.int (Int32.ofInt 0))) := ⟨0, by omega, gI_wF (cs := [12]) (ci := 5) rfl List.mem_cons_self oX, gI_wF (cs := [69]) (ci := 9) rfl List.mem_cons_self o1, fun i hi => by rw [aI_wF, aI_wF, ee]; exact t3 i hi⟩
    have D2 : DY (wF m1 69 22 (.int (Int32.ofInt 0))) := fun d hd => by rw [aI_wF, ee]; exact hD d hd
    have O2 : RO (wF hX 12 1 (.int (Int32.ofInt 0))) (wF m1 69 22 (.int (Int32.ofInt 0))) := RO_k fX fM (by decide) (by decide) rfl ⟨fun i hi => RB_thr ee (hO i hi), t, t8, tt, fun i hi => by rw [ee]; exact tb9 i hi⟩
    rw [hC, Option.bind_some, cond_false]
    by_cases h0 : a.toInt < 0
    · rw [decide_eq_true h0, cond_true]
      exact ⟨_, _, _, rfl, rfl, ⟨z, dn, nx, ln, L2⟩, D2, T2, O2⟩
    · rw [decide_eq_false h0, cond_false, decide_eq_false (show ¬ a.toInt < 3 by omega), cond_false]
      exact ⟨_, _, _, rfl, rfl, ⟨z, dn, nx, ln, L2⟩, D2, T2, O2⟩
  | true =>
    obtain ⟨i, i3, rfl⟩ := inN_t hb
    have hti := nm_ofNat_toInt i (by omega)
    rw [cond_true, hti, decide_eq_false (show ¬ (i : Int) < 0 by omega), cond_false, decide_eq_true (show (i : Int) < 3 by omega), cond_true, nm_inR i 3 i3 (by omega), cond_true, nm_ofNat_clamp i (by omega), hK.2 i i3]
    have hrc : 54 + 4 * i ∈ rcl := by
      match i, i3 with
      | 0, _ => decide
      | 1, _ => decide
      | 2, _ => decide
      | i + 3, h => omega
    obtain ⟨v, hX', hM', e1, e2, oX', oM', fX, fM, x0, m0, alt⟩ := sim_reads (rc := 54 + 4 * i) (r := 1 + i) hrc (by omega) oX o1 n4 t1 t2' (fun i hi => by rw [ee]; exact t3 i hi)
    have e2 : fn_M_readsRule (Int32.ofInt 1 + Int32.ofNat i) m1 = some (v, hM') := by
      rw [show Int32.ofInt 1 = Int32.ofNat 1 from rfl, ← Int32.ofNat_add]
      exact e2
    rw [e1, e2, Option.bind_some, Option.bind_some]
    have wX := List.all_eq_true.mp w_ot i (List.mem_range.mpr i3)
    have T2 : TX hX' hM' := ⟨0, by omega, x0, m0, fun j hj => by rw [(fX.2 13 (nX_a wX (by decide))).1, (fM.2 85 rfl).1, ee]; exact t3 j hj⟩
    have D2 : DY hM' := fun d hd => by rw [(fM.2 78 rfl).1, ee]; exact hD d hd
    have x4 : gI hX' 0 4 = Int32.ofNat t := (fz_gI fX (nX_f wX (by decide))).trans tt
    have q0 : ∀ j, j < 3 → RB j hX m1 := fun j hj => RB_thr ee (hO j hj)
    have KB : (∀ j, j ≠ 1 + i → aI hM' 81 j = aI m1 81 j) → (∀ j, ¬ (7 * (1 + i) ≤ j ∧ j < 7 * (1 + i) + 7) → aI hM' 83 j = aI m1 83 j ∧ aI hM' 84 j = aI m1 84 j) → ∀ j, j < 3 → j ≠ i → RB j hX' hM' := by
      intro q1 q3 j hj hne
      have cc : Wri (54 + 4 * i) (54 + 4 * j) 3 = false ∧ Vrc (54 + 4 * i) (54 + 4 * j + 1) = false ∧ Vrc (54 + 4 * i) (54 + 4 * j + 2) = false ∧ Vrc (54 + 4 * i) (54 + 4 * j + 3) = false := by
        match i, i3, j, hj, hne with
        | 0, _, 1, _, _ => decide
        | 0, _, 2, _, _ => decide
        | 1, _, 0, _, _ => decide
        | 1, _, 2, _, _ => decide
        | 2, _, 0, _, _ => decide
        | 2, _, 1, _, _ => decide
        | 0, _, 0, _, h => exact absurd rfl h
        | 1, _, 1, _, h => exact absurd rfl h
        | 2, _, 2, _, h => exact absurd rfl h
        | i + 3, h, _, _, _ => omega
        | _, _, j + 3, h, _ => omega
      exact RB_keep hj (by omega) cc.1 cc.2.1 cc.2.2.1 cc.2.2.2 fX q1 q3 (q0 j hj)
    have RR : (∀ j, j ≠ 1 + i → aI hM' 81 j = aI m1 81 j) → (∀ j, ¬ (7 * (1 + i) ≤ j ∧ j < 7 * (1 + i) + 7) → aI hM' 83 j = aI m1 83 j ∧ aI hM' 84 j = aI m1 84 j) → RR0 ln hX' hM' := by
      intro q1 q3
      obtain ⟨l7, h1, h2, h3⟩ := hL1.2.2.1
      refine ⟨l7, (fz_gI fX (nX_f wX (by decide))).trans h1, by rw [q1 0 (by omega)]; exact h2, fun k hk => ?_⟩
      rw [(fX.2 15 (nX_a wX (by decide))).1, (fX.2 16 (nX_a wX (by decide))).1, (fX.2 17 (nX_a wX (by decide))).1, (q3 k (by omega)).1, (q3 k (by omega)).2]
      exact h3 k hk
    rcases alt with ⟨hv, c, c7, -, g1, g2, g2', g3, g4⟩ | ⟨hv, fT, g1, g2, g3, g4⟩
    · rw [hv, cond_false]
      have q1 : ∀ j, j ≠ 1 + i → aI hM' 81 j = aI m1 81 j := fun j hj => by rw [g2, upd_eq, if_neg hj]
      obtain ⟨b1, b2, b3⟩ := tb t8 i3
      have L2 := RLz_kr fX fM (nX_sub wX (by decide) (by decide)) w_ru hL1 (RR q1 g4)
      have fY : fz (fun a k => Nat.beq a 0 && Nat.beq k 4) V0 hX' (wF hX' 0 4 (.int (gI hX' 0 4 ||| ((Int32.ofInt 1) <<< (Int32.ofNat i &&& 31))))) := fz_wF rfl
      have B2 : ∀ j, j < 3 → RB j hX' hM' := fun j hj => by
        by_cases hne : j = i
        · subst hne
          exact RB_read c7 g1 g2 g3
        · exact KB q1 g4 j hj hne
      refine ⟨v, _, hM', rfl, rfl, ⟨z, dn, nx, ln, RLz_k fY (fz_rf (W := W0) (V := V0)) (by decide) (by decide) L2⟩, D2, TX_k fY (fz_rf (W := W0) (V := V0)) (by decide) (by decide) T2, fun j hj => ?_, t ||| (1 <<< i), b2, ?_, fun j hj => ?_⟩
      · match j, hj with
        | 0, _ => exact RB_k (by omega) fY (fz_rf (W := W0) (V := V0)) rfl rfl rfl rfl (by decide) (B2 0 (by omega))
        | 1, _ => exact RB_k (by omega) fY (fz_rf (W := W0) (V := V0)) rfl rfl rfl rfl (by decide) (B2 1 (by omega))
        | 2, _ => exact RB_k (by omega) fY (fz_rf (W := W0) (V := V0)) rfl rfl rfl rfl (by decide) (B2 2 (by omega))
        | j + 3, h => omega
      · rw [gI_wF (cs := [0]) (ci := 8) rfl List.mem_cons_self oX', x4, b1]
      · rw [g2', upd_eq, b3 j hj, ee]
        by_cases hne : j = i
        · subst hne
          rw [if_pos rfl, Nat.beq_refl, Bool.or_true]
          rfl
        · rw [if_neg (by omega), tb9 j hj, show Nat.beq j i = false from by
            cases hq : Nat.beq j i with
            | false => rfl
            | true => exact absurd (Nat.eq_of_beq_eq_true hq) hne, Bool.or_false]
    · rw [hv, cond_true]
      have q1 : ∀ j, j ≠ 1 + i → aI hM' 81 j = aI m1 81 j := fun j _ => by rw [g1]
      have q3 : ∀ j, ¬ (7 * (1 + i) ≤ j ∧ j < 7 * (1 + i) + 7) → aI hM' 83 j = aI m1 83 j ∧ aI hM' 84 j = aI m1 84 j := fun j _ => by rw [g3, g4]; exact ⟨rfl, rfl⟩
      refine ⟨v, hX', hM', rfl, rfl, ⟨z, dn, nx, ln, RLz_kr fX fM (nX_sub wX (by decide) (by decide)) w_ru hL1 (RR q1 q3)⟩, D2, T2, fun j hj => ?_, t, t8, x4, fun j hj => by rw [g2, ee]; exact tb9 j hj⟩
      by_cases hne : j = i
      · subst hne
        obtain ⟨ln', l7, r1, r2, r3⟩ := q0 j hj
        refine ⟨ln', l7, ?_, by rw [g1]; exact r2, fun k hk => ?_⟩
        · match j, hj with
          | 0, _ => exact (fz_gI fT rfl).trans r1
          | 1, _ => exact (fz_gI fT rfl).trans r1
          | 2, _ => exact (fz_gI fT rfl).trans r1
          | j + 3, h => omega
        · rw [(fT.2 _ rfl).1, (fT.2 _ rfl).1, (fT.2 _ rfl).1, g3, g4]
          exact r3 k hk
      · exact KB q1 q3 j hj hne
end sy_FF
end mg_6

section mg_7
/-! the calls of the drawing level, pair by pair -/
def nm_R (hp : px_H) : Prop := FD hp hp
def ex_tw (X M : Nat) (cmp : Bool) (a a' : Nat) (t : List Value) (hp : px_H) : Prop :=
  ∃ (v v' : Int32) (hp1 hp2 : px_H), px_C nm_T nm_P X (.ref a :: t) hp (some (.int v)) hp1 ∧ ab_h nm_GH hp1 ∧ px_C nm_T nm_P M (.ref a' :: t) hp1 (some (.int v')) hp2 ∧ ab_h nm_GH hp2 ∧ (cmp = true → v = v') ∧ nm_R hp2
/-- where only the town and the chest are touched -/
theorem pl_two {κX κM : ac_K} (kX : nm_ok κX) (kM : nm_ok κM) (pX : κX.2.2.1 = []) (pM : κM.2.2.1 = []) (iX : isX κX.2.2.2.2.1 κX.2.2.2.2.2 = true) (iM : isM κM.2.2.2.2.1 κM.2.2.2.2.2 = true) {avX avM : List Value} (fX : px_H → Option (Int32 × px_H)) (fM : px_H → Option (Int32 × px_H))
    (xX : ∀ (h : px_H) (q : Int32 × px_H), oS h → fX h = some q → px_C nm_T nm_P κX.1 avX h (some (.int q.1)) q.2) (xM : ∀ (h : px_H) (q : Int32 × px_H), oS h → fM h = some q → px_C nm_T nm_P κM.1 avM h (some (.int q.1)) q.2) {cmp : Bool} {hp : px_H} (hG : ab_h nm_GH hp) (aX : ac_argv κX.2.1 avX) (aM : ac_argv κM.2.1 avM) (hR : nm_R hp)
    (ga : gX κX.2.2.2.2.1 κX.2.2.2.2.2 = true) (gb : gM κM.2.2.2.2.1 κM.2.2.2.2.2 = true) (gd : ac_in 78 κM.2.2.2.2.2 = false)
    (sim : ∀ hM : px_H, ab_h nm_GH hM → ∀ z dn nx ln, RLz z dn nx ln hp hM → KR hp → ∃ (v w : Int32) (hX' hM' : px_H), fX hp = some (v, hX') ∧ fM hM = some (w, hM') ∧ (cmp = true → v = w) ∧ ∃ z dn nx ln, RLz z dn nx ln hX' hM') :
    ∃ (v v' : Int32) (hp1 hp2 : px_H), px_C nm_T nm_P κX.1 avX hp (some (.int v)) hp1 ∧ ab_h nm_GH hp1 ∧ px_C nm_T nm_P κM.1 avM hp1 (some (.int v')) hp2 ∧ ab_h nm_GH hp2 ∧ (cmp = true → v = v') ∧ nm_R hp2 :=
  two_of3 (R := FD) FD_ag (P := fun _ hX' hM' => ∃ z dn nx ln, RLz z dn nx ln hX' hM') kX kM pX pM iX iM fX fM xX xM hG aX aM hR
    (fun hM gM hR => by
      obtain ⟨⟨z, dn, nx, ln, hL⟩, hK, -⟩ := hR
      exact sim hM gM z dn nx ln hL hK)
    (fun hM hX' hM' oX' oM' hR hP a b oM => by
      obtain ⟨-, hK, hD, hT, hO⟩ := hR
      obtain ⟨k1, k2, k3⟩ := TRO_fr (oS_of hG) oX' oM oM' a b ga gb ⟨hK, hT, hO⟩
      exact ⟨hP, k1, DY_k (fz_fr oM oM' b) gd hD, k2, k3⟩)
theorem mp_e {f : px_H → Option Int32} {h : px_H} {q : Int32 × px_H} (e : (f h).map (fun v => (v, h)) = some q) : f h = some q.1 ∧ q.2 = h := by
  cases hf : f h with
  | none => rw [hf] at e; cases e
  | some v => rw [hf] at e; cases e; exact ⟨rfl, rfl⟩

theorem xp_person {hp : px_H} {a0 : Int32} (hG : ab_h nm_GH hp) (hR : nm_R hp) : ex_tw mi_X_person mi_M_person true 0 69 [.int a0] hp := by
  exact pl_two kp_X_person_0 kp_M_person_0 rfl rfl (by decide +kernel) (by decide +kernel) (avX := [.ref 0, .int a0]) (avM := [.ref 69, .int a0]) (fn_X_person a0) (fn_M_person a0) (fun h q hS e => (fx_X_person hS e).1) (fun h q hS e => (fx_M_person hS e).1) (cmp := true) hG ⟨⟨rfl, List.mem_cons_self⟩, ⟨rfl, ab_i32 _⟩, trivial⟩ ⟨⟨rfl, List.mem_cons_self⟩, ⟨rfl, ab_i32 _⟩, trivial⟩ hR (by decide +kernel) (by decide +kernel) (by decide +kernel) (fun hM gM z dn nx ln hL hK => by
    obtain ⟨v, hX', hM', e1, e2, z', h⟩ := sim_person (oS_of hG) (oS_of gM) hL a0
    exact ⟨v, v, hX', hM', e1, e2, fun _ => rfl, z', dn, nx, ln, h⟩)

theorem xp_debt {hp : px_H} {a0 : Int32} {a1 : Int32} (hG : ab_h nm_GH hp) (hR : nm_R hp) : ex_tw mi_X_debt mi_M_debt true 0 69 [.int a0, .int a1] hp := by
  exact pl_two kp_X_debt_0 kp_M_debt_0 rfl rfl (by decide +kernel) (by decide +kernel) (avX := [.ref 0, .int a0, .int a1]) (avM := [.ref 69, .int a0, .int a1]) (fn_X_debt a0 a1) (fn_M_debt a0 a1) (fun h q hS e => (fx_X_debt hS e).1) (fun h q hS e => (fx_M_debt hS e).1) (cmp := true) hG ⟨⟨rfl, List.mem_cons_self⟩, ⟨rfl, ab_i32 _⟩, ⟨rfl, ab_i32 _⟩, trivial⟩ ⟨⟨rfl, List.mem_cons_self⟩, ⟨rfl, ab_i32 _⟩, ⟨rfl, ab_i32 _⟩, trivial⟩ hR (by decide +kernel) (by decide +kernel) (by decide +kernel) (fun hM gM z dn nx ln hL hK => by
    obtain ⟨v, hX', hM', e1, e2, h⟩ := sim_debt (oS_of hG) (oS_of gM) hL a0 a1
    exact ⟨v, v, hX', hM', e1, e2, fun _ => rfl, z, dn, nx, ln, h⟩)

theorem xp_away {hp : px_H} {a0 : Int32} {a1 : Int32} {a2 : Int32} (hG : ab_h nm_GH hp) (hR : nm_R hp) : ex_tw mi_X_away mi_M_away true 0 69 [.int a0, .int a1, .int a2] hp := by
  exact pl_two kp_X_away_0 kp_M_away_0 rfl rfl (by decide +kernel) (by decide +kernel) (avX := [.ref 0, .int a0, .int a1, .int a2]) (avM := [.ref 69, .int a0, .int a1, .int a2]) (fn_X_away a0 a1 a2) (fn_M_away a0 a1 a2) (fun h q hS e => (fx_X_away hS e).1) (fun h q hS e => (fx_M_away hS e).1) (cmp := true) hG ⟨⟨rfl, List.mem_cons_self⟩, ⟨rfl, ab_i32 _⟩, ⟨rfl, ab_i32 _⟩, ⟨rfl, ab_i32 _⟩, trivial⟩ ⟨⟨rfl, List.mem_cons_self⟩, ⟨rfl, ab_i32 _⟩, ⟨rfl, ab_i32 _⟩, ⟨rfl, ab_i32 _⟩, trivial⟩ hR (by decide +kernel) (by decide +kernel) (by decide +kernel) (fun hM gM z dn nx ln hL hK => by
    obtain ⟨v, hX', hM', e1, e2, h⟩ := sim_away (oS_of hG) (oS_of gM) hL a0 a1 a2
    exact ⟨v, v, hX', hM', e1, e2, fun _ => rfl, z, dn, nx, ln, h⟩)

theorem xp_dies {hp : px_H} {a0 : Int32} {a1 : Int32} (hG : ab_h nm_GH hp) (hR : nm_R hp) : ex_tw mi_X_dies mi_M_dies true 0 69 [.int a0, .int a1] hp := by
  exact pl_two kp_X_dies_0 kp_M_dies_0 rfl rfl (by decide +kernel) (by decide +kernel) (avX := [.ref 0, .int a0, .int a1]) (avM := [.ref 69, .int a0, .int a1]) (fn_X_dies a0 a1) (fn_M_dies a0 a1) (fun h q hS e => (fx_X_dies hS e).1) (fun h q hS e => (fx_M_dies hS e).1) (cmp := true) hG ⟨⟨rfl, List.mem_cons_self⟩, ⟨rfl, ab_i32 _⟩, ⟨rfl, ab_i32 _⟩, trivial⟩ ⟨⟨rfl, List.mem_cons_self⟩, ⟨rfl, ab_i32 _⟩, ⟨rfl, ab_i32 _⟩, trivial⟩ hR (by decide +kernel) (by decide +kernel) (by decide +kernel) (fun hM gM z dn nx ln hL hK => by
    obtain ⟨v, hX', hM', e1, e2, h⟩ := sim_dies (oS_of hG) (oS_of gM) hL a0 a1
    exact ⟨v, v, hX', hM', e1, e2, fun _ => rfl, z, dn, nx, ln, h⟩)

theorem xp_pack {hp : px_H} {a0 : Int32} {a1 : Int32} (hG : ab_h nm_GH hp) (hR : nm_R hp) : ex_tw mi_X_pack mi_M_pack true 0 69 [.int a0, .int a1] hp := by
  exact pl_two kp_X_pack_0 kp_M_pack_0 rfl rfl (by decide +kernel) (by decide +kernel) (avX := [.ref 0, .int a0, .int a1]) (avM := [.ref 69, .int a0, .int a1]) (fn_X_pack a0 a1) (fn_M_pack a0 a1) (fun h q hS e => (fx_X_pack hS e).1) (fun h q hS e => (fx_M_pack hS e).1) (cmp := true) hG ⟨⟨rfl, List.mem_cons_self⟩, ⟨rfl, ab_i32 _⟩, ⟨rfl, ab_i32 _⟩, trivial⟩ ⟨⟨rfl, List.mem_cons_self⟩, ⟨rfl, ab_i32 _⟩, ⟨rfl, ab_i32 _⟩, trivial⟩ hR (by decide +kernel) (by decide +kernel) (by decide +kernel) (fun hM gM z dn nx ln hL hK => by
    obtain ⟨v, hX', hM', e1, e2, h⟩ := sim_pack (oS_of hG) (oS_of gM) hL a0 a1
    exact ⟨v, v, hX', hM', e1, e2, fun _ => rfl, z, dn, nx, ln, h⟩)

theorem xp_renew {hp : px_H} {a0 : Int32} {a1 : Int32} (hb : 0 ≤ a1.toInt ∧ a1.toInt ≤ 1) (hG : ab_h nm_GH hp) (hR : nm_R hp) : ex_tw mi_X_renew mi_M_renew true 0 69 [.int a0, .int a1] hp := by
  have hb01 : a1 = 0 ∨ a1 = 1 := by
    rcases (show a1.toInt = 0 ∨ a1.toInt = 1 by omega) with h | h
    · exact Or.inl (Int32.toInt_inj.mp h)
    · exact Or.inr (Int32.toInt_inj.mp h)
  exact pl_two kp_X_renew_0 kp_M_renew_0 rfl rfl (by decide +kernel) (by decide +kernel) (avX := [.ref 0, .int a0, .int a1]) (avM := [.ref 69, .int a0, .int a1]) (fn_X_renew a0 a1) (fn_M_renew a0 a1) (fun h q hS e => (fx_X_renew hS e).1) (fun h q hS e => (fx_M_renew hS e).1) (cmp := true) hG ⟨⟨rfl, List.mem_cons_self⟩, ⟨rfl, ab_i32 _⟩, ⟨rfl, hb⟩, trivial⟩ ⟨⟨rfl, List.mem_cons_self⟩, ⟨rfl, ab_i32 _⟩, ⟨rfl, hb⟩, trivial⟩ hR (by decide +kernel) (by decide +kernel) (by decide +kernel) (fun hM gM z dn nx ln hL hK => by
    obtain ⟨v, hX', hM', e1, e2, h⟩ := sim_renew (oS_of hG) (oS_of gM) hL a0 a1 hb01
    exact ⟨v, v, hX', hM', e1, e2, fun _ => rfl, z, dn, nx, ln, h⟩)

theorem xp_bars {hp : px_H} {a0 : Int32} (hG : ab_h nm_GH hp) (hR : nm_R hp) : ex_tw mi_X_bars mi_M_bars true 0 69 [.int a0] hp := by
  exact pl_two kp_X_bars_0 kp_M_bars_0 rfl rfl (by decide +kernel) (by decide +kernel) (avX := [.ref 0, .int a0]) (avM := [.ref 69, .int a0]) (fn_X_bars a0) (fn_M_bars a0) (fun h q hS e => (fx_X_bars hS e).1) (fun h q hS e => (fx_M_bars hS e).1) (cmp := true) hG ⟨⟨rfl, List.mem_cons_self⟩, ⟨rfl, ab_i32 _⟩, trivial⟩ ⟨⟨rfl, List.mem_cons_self⟩, ⟨rfl, ab_i32 _⟩, trivial⟩ hR (by decide +kernel) (by decide +kernel) (by decide +kernel) (fun hM gM z dn nx ln hL hK => by
    obtain ⟨v, hX', hM', e1, e2, h⟩ := sim_bars (oS_of hG) (oS_of gM) hL a0
    exact ⟨v, v, hX', hM', e1, e2, fun _ => rfl, z, dn, nx, ln, h⟩)

theorem xp_judge {hp : px_H} {a0 : Int64} {a1 : Int32} (hG : ab_h nm_GH hp) (hR : nm_R hp) : ex_tw mi_X_judge mi_M_judge false 0 69 [.long a0, .int a1] hp := by
  exact pl_two kp_X_judge_0 kp_M_judge_0 rfl rfl (by decide +kernel) (by decide +kernel) (avX := [.ref 0, .long a0, .int a1]) (avM := [.ref 69, .long a0, .int a1]) (fn_X_judge a0 a1) (fn_M_judge a0 a1) (fun h q hS e => (fx_X_judge hS e).1) (fun h q hS e => (fx_M_judge hS e).1) (cmp := false) hG ⟨⟨rfl, List.mem_cons_self⟩, ⟨rfl, ab_i64 _⟩, ⟨rfl, ab_i32 _⟩, trivial⟩ ⟨⟨rfl, List.mem_cons_self⟩, ⟨rfl, ab_i64 _⟩, ⟨rfl, ab_i32 _⟩, trivial⟩ hR (by decide +kernel) (by decide +kernel) (by decide +kernel) (fun hM gM z dn nx ln hL hK => by
    obtain ⟨v, w, hX', hM', e1, e2, h⟩ := sim_judge (oS_of hG) gM hL a0 a1
    exact ⟨v, w, hX', hM', e1, e2, fun q => (by cases q), z, dn, nx, ln, h⟩)

theorem xp_hold {hp : px_H} {a0 : Int64} {a1 : Int32} (hG : ab_h nm_GH hp) (hR : nm_R hp) : ex_tw mi_X_hold mi_M_hold true 0 69 [.long a0, .int a1] hp := by
  exact pl_two kp_X_hold_0 kp_M_hold_0 rfl rfl (by decide +kernel) (by decide +kernel) (avX := [.ref 0, .long a0, .int a1]) (avM := [.ref 69, .long a0, .int a1]) (fn_X_hold a0 a1) (fn_M_hold a0 a1) (fun h q hS e => (fx_X_hold hS e).1) (fun h q hS e => (fx_M_hold hS e).1) (cmp := true) hG ⟨⟨rfl, List.mem_cons_self⟩, ⟨rfl, ab_i64 _⟩, ⟨rfl, ab_i32 _⟩, trivial⟩ ⟨⟨rfl, List.mem_cons_self⟩, ⟨rfl, ab_i64 _⟩, ⟨rfl, ab_i32 _⟩, trivial⟩ hR (by decide +kernel) (by decide +kernel) (by decide +kernel) (fun hM gM z dn nx ln hL hK => by
    obtain ⟨v, hX', hM', e1, e2, nx', h⟩ := sim_hold (oS_of hG) gM hL a0 a1
    exact ⟨v, v, hX', hM', e1, e2, fun _ => rfl, z, dn, nx', ln, h⟩)

theorem xp_begin {hp : px_H}  (hG : ab_h nm_GH hp) (hR : nm_R hp) : ex_tw mi_X_begin mi_M_begin true 0 69 [] hp := by
  exact pl_two kp_X_begin_0 kp_M_begin_0 rfl rfl (by decide +kernel) (by decide +kernel) (avX := [.ref 0]) (avM := [.ref 69]) (fn_X_begin) (fn_M_begin) (fun h q hS e => (fx_X_begin hS e).1) (fun h q hS e => (fx_M_begin hS e).1) (cmp := true) hG ⟨⟨rfl, List.mem_cons_self⟩, trivial⟩ ⟨⟨rfl, List.mem_cons_self⟩, trivial⟩ hR (by decide +kernel) (by decide +kernel) (by decide +kernel) (fun hM gM z dn nx ln hL hK => by
    obtain ⟨v, hX', hM', e1, e2, h⟩ := sim_begin (oS_of hG) (oS_of gM) hL
    exact ⟨v, v, hX', hM', e1, e2, fun _ => rfl, z, dn, 0, ln, h⟩)

theorem xp_bag {hp : px_H} {a0 : Int32} {a1 : Int32} (hG : ab_h nm_GH hp) (hR : nm_R hp) : ex_tw mi_X_bag mi_M_bag true 0 69 [.int a0, .int a1] hp := by
  exact pl_two kp_X_bag_0 kp_M_bag_0 rfl rfl (by decide +kernel) (by decide +kernel) (avX := [.ref 0, .int a0, .int a1]) (avM := [.ref 69, .int a0, .int a1]) (fun h => (fn_X_bag a0 a1 h).map (fun v => (v, h))) (fn_M_bag a0 a1) (fun h q hS e => by obtain ⟨e1, e2⟩ := mp_e (f := fn_X_bag a0 a1) e; rw [e2]; exact (fx_X_bag hS e1).1) (fun h q hS e => (fx_M_bag hS e).1) (cmp := true) hG ⟨⟨rfl, List.mem_cons_self⟩, ⟨rfl, ab_i32 _⟩, ⟨rfl, ab_i32 _⟩, trivial⟩ ⟨⟨rfl, List.mem_cons_self⟩, ⟨rfl, ab_i32 _⟩, ⟨rfl, ab_i32 _⟩, trivial⟩ hR (by decide +kernel) (by decide +kernel) (by decide +kernel) (fun hM gM z dn nx ln hL hK => by
    obtain ⟨v, hM', e1, e2, h⟩ := sim_bag (oS_of gM) hL a0 a1
    exact ⟨v, v, hp, hM', by simp only [e1, Option.map_some], e2, fun _ => rfl, z, dn, nx, ln, h⟩)

theorem xp_sat {hp : px_H} {a0 : Int32} (hG : ab_h nm_GH hp) (hR : nm_R hp) : ex_tw mi_X_sat mi_M_sat true 0 69 [.int a0] hp := by
  exact pl_two kp_X_sat_0 kp_M_sat_0 rfl rfl (by decide +kernel) (by decide +kernel) (avX := [.ref 0, .int a0]) (avM := [.ref 69, .int a0]) (fun h => (fn_X_sat a0 h).map (fun v => (v, h))) (fn_M_sat a0) (fun h q hS e => by obtain ⟨e1, e2⟩ := mp_e (f := fn_X_sat a0) e; rw [e2]; exact (fx_X_sat hS e1).1) (fun h q hS e => (fx_M_sat hS e).1) (cmp := true) hG ⟨⟨rfl, List.mem_cons_self⟩, ⟨rfl, ab_i32 _⟩, trivial⟩ ⟨⟨rfl, List.mem_cons_self⟩, ⟨rfl, ab_i32 _⟩, trivial⟩ hR (by decide +kernel) (by decide +kernel) (by decide +kernel) (fun hM gM z dn nx ln hL hK => by
    obtain ⟨v, hM', e1, e2, h⟩ := sim_sat (oS_of gM) hL a0
    exact ⟨v, v, hp, hM', by simp only [e1, Option.map_some], e2, fun _ => rfl, z, dn, nx, ln, h⟩)

theorem xp_seed {hp : px_H} {a0 : Int32} (hG : ab_h nm_GH hp) (hR : nm_R hp) : ex_tw mi_X_seed mi_M_seed true 0 69 [.int a0] hp := by
  exact pl_two kp_X_seed_0 kp_M_seed_0 rfl rfl (by decide +kernel) (by decide +kernel) (avX := [.ref 0, .int a0]) (avM := [.ref 69, .int a0]) (fn_X_seed a0) (fn_M_seed a0) (fun h q hS e => (fx_X_seed hS e).1) (fun h q hS e => (fx_M_seed hS e).1) (cmp := true) hG ⟨⟨rfl, List.mem_cons_self⟩, ⟨rfl, ab_i32 _⟩, trivial⟩ ⟨⟨rfl, List.mem_cons_self⟩, ⟨rfl, ab_i32 _⟩, trivial⟩ hR (by decide +kernel) (by decide +kernel) (by decide +kernel) (fun hM gM z dn nx ln hL hK => by
    obtain ⟨v, hX', hM', e1, e2, h⟩ := sim_seed (oS_of hG) (oS_of gM) hL a0
    exact ⟨v, v, hX', hM', e1, e2, fun _ => rfl, z, dn, nx, ln, h⟩)

theorem xp_keep {hp : px_H} {a0 : Int32} (hG : ab_h nm_GH hp) (hR : nm_R hp) : ex_tw mi_X_keep mi_M_keep true 0 69 [.int a0] hp := by
  exact pl_two kp_X_keep_0 kp_M_keep_0 rfl rfl (by decide +kernel) (by decide +kernel) (avX := [.ref 0, .int a0]) (avM := [.ref 69, .int a0]) (fn_X_keep a0) (fn_M_keep a0) (fun h q hS e => (fx_X_keep hS e).1) (fun h q hS e => (fx_M_keep hS e).1) (cmp := true) hG ⟨⟨rfl, List.mem_cons_self⟩, ⟨rfl, ab_i32 _⟩, trivial⟩ ⟨⟨rfl, List.mem_cons_self⟩, ⟨rfl, ab_i32 _⟩, trivial⟩ hR (by decide +kernel) (by decide +kernel) (by decide +kernel) (fun hM gM z dn nx ln hL hK => by
    obtain ⟨v, hX', hM', e1, e2, h⟩ := sim_keep (oS_of hG) (oS_of gM) hK.1 hL a0
    exact ⟨v, v, hX', hM', e1, e2, fun _ => rfl, z, dn, nx, ln, h⟩)

theorem xp_again {hp : px_H} {a0 : Int32} (hG : ab_h nm_GH hp) (hR : nm_R hp) : ex_tw mi_X_again mi_M_again true 0 69 [.int a0] hp := by
  exact pl_two kp_X_again_0 kp_M_again_0 rfl rfl (by decide +kernel) (by decide +kernel) (avX := [.ref 0, .int a0]) (avM := [.ref 69, .int a0]) (fn_X_again a0) (fn_M_again a0) (fun h q hS e => (fx_X_again hS e).1) (fun h q hS e => (fx_M_again hS e).1) (cmp := true) hG ⟨⟨rfl, List.mem_cons_self⟩, ⟨rfl, ab_i32 _⟩, trivial⟩ ⟨⟨rfl, List.mem_cons_self⟩, ⟨rfl, ab_i32 _⟩, trivial⟩ hR (by decide +kernel) (by decide +kernel) (by decide +kernel) (fun hM gM z dn nx ln hL hK => by
    obtain ⟨v, hX', hM', e1, e2, nx', h⟩ := sim_again (oS_of hG) (oS_of gM) hK.1 hL a0
    exact ⟨v, v, hX', hM', e1, e2, fun _ => rfl, z, dn, nx', ln, h⟩)

theorem xp_run {hp : px_H} (hG : ab_h nm_GH hp) (hR : nm_R hp) : ex_tw mi_X_run mi_M_run true 0 69 [] hp := by
  exact two_of3 (R := FD) FD_ag (P := fun hM hX' hM' => ∃ z dn nx ln, RLz z dn nx ln hp hM ∧ ((nx < dn ∧ RP z nx hX' hM' ∧ RW hX' hM') ∨ RLz z dn nx ln hX' hM')) kp_X_run_0 kp_M_run_0 rfl rfl (by decide +kernel) (by decide +kernel) (avX := [.ref 0]) (avM := [.ref 69]) fn_X_run fn_M_run (fun h q hS e => (fx_X_run hS e).1) (fun h q hS e => (fx_M_run hS e).1) (cmp := true) hG ⟨⟨rfl, List.mem_cons_self⟩, trivial⟩ ⟨⟨rfl, List.mem_cons_self⟩, trivial⟩ hR
    (fun hM gM hR => by
      obtain ⟨⟨z, dn, nx, ln, hL⟩, -⟩ := hR
      obtain ⟨v, hX', hM', e1, e2, h⟩ := sim_Run (oS_of hG) gM hL
      refine ⟨v, v, hX', hM', e1, e2, fun _ => rfl, z, dn, nx, ln, hL, ?_⟩
      rcases h with h | h
      · exact Or.inl h
      · exact Or.inr h.1)
    (fun hM hX' hM' oX' oM' hR hP a b oM => by
      obtain ⟨-, hK, hD, hT, hO⟩ := hR
      obtain ⟨k1, k2, k3⟩ := TRO_fr (oS_of hG) oX' oM oM' a b (by decide +kernel) (by decide +kernel) ⟨hK, hT, hO⟩
      refine ⟨?_, k1, DY_k (fz_fr oM oM' b) (by decide +kernel) hD, k2, k3⟩
      obtain ⟨z, dn, nx, ln, hL, h⟩ := hP
      rcases h with ⟨hd, hr, -⟩ | h
      · exact ⟨z, dn, nx + 1, ln, RLz_run (fz_fr (oS_of hG) oX' a) (fz_fr oM oM' b) (by decide +kernel) (by decide +kernel) hL hd hr⟩
      · exact ⟨z, dn, nx, ln, h⟩)

theorem xp_drawing {hp : px_H} {a0 : Int32} {a1 : Int32} {a2 : Int32} (hG : ab_h nm_GH hp) (hR : nm_R hp) : ex_tw mi_X_drawing mi_M_drawing true 0 69 [.int a0, .int a1, .int a2] hp := by
  exact two_of3 (R := FD) FD_ag (P := fun hM hX' hM' => (∃ z dn nx ln, RLz z dn nx ln hX' hM') ∧ DY hM') kp_X_drawing_0 kp_M_drawing_0 rfl rfl (by decide +kernel) (by decide +kernel) (avX := [.ref 0, .int a0, .int a1, .int a2]) (avM := [.ref 69, .int a0, .int a1, .int a2]) (fn_X_drawing a0 a1 a2) (fn_M_drawing a0 a1 a2) (fun h q hS e => (fx_X_drawing hS e).1) (fun h q hS e => (fx_M_drawing hS e).1) (cmp := true) hG ⟨⟨rfl, List.mem_cons_self⟩, ⟨rfl, ab_i32 _⟩, ⟨rfl, ab_i32 _⟩, ⟨rfl, ab_i32 _⟩, trivial⟩ ⟨⟨rfl, List.mem_cons_self⟩, ⟨rfl, ab_i32 _⟩, ⟨rfl, ab_i32 _⟩, ⟨rfl, ab_i32 _⟩, trivial⟩ hR
    (fun hM gM hR => by
      obtain ⟨⟨z, dn, nx, ln, hL⟩, -, hD, -⟩ := hR
      obtain ⟨v, hX', hM', dn', e1, e2, h, hD'⟩ := sim_drawing (oS_of hG) (oS_of gM) hL hD a0 a1 a2
      exact ⟨v, v, hX', hM', e1, e2, fun _ => rfl, ⟨z, dn', nx, ln, h⟩, hD'⟩)
    (fun hM hX' hM' oX' oM' hR hP a b oM => by
      obtain ⟨-, hK, hD, hT, hO⟩ := hR
      obtain ⟨k1, k2, k3⟩ := TRO_fr (oS_of hG) oX' oM oM' a b (by decide +kernel) (by decide +kernel) ⟨hK, hT, hO⟩
      exact ⟨hP.1, k1, hP.2, k2, k3⟩)

theorem xp_sign {hp : px_H} {a0 : Int32} (hG : ab_h nm_GH hp) (hR : nm_R hp) : ex_tw mi_X_sign mi_M_sign true 0 69 [.int a0] hp := by
  exact two_of3 (R := FD) FD_ag (P := fun _ hX' hM' => TX hX' hM') kp_X_sign_0 kp_M_sign_0 rfl rfl (by decide +kernel) (by decide +kernel) (avX := [.ref 0, .int a0]) (avM := [.ref 69, .int a0]) (fn_X_sign a0) (fn_M_sign a0) (fun h q hS e => (fx_X_sign hS e).1) (fun h q hS e => (fx_M_sign hS e).1) (cmp := true) hG ⟨⟨rfl, List.mem_cons_self⟩, ⟨rfl, ab_i32 _⟩, trivial⟩ ⟨⟨rfl, List.mem_cons_self⟩, ⟨rfl, ab_i32 _⟩, trivial⟩ hR
    (fun hM gM hR => by
      obtain ⟨-, -, -, hT, -⟩ := hR
      obtain ⟨v, hX', hM', e1, e2, -, -, h⟩ := sim_sign (oS_of hG) (oS_of gM) hT a0
      exact ⟨v, v, hX', hM', e1, e2, fun _ => rfl, h⟩)
    (fun hM hX' hM' oX' oM' hR hP a b oM => by
      obtain ⟨⟨z, dn, nx, ln, hL⟩, hK, hD, hT, hO⟩ := hR
      have fa := fz_fr (oS_of hG) oX' a
      have fb := fz_fr oM oM' b
      exact ⟨⟨z, dn, nx, ln, RLz_k fa fb (by decide +kernel) (by decide +kernel) hL⟩, KR_fr (oS_of hG) a (by decide +kernel) hK, DY_k fb (by decide +kernel) hD, hP, RO_k fa fb (by decide +kernel) (by decide +kernel) (by decide +kernel) hO⟩)

theorem xp_end {hp : px_H} {a0 : Int32} (hG : ab_h nm_GH hp) (hR : nm_R hp) : ex_tw mi_X_end mi_M_end true 0 69 [.int a0] hp := by
  exact two_of3 (R := FD) FD_ag (P := fun _ hX' hM' => TX hX' hM') kp_X_end_0 kp_M_end_0 rfl rfl (by decide +kernel) (by decide +kernel) (avX := [.ref 0, .int a0]) (avM := [.ref 69, .int a0]) (fn_X_end a0) (fn_M_end a0) (fun h q hS e => (fx_X_end hS e).1) (fun h q hS e => (fx_M_end hS e).1) (cmp := true) hG ⟨⟨rfl, List.mem_cons_self⟩, ⟨rfl, ab_i32 _⟩, trivial⟩ ⟨⟨rfl, List.mem_cons_self⟩, ⟨rfl, ab_i32 _⟩, trivial⟩ hR
    (fun hM gM hR => by
      obtain ⟨-, -, -, hT, -⟩ := hR
      obtain ⟨v, hX', hM', e1, e2, -, -, h⟩ := sim_end (oS_of hG) (oS_of gM) hT a0
      exact ⟨v, v, hX', hM', e1, e2, fun _ => rfl, h⟩)
    (fun hM hX' hM' oX' oM' hR hP a b oM => by
      obtain ⟨⟨z, dn, nx, ln, hL⟩, hK, hD, hT, hO⟩ := hR
      have fa := fz_fr (oS_of hG) oX' a
      have fb := fz_fr oM oM' b
      exact ⟨⟨z, dn, nx, ln, RLz_k fa fb (by decide +kernel) (by decide +kernel) hL⟩, KR_fr (oS_of hG) a (by decide +kernel) hK, DY_k fb (by decide +kernel) hD, hP, RO_k fa fb (by decide +kernel) (by decide +kernel) (by decide +kernel) hO⟩)

theorem xp_rule {hp : px_H}  (hG : ab_h nm_GH hp) (hR : nm_R hp) : ex_tw mi_X_rule mi_M_rule true 0 69 [] hp := by
  exact two_of3 (R := FD) FD_ag (P := fun _ hX' hM' => (∃ z dn nx ln, RLz z dn nx ln hX' hM') ∧ DY hM' ∧ TX hX' hM' ∧ RO hX' hM') kp_X_rule_0 kp_M_rule_0 rfl rfl (by decide +kernel) (by decide +kernel) (avX := [.ref 0]) (avM := [.ref 69]) (fn_X_rule) (fn_M_rule) (fun h q hS e => (fx_X_rule hS e).1) (fun h q hS e => (fx_M_rule hS e).1) (cmp := true) hG ⟨⟨rfl, List.mem_cons_self⟩, trivial⟩ ⟨⟨rfl, List.mem_cons_self⟩, trivial⟩ hR
    (fun hM gM hR => by
      obtain ⟨v, hX', hM', e1, e2, h⟩ := sim_rule (oS_of hG) (oS_of gM) hR
      exact ⟨v, v, hX', hM', e1, e2, fun _ => rfl, h⟩)
    (fun hM hX' hM' oX' oM' hR hP a b oM => ⟨hP.1, KR_fr (oS_of hG) a (by decide +kernel) hR.2.1, hP.2⟩)

theorem xp_other {hp : px_H} {a0 : Int32} (hG : ab_h nm_GH hp) (hR : nm_R hp) : ex_tw mi_X_other mi_M_other true 0 69 [.int a0] hp := by
  exact two_of3 (R := FD) FD_ag (P := fun _ hX' hM' => (∃ z dn nx ln, RLz z dn nx ln hX' hM') ∧ DY hM' ∧ TX hX' hM' ∧ RO hX' hM') kp_X_other_0 kp_M_other_0 rfl rfl (by decide +kernel) (by decide +kernel) (avX := [.ref 0, .int a0]) (avM := [.ref 69, .int a0]) (fn_X_other a0) (fn_M_other a0) (fun h q hS e => (fx_X_other hS e).1) (fun h q hS e => (fx_M_other hS e).1) (cmp := true) hG ⟨⟨rfl, List.mem_cons_self⟩, ⟨rfl, ab_i32 _⟩, trivial⟩ ⟨⟨rfl, List.mem_cons_self⟩, ⟨rfl, ab_i32 _⟩, trivial⟩ hR
    (fun hM gM hR => by
      obtain ⟨v, hX', hM', e1, e2, h⟩ := sim_other (oS_of hG) (oS_of gM) hR a0
      exact ⟨v, v, hX', hM', e1, e2, fun _ => rfl, h⟩)
    (fun hM hX' hM' oX' oM' hR hP a b oM => ⟨hP.1, KR_fr (oS_of hG) a (by decide +kernel) hR.2.1, hP.2⟩)

theorem xp_sheet {hp : px_H} {a0 a1 a2 a3 : Int32} (hG : ab_h nm_GH hp) (hR : nm_R hp) : ex_tw mi_X_sheet mi_M_sheet true 0 69 [.int a0, .int a1, .int a2, .int a3] hp := by
  obtain ⟨⟨z, dn, nx, ln, hL⟩, hK, hD, hT, hO⟩ := hR
  have oS0 := oS_of hG
  have T := hL.1
  have hsd : sd_R hp := by
    obtain ⟨v1, w1, -, -⟩ := ex_fv (c := 1) (k := 0) (by decide +kernel) hG
    obtain ⟨v2, w2, -, -⟩ := ex_fv (c := 69) (k := 3) (by decide +kernel) hG
    have e1 : v1 = Int32.ofNat z := by have := T.2.2.1; unfold gI at this; rw [w1] at this; exact this
    have e2 : v2 = Int32.ofNat z := by have := T.2.2.2.1; unfold gI at this; rw [w2] at this; exact this
    subst e1 e2
    have z9 := T.1
    refine ⟨_, aI hp 3, aI hp 72, w1, w2, bAI_ok (cs := [3]) (t := 13) (n := 10) rfl List.mem_cons_self oS0, bAI_ok (cs := [72]) (t := nr_owes) (n := 10) rfl List.mem_cons_self oS0, fun i hi => ⟨(T.2.2.2.2.2.2.1 i hi).2.1, fun h => ?_⟩⟩
    rw [nm_ofNat_toInt z (by omega)] at h
    exact hL.2.1 i (by omega) hi
  obtain ⟨v, v', hp1, hp2, c1, g1, c2, g2, hv, hR2⟩ := sd_sheet (a1 := a0) (a2 := a1) (a3 := a2) (a4 := a3) hG hsd
  obtain ⟨r, hq, o, m1, m2, m3, m4, -, -, m7⟩ := kp_X_sheet_0 [.ref 0, .int a0, .int a1, .int a2, .int a3] hp hG ⟨⟨rfl, List.mem_cons_self⟩, ⟨rfl, ab_i32 _⟩, ⟨rfl, ab_i32 _⟩, ⟨rfl, ab_i32 _⟩, ⟨rfl, ab_i32 _⟩, trivial⟩ (fun i hi => (by cases hi))
  obtain ⟨-, e⟩ := px_C_fun c1 m2
  rw [← e] at m7
  obtain ⟨r', hq', o', n1, n2, n3, n4, -, -, n7⟩ := kp_M_sheet_0 [.ref 69, .int a0, .int a1, .int a2, .int a3] hp1 g1 ⟨⟨rfl, List.mem_cons_self⟩, ⟨rfl, ab_i32 _⟩, ⟨rfl, ab_i32 _⟩, ⟨rfl, ab_i32 _⟩, ⟨rfl, ab_i32 _⟩, trivial⟩ (fun i hi => (by cases hi))
  obtain ⟨-, e'⟩ := px_C_fun c2 n2
  rw [← e'] at n7
  have o1 := oS_of g1
  have o2 := oS_of g2
  refine ⟨v, v', hp1, hp2, c1, g1, c2, g2, hv, ?_⟩
  have A : agM hp hp1 := agM_of oS0 m7 (by decide +kernel)
  have B : agX hp1 hp2 := agX_of o1 n7 (by decide +kernel)
  have fa := fz_fr oS0 o1 m7
  have fb := fz_fr o1 o2 n7
  have hL1 := RLz_ag (agX_rf hp) A hL
  obtain ⟨k1, k2, k3⟩ := TRO_fr oS0 o1 o1 o2 m7 n7 (by decide +kernel) (by decide +kernel) ⟨hK, TX_ag (agX_rf hp) A hT, RO_ag (agX_rf hp) A hO⟩
  obtain ⟨zz, f, g, s1, s2, s3, s4, s5⟩ := hR2
  have f3 : aI hp2 3 = f := by unfold aI; rw [s3]
  have f72 : aI hp2 72 = g := by unfold aI; rw [s4]
  have B3 : aI hp1 3 = aI hp2 3 := (agX_aI B (by omega)).symm
  have ez : gI hp2 1 0 = zz := by unfold gI; rw [s1]
  have ez2 : gI hp2 1 0 = Int32.ofNat z := by
    rw [agX_gI B (by omega), fz_gI fa (show ac_has _ 1 0 = false from by decide +kernel)]
    exact T.2.2.1
  have z9 := T.1
  have hL2 : RLz z dn nx ln hp1 hp2 := RLz_debt fa fb (by decide +kernel) (by decide +kernel) hL1 (fun p hp9 => by
    rw [B3, f3, f72]
    refine ⟨(s5 p hp9).1, fun h => (s5 p hp9).2 ?_⟩
    rw [← ez, ez2, nm_ofNat_toInt z (by omega)]
    omega)
  exact ⟨⟨z, dn, nx, ln, RLz_ag B (agM_rf hp2) hL2⟩, KR_ag B k1, DY_k fb (by decide +kernel) (DY_ag A hD), TX_ag B (agM_rf hp2) k2, RO_ag B (agM_rf hp2) k3⟩

/-- a field that is as it was -/
theorem fr_drop {ws ws' : List (Nat × Nat)} {wa : List Nat} {h h' : px_H} {c k : Nat} (a : px_fr ws wa h h') (e : ac_fv h' c k = ac_fv h c k) (hs : ws.all (fun q => (Nat.beq q.1 c && Nat.beq q.2 k) || ac_has ws' q.1 q.2) = true) : px_fr ws' wa h h' := by
  refine ⟨a.1, fun d ci vs hd => ?_⟩
  obtain ⟨vs', h1, h2, h3⟩ := a.2 d ci vs hd
  refine ⟨vs', h1, h2, fun j hj => ?_⟩
  by_cases hm : (d, j) ∈ ws
  · have := List.all_eq_true.mp hs _ hm
    simp only [Bool.or_eq_true, Bool.and_eq_true] at this
    rcases this with ⟨q1, q2⟩ | q
    · have q1 := Nat.eq_of_beq_eq_true q1
      have q2 := Nat.eq_of_beq_eq_true q2
      subst q1 q2
      unfold ac_fv at e
      rw [h1, hd] at e
      exact e
    · exact absurd (ac_has_ok q) hj
  · exact h3 j hm
def ex_ckO (X : ex_M) (ov : List ac_O) (c k : Nat) (z : Int) : Bool := ex_isI c k && (match ex_run X.1 X.2.1 X.2.2.1 X.2.2.2.1 X.2.2.2.2.1 X.2.2.2.2.2 ov with
  | some os => os.all (ex_ze c k z)
  | none => false)
theorem ex_ckO_ok {X : ex_M} {ov : List ac_O} {c k : Nat} {z : Int} (hK : ∀ κ ∈ X.1, nm_ok κ) (h : ex_ckO X ov c k z = true) {hp : px_H} {av : List Value} (hG : ab_h nm_GH hp) (hv : ac_argv X.2.2.2.2.2 av) (hov : ac_ov ov hp) :
    ∃ (v w : Int32) (hp1 : px_H), px_C nm_T nm_P X.2.2.2.2.1 av hp (some (.int v)) hp1 ∧ ab_h nm_GH hp1 ∧ px_fr X.2.2.1 X.2.2.2.1 hp hp1 ∧ ac_fv hp1 c k = some (.int w) ∧ w.toInt = z := by
  simp only [ex_ckO, Bool.and_eq_true] at h
  have h2 := h.2
  split at h2
  · rename_i os ho
    obtain ⟨r, hp1, o, m1, m2, m3, m4⟩ := ex_run_ok hK ho hG hv hov
    obtain ⟨v, w, rfl, w1, w2⟩ := ex_ze_ok h.1 (List.all_eq_true.mp h2 o m1) m3
    exact ⟨v, w, hp1, m2, m3.2.1, m4, w1, w2⟩
  · cases h2
def kl_fair2 : ac_L := (kl_M_fair_68.1, kl_M_fair_68.2.1, kl_M_fair_68.2.2.1, kl_M_fair_68.2.2.2.map (fun w => (w.1, (69, 15) :: w.2.1, w.2.2.1, w.2.2.2)))
def fw_fair : ex_M := ([kc_M_asks_0, kc_M_unlike_0], [kl_fair2], kc_M_fair_0.2.2.2.2.1, kc_M_fair_0.2.2.2.2.2, mi_M_fair, kc_M_fair_0.2.1)
def fw_war : ex_M := ([kc_M_asks_0, kc_M_sumBelow_0], [], kc_M_war_0.2.2.2.2.1, kc_M_war_0.2.2.2.2.2, mi_M_war, kc_M_war_0.2.1)
set_option maxRecDepth 1000000 in
theorem fw_fair_t : ex_ckO fw_fair [(69, 15, 0, 0, 0, [])] 69 15 0 = true := by decide +kernel
set_option maxRecDepth 1000000 in
theorem fw_war_t : ex_ckO fw_war [(69, 20, 0, 0, 0, [])] 69 20 0 = true := by decide +kernel
/-- frames leave all of it -/
def nm_Rf (ws : List (Nat × Nat)) (wa : List Nat) : Bool := gX ws wa && (gM ws wa && (nX (wF_ ws) (wA_ wa) [(1, 0), (1, 8), (14, 3), (19, 0), (19, 1), (19, 2), (0, 11), (0, 14), (66, 0), (66, 1), (66, 2), (67, 0), (67, 1), (67, 2), (68, 0), (68, 1), (68, 2)] [2, 3, 4, 5, 6, 7, 8, 9, 10, 11, 15, 16, 17, 52] && nX (wF_ ws) (wA_ wa) [(69, 3), (69, 11), (69, 15), (69, 20), (69, 31), (69, 32), (69, 33), (69, 37)] [71, 72, 73, 74, 75, 76, 77, 78, 79, 80, 81, 83, 84, 88, 89, 90, 100, 101, 102, 103, 104]))
theorem nm_R_fr {ws : List (Nat × Nat)} {wa : List Nat} {hp hp' : px_H} (hG : ab_h nm_GH hp) (hG' : ab_h nm_GH hp') (h : px_fr ws wa hp hp') (hw : nm_Rf ws wa = true) (hR : nm_R hp) : nm_R hp' := by
  simp only [nm_Rf, Bool.and_eq_true] at hw
  obtain ⟨w1, w2, w3, w4⟩ := hw
  obtain ⟨⟨z, dn, nx, ln, hL⟩, hK, hD, hT, hO⟩ := hR
  have o := oS_of hG
  have o' := oS_of hG'
  have f := fz_fr o o' h
  obtain ⟨k1, k2, k3⟩ := TRO_fr o o' o o' h h w1 w2 ⟨hK, hT, hO⟩
  exact ⟨⟨z, dn, nx, ln, RLz_k f f w3 w4 hL⟩, k1, DY_k f (nX_a w4 (by decide)) hD, k2, k3⟩
theorem nm_R_arr {hp : px_H} {x y : Nat × vp_A} (hx : hp[105]? = some (.inl x)) (hR : nm_R hp) : nm_R (hp.set 105 (.inl y)) := by
  have e : ∀ c, c < 105 → (hp.set 105 (.inl y))[c]? = hp[c]? := fun c hc => List.getElem?_set_ne (by omega)
  have eA : ∀ c, c < 105 → aI (hp.set 105 (.inl y)) c = aI hp c ∧ aL (hp.set 105 (.inl y)) c = aL hp c ∧ aR (hp.set 105 (.inl y)) c = aR hp c := fun c hc => ⟨by unfold aI; rw [e c hc], by unfold aL; rw [e c hc], by funext j; unfold aR; rw [e c hc]⟩
  have eF : ∀ c k, ac_fv (hp.set 105 (.inl y)) c k = ac_fv hp c k := fun c k => by rw [ac_fv_arr hx]
  exact FD_ag (fun c hc => ⟨fun k => eF c k, (eA c (by omega)).1, (eA c (by omega)).2.1, (eA c (by omega)).2.2⟩) ⟨fun k => eF 69 k, fun c h1 h2 => ⟨(eA c (by omega)).1, (eA c (by omega)).2.1⟩⟩ hR
theorem fvI_of {hp : px_H} {c k : Nat} {n : Int} (hI : ex_isI c k = true) (hG : ab_h nm_GH hp) (h : gI hp c k = Int32.ofInt n) : ac_fv hp c k = some (.int (Int32.ofInt n)) := by
  obtain ⟨v, w, -, -⟩ := ex_fv hI hG
  unfold gI at h
  rw [w] at h ⊢
  simp only at h
  rw [h]

theorem xp_fair {hp : px_H} {a0 a1 : Int32} (hG : ab_h nm_GH hp) (hR : nm_R hp) : ex_tw mi_X_fair mi_M_fair false 0 69 [.int a0, .int a1] hp := by
  obtain ⟨r, hp1, o, m1, m2, m3, m4, -, -, m7⟩ := kp_X_fair_0 [.ref 0, .int a0, .int a1] hp hG ⟨⟨rfl, List.mem_cons_self⟩, ⟨rfl, ab_i32 _⟩, ⟨rfl, ab_i32 _⟩, trivial⟩ (fun i hi => (by cases hi))
  obtain ⟨v0, rfl⟩ := nm_rI rfl m1 m4
  have hR1 := nm_R_fr hG m3 m7 (by decide +kernel) hR
  obtain ⟨⟨z, dn, nx, ln, hL⟩, -⟩ := hR1
  have f0 := fvI_of (c := 69) (k := 15) (by decide +kernel) m3 hL.2.2.2.2.2.2.1.1
  obtain ⟨v, w, hp2, c2, g2, fr2, w1, w2⟩ := ex_ckO_ok (X := fw_fair) (List.forall_mem_cons.mpr ⟨kp_M_asks_0, List.forall_mem_cons.mpr ⟨kp_M_unlike_0, fun _ h => absurd h List.not_mem_nil⟩⟩) fw_fair_t (av := [.ref 69, .int a0, .int a1]) m3 ⟨⟨rfl, List.mem_cons_self⟩, ⟨rfl, ab_i32 _⟩, ⟨rfl, ab_i32 _⟩, trivial⟩ (ex_ov1 f0 (by decide) (by decide))
  have ew : w = Int32.ofInt 0 := by rw [← Int32.toInt_inj, w2]; rfl
  subst ew
  exact ⟨v0, v, hp1, hp2, m2, m3, c2, g2, fun h => (by cases h), nm_R_fr m3 g2 (fr_drop (ws' := (fw_fair.2.2.1).filter (fun q => !(Nat.beq q.1 69 && Nat.beq q.2 15))) fr2 (w1.trans f0.symm) (by decide +kernel)) (by decide +kernel) (nm_R_fr hG m3 m7 (by decide +kernel) hR)⟩

theorem xp_war {hp : px_H} {a0 a1 : Int32} (hG : ab_h nm_GH hp) (hR : nm_R hp) : ex_tw mi_X_war mi_M_war false 0 69 [.int a0, .int a1] hp := by
  obtain ⟨r, hp1, o, m1, m2, m3, m4, -, -, m7⟩ := kp_X_war_0 [.ref 0, .int a0, .int a1] hp hG ⟨⟨rfl, List.mem_cons_self⟩, ⟨rfl, ab_i32 _⟩, ⟨rfl, ab_i32 _⟩, trivial⟩ (fun i hi => (by cases hi))
  obtain ⟨v0, rfl⟩ := nm_rI rfl m1 m4
  have hR1 := nm_R_fr hG m3 m7 (by decide +kernel) hR
  obtain ⟨⟨z, dn, nx, ln, hL⟩, -⟩ := hR1
  have f0 := fvI_of (c := 69) (k := 20) (by decide +kernel) m3 hL.2.2.2.2.2.2.1.2
  obtain ⟨v, w, hp2, c2, g2, fr2, w1, w2⟩ := ex_ckO_ok (X := fw_war) (List.forall_mem_cons.mpr ⟨kp_M_asks_0, List.forall_mem_cons.mpr ⟨kp_M_sumBelow_0, fun _ h => absurd h List.not_mem_nil⟩⟩) fw_war_t (av := [.ref 69, .int a0, .int a1]) m3 ⟨⟨rfl, List.mem_cons_self⟩, ⟨rfl, ab_i32 _⟩, ⟨rfl, ab_i32 _⟩, trivial⟩ (ex_ov1 f0 (by decide) (by decide))
  have ew : w = Int32.ofInt 0 := by rw [← Int32.toInt_inj, w2]; rfl
  subst ew
  exact ⟨v0, v, hp1, hp2, m2, m3, c2, g2, fun h => (by cases h), nm_R_fr m3 g2 (fr_drop (ws' := (fw_war.2.2.1).filter (fun q => !(Nat.beq q.1 69 && Nat.beq q.2 20))) fr2 (w1.trans f0.symm) (by decide +kernel)) (by decide +kernel) (nm_R_fr hG m3 m7 (by decide +kernel) hR)⟩

theorem i3_t : (List.range 3).all (fun i => Nat.beq (aR nm_H1 51 i) (66 + i) && (Nat.beq (aR nm_H1 18 i) (54 + 4 * i) && (decide (aI nm_H1 82 (1 + i) = b01 (Nat.testBit 0 i)) && (decide (gI nm_H1 (54 + 4 * i) 3 = Int32.ofNat 0) && decide (aI nm_H1 81 (1 + i) = Int32.ofNat 0))))) = true := by decide +kernel
theorem i10_t : (List.range 10).all (fun p => (decide (aI nm_H1 2 p = aI nm_H1 71 p) && (decide (aI nm_H1 3 p = aI nm_H1 72 p) && (decide (aI nm_H1 6 p = aI nm_H1 75 p) && (decide (aI nm_H1 4 p = aI nm_H1 73 p) && (decide (aI nm_H1 5 p = aI nm_H1 74 p) && (decide (aI nm_H1 3 p = Int32.ofInt 0) && (decide (sq (gI nm_H1 19 1) p = aI nm_H1 90 p) && decide (aI nm_H1 90 p = Int32.ofNat 0))))))))) = true := by decide +kernel
theorem i2_t : (List.range 2).all (fun b => decide (aI nm_H1 7 b = aI nm_H1 76 b) && (decide (aI nm_H1 8 b = aI nm_H1 77 b) && (decide (aI nm_H1 76 b = Int32.ofInt 0) && (decide (aI nm_H1 88 b = Int32.ofInt 0) && decide (aI nm_H1 89 b = Int32.ofInt 0))))) = true := by decide +kernel
theorem i6_t : (List.range 6).all (fun d => decide (aI nm_H1 9 d = aI nm_H1 78 d) && (decide (aI nm_H1 10 d = aI nm_H1 79 d) && (decide (aI nm_H1 11 d = aI nm_H1 80 d) && (decide (aI nm_H1 80 d = 0) && (decide (aI nm_H1 79 d = Int32.ofNat 0) && decide (aI nm_H1 78 d = 0)))))) = true := by decide +kernel
theorem i40_t : (List.range 40).all (fun i => decide (aI nm_H1 13 i = aI nm_H1 85 i)) = true := by decide +kernel
set_option maxRecDepth 1000000 in
theorem nm_R0 : nm_R nm_H1 := by
  have i3 : ∀ i, i < 3 → aR nm_H1 51 i = 66 + i ∧ aR nm_H1 18 i = 54 + 4 * i ∧ aI nm_H1 82 (1 + i) = b01 (Nat.testBit 0 i) ∧ gI nm_H1 (54 + 4 * i) 3 = Int32.ofNat 0 ∧ aI nm_H1 81 (1 + i) = Int32.ofNat 0 := fun i hi => by
    have := List.all_eq_true.mp i3_t i (List.mem_range.mpr hi)
    simp only [Bool.and_eq_true, decide_eq_true_eq] at this
    exact ⟨Nat.eq_of_beq_eq_true this.1, Nat.eq_of_beq_eq_true this.2.1, this.2.2⟩
  have i10 : ∀ p, p < 10 → _ := fun p hp => List.all_eq_true.mp i10_t p (List.mem_range.mpr hp)
  have i2 : ∀ p, p < 2 → _ := fun p hp => List.all_eq_true.mp i2_t p (List.mem_range.mpr hp)
  have i6 : ∀ p, p < 6 → _ := fun p hp => List.all_eq_true.mp i6_t p (List.mem_range.mpr hp)
  simp only [Bool.and_eq_true, decide_eq_true_eq] at i10 i2 i6
  have sz0 : sz 0 (Int32.ofInt 0) := fun i _ => ib_z i
  refine ⟨⟨0, 0, 0, 0, ⟨by omega, by omega, by decide +kernel, by decide +kernel, by decide +kernel, by decide +kernel, fun p hp => ⟨(i10 p hp).1, (i10 p hp).2.1, (i10 p hp).2.2.1, Or.inl ⟨(i10 p hp).2.2.2.1, (i10 p hp).2.2.2.2.1⟩⟩, fun b hb => ⟨(i2 b hb).1, (i2 b hb).2.1, by rw [(i2 b hb).2.2.1]; exact sz0⟩, fun d hd => ⟨(i6 d hd).1, (i6 d hd).2.1, (i6 d hd).2.2.1, by rw [(i6 d hd).2.2.2.1]; decide, 0, by omega, (i6 d hd).2.2.2.2.1⟩⟩, fun p _ hp => (i10 p hp).2.2.2.2.2.1, ⟨by omega, by decide +kernel, by decide +kernel, fun k hk => by omega⟩, ⟨⟨by decide +kernel, by decide +kernel, by decide +kernel, by decide +kernel, by decide +kernel, by decide +kernel, by decide +kernel⟩, fun p hp => ⟨(i10 p hp).2.2.2.2.2.2.1, 0, by omega, (i10 p hp).2.2.2.2.2.2.2⟩, fun j hj => ⟨by rw [(i2 j hj).2.2.2.1]; exact sz0, by rw [(i2 j hj).2.2.2.2]; exact sz0⟩⟩, ⟨by omega, by decide +kernel, by decide +kernel⟩, by decide +kernel, ⟨by decide +kernel, by decide +kernel⟩, ?_⟩, ⟨fun i hi => (i3 i hi).1, fun i hi => (i3 i hi).2.1⟩, fun d hd => by rw [(i6 d hd).2.2.2.2.2]; decide, ⟨0, by omega, by decide +kernel, by decide +kernel, fun i hi => ?_⟩, fun i hi => ⟨0, by omega, (i3 i hi).2.2.2.1, (i3 i hi).2.2.2.2, fun k hk => by omega⟩, 0, by omega, by decide +kernel, fun i hi => (i3 i hi).2.2.1⟩
  · have e : gI nm_H1 0 14 = Int32.ofInt 0 := by decide +kernel
    refine ⟨by rw [e]; exact fun i _ => ib_z i, fun i hi => ?_⟩
    have e2 : ∀ i, i < 3 → aI nm_H1 100 i = Int32.ofInt 0 := fun i hi => by
      have : (List.range 3).all (fun i => decide (aI nm_H1 100 i = Int32.ofInt 0)) = true := by decide +kernel
      exact of_decide_eq_true (List.all_eq_true.mp this i (List.mem_range.mpr hi))
    rw [e, e2 i hi, ib_z]
    exact ⟨by decide, fun h => (by cases h)⟩
  · exact of_decide_eq_true (List.all_eq_true.mp i40_t i (List.mem_range.mpr hi))
end mg_7
