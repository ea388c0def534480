/-! reading a rule: line by line and sign by sign (the pure rows of 94p .. 94t) -/
def rp_b (g : Nat → Int32) (w i : Nat) (c : Int32) : Bool := decide (i < w) && decide (g i = c)
def rp_i (b : Bool) : Int32 := bif b then 1 else 0
def rp_n (b : Bool) : Nat := bif b then 1 else 0
def rp_k (g : Nat → Int32) (w i : Nat) : Option (Int32 × Nat) :=
  bif rp_b g w i 107 then some (0, 1) else bif rp_b g w i 100 then some (7, 1) else bif rp_b g w i 119 then some (8, 1) else
  bif rp_b g w i 115 && (decide (i + 1 < w) && (decide (49 ≤ (g (i + 1)).toInt) && decide ((g (i + 1)).toInt ≤ 54))) then some (g (i + 1) - 48, 2) else none
def rp_d (g : Nat → Int32) (w j : Nat) : Option Int32 :=
  bif rp_b g w j 98 then some 0 else bif rp_b g w j 116 then some 1 else bif rp_b g w j 108 then some 2 else none
def rp_kf (g : Nat → Int32) (w i : Nat) : Nat := i + rp_n (rp_b g w i 115)
theorem rp_b_lt {g : Nat → Int32} {w i : Nat} {s : Int32} (h : rp_b g w i s = true) : i < w := by
  simp only [rp_b, Bool.and_eq_true, decide_eq_true_eq] at h
  exact h.1
theorem rp_b_ex {g : Nat → Int32} {w i : Nat} {s t : Int32} (h : rp_b g w i s = true) (hst : s ≠ t) : rp_b g w i t = false := by
  simp only [rp_b, Bool.and_eq_true, decide_eq_true_eq] at h
  simp only [rp_b, Bool.and_eq_false_iff, decide_eq_false_iff_not]
  exact Or.inr (fun e => hst (h.2.symm.trans e))
def rp_lp (g : Nat → Int32) (w : Nat) : Nat → Nat → Nat → (Nat → Int32) → (Nat → Int32) → Bool × Nat × Nat × (Nat → Int32) × (Nat → Int32)
  | 0, i, c, rk, rd => (false, i, c, rk, rd)
  | m + 1, i, c, rk, rd => match rp_k g w i with
    | none => (false, rp_kf g w i, c, rk, rd)
    | some (k, n) => match rp_d g w (i + n) with
      | none => (false, i + n, c, rk, rd)
      | some d => bif rp_b g w (i + n + 1) 59 then rp_lp g w m (i + n + 2) (c + 1) (upd rk c k) (upd rd c d) else (true, i + n + 1, c + 1, upd rk c k, upd rd c d)
theorem rp_k_le {g : Nat → Int32} {w i n : Nat} {k : Int32} (h : rp_k g w i = some (k, n)) : 1 ≤ n ∧ n ≤ 2 ∧ i + n ≤ w := by
  unfold rp_k at h
  cases h1 : rp_b g w i 107 with
  | true => rw [h1] at h; cases h; have := rp_b_lt h1; omega
  | false =>
    cases h2 : rp_b g w i 100 with
    | true => rw [h1, h2] at h; cases h; have := rp_b_lt h2; omega
    | false =>
      cases h3 : rp_b g w i 119 with
      | true => rw [h1, h2, h3] at h; cases h; have := rp_b_lt h3; omega
      | false =>
        rw [h1, h2, h3] at h
        cases h4 : (rp_b g w i 115 && (decide (i + 1 < w) && (decide (49 ≤ (g (i + 1)).toInt) && decide ((g (i + 1)).toInt ≤ 54)))) with
        | true =>
          rw [h4] at h
          cases h
          simp only [Bool.and_eq_true, decide_eq_true_eq] at h4
          omega
        | false => rw [h4] at h; cases h
theorem rp_d_lt {g : Nat → Int32} {w j : Nat} {d : Int32} (h : rp_d g w j = some d) : j < w := by
  unfold rp_d at h
  cases h1 : rp_b g w j 98 with
  | true => exact rp_b_lt h1
  | false =>
    cases h2 : rp_b g w j 116 with
    | true => exact rp_b_lt h2
    | false =>
      cases h3 : rp_b g w j 108 with
      | true => exact rp_b_lt h3
      | false => rw [h1, h2, h3] at h; cases h
theorem rp_lp_bd {g : Nat → Int32} {w : Nat} : ∀ (m i c : Nat) (rk rd : Nat → Int32), i ≤ w → 3 * c ≤ i → (rp_lp g w m i c rk rd).2.1 ≤ w ∧ 3 * (rp_lp g w m i c rk rd).2.2.1 ≤ (rp_lp g w m i c rk rd).2.1 + 1
  | 0, i, c, rk, rd, h1, h2 => ⟨h1, by show 3 * c ≤ i + 1; omega⟩
  | m + 1, i, c, rk, rd, h1, h2 => by
    unfold rp_lp
    cases hk : rp_k g w i with
    | none =>
      simp only
      have : rp_kf g w i ≤ w ∧ i ≤ rp_kf g w i := by
        unfold rp_kf
        cases hb : rp_b g w i 115 with
        | true => have := rp_b_lt hb; show i + 1 ≤ w ∧ i ≤ i + 1; omega
        | false => show i + 0 ≤ w ∧ i ≤ i + 0; omega
      omega
    | some q =>
      obtain ⟨k, n⟩ := q
      have hl := rp_k_le hk
      simp only
      cases hd : rp_d g w (i + n) with
      | none => simp only; omega
      | some d =>
        have hdl := rp_d_lt hd
        simp only
        cases hb : rp_b g w (i + n + 1) 59 with
        | true =>
          have hbl := rp_b_lt hb
          simp only [cond_true]
          exact rp_lp_bd m (i + n + 2) (c + 1) _ _ (by omega) (by omega)
        | false =>
          simp only [cond_false]
          omega
def rp_bh (q : Nat) (s : Int32) : Option Nat := match q with
  | 0 => if s = 115 then some 1 else if s = 107 ∨ s = 100 ∨ s = 119 then some 2 else none
  | 1 => if 49 ≤ s.toInt ∧ s.toInt ≤ 54 then some 2 else none
  | 2 => if s = 98 ∨ s = 116 ∨ s = 108 then some 3 else none
  | _ => if s = 59 then some 0 else none
theorem rp_bh0 (s : Int32) : rp_bh 0 s = if s = 115 then some 1 else if s = 107 ∨ s = 100 ∨ s = 119 then some 2 else none := rfl
theorem rp_bh1 (s : Int32) : rp_bh 1 s = if 49 ≤ s.toInt ∧ s.toInt ≤ 54 then some 2 else none := rfl
theorem rp_bh2 (s : Int32) : rp_bh 2 s = if s = 98 ∨ s = 116 ∨ s = 108 then some 3 else none := rfl
theorem rp_bh3 (s : Int32) : rp_bh 3 s = if s = 59 then some 0 else none := rfl
def rp_bi (q : Option Nat) : Int32 := match q with
  | some q => Int32.ofNat q
  | none => Int32.ofInt (-1)
def xf_end (n q : Nat) : Int := if 20 < n then 20 else if n = 0 ∨ q = 3 then -1 else (n : Int)
def xf (g : Nat → Int32) (w n : Nat) : Nat → Nat → Nat → Int
  | 0, q, _ => xf_end n q
  | m + 1, q, i => if i < w then (match rp_bh q (g i) with
    | some q' => xf g w n m q' (i + 1)
    | none => (i : Int)) else xf_end n q
theorem rp_bh_le {q q' : Nat} {s : Int32} (h : rp_bh q s = some q') : q' ≤ 3 := by
  unfold rp_bh at h
  split at h
  · split at h
    · cases h; decide
    · split at h
      · cases h; decide
      · cases h
  · split at h
    · cases h; decide
    · cases h
  · split at h
    · cases h; decide
    · cases h
  · split at h
    · cases h; decide
    · cases h
/-! line by line and sign by sign tell the same -/
section xf_1
variable {g : Nat → Int32} {w n : Nat}
theorem rp_bt {i : Nat} {s : Int32} (h1 : i < w) (h2 : g i = s) : rp_b g w i s = true := by
  simp only [rp_b, Bool.and_eq_true, decide_eq_true_eq]
  exact ⟨h1, h2⟩
theorem rp_bf {i : Nat} {s : Int32} (h : ¬ (i < w ∧ g i = s)) : rp_b g w i s = false := by
  simp only [rp_b, Bool.and_eq_false_iff, decide_eq_false_iff_not]
  by_cases h1 : i < w
  · exact Or.inr (fun e => h ⟨h1, e⟩)
  · exact Or.inl h1
theorem xf_end_ne {q : Nat} (hn : 0 < n) (hq : q ≠ 3) : xf_end n q = xf_end n 0 := by
  unfold xf_end
  split
  · rfl
  · rw [if_neg (by omega), if_neg (by omega)]
theorem xf_at {M q i : Nat} (h : ¬ i < w) : xf g w n M q i = xf_end n q := by
  cases M with
  | zero => rfl
  | succ M => unfold xf; rw [if_neg h]
theorem xf_go {M q q' i : Nat} (h : i < w) (hb : rp_bh q (g i) = some q') : xf g w n (M + 1) q i = xf g w n M q' (i + 1) := by
  conv => lhs; unfold xf
  rw [if_pos h, hb]
theorem xf_no {M q i : Nat} (h : i < w) (hb : rp_bh q (g i) = none) : xf g w n (M + 1) q i = (i : Int) := by
  conv => lhs; unfold xf
  rw [if_pos h, hb]
theorem xf_k_none (hn : 0 < n) {M i : Nat} (hi : i ≤ w) (hM : w < i + M) (hk : rp_k g w i = none) : xf g w n M 0 i = if rp_kf g w i < w then ((rp_kf g w i : Nat) : Int) else xf_end n 0 := by
  obtain ⟨M, rfl⟩ : ∃ M', M = M' + 1 := ⟨M - 1, by omega⟩
  by_cases h : i < w
  · by_cases h1 : g i = 107
    · rw [rp_k, rp_bt h h1] at hk; cases hk
    by_cases h2 : g i = 100
    · rw [rp_k, rp_bf (s := 107) (fun e => h1 e.2), rp_bt h h2] at hk; cases hk
    by_cases h3 : g i = 119
    · rw [rp_k, rp_bf (s := 107) (fun e => h1 e.2), rp_bf (s := 100) (fun e => h2 e.2), rp_bt h h3] at hk; cases hk
    by_cases h4 : g i = 115
    · have hkf : rp_kf g w i = i + 1 := by unfold rp_kf; rw [rp_bt h h4]; rfl
      rw [hkf, xf_go h (q' := 1) (by rw [rp_bh0, if_pos h4])]
      by_cases h5 : i + 1 < w
      · rw [if_pos h5]
        obtain ⟨M, rfl⟩ : ∃ M', M = M' + 1 := ⟨M - 1, by omega⟩
        by_cases hd : 49 ≤ (g (i + 1)).toInt ∧ (g (i + 1)).toInt ≤ 54
        · rw [rp_k, rp_bf (s := 107) (fun e => h1 e.2), rp_bf (s := 100) (fun e => h2 e.2), rp_bf (s := 119) (fun e => h3 e.2), rp_bt h h4] at hk
          simp [h5, hd.1, hd.2] at hk
        · exact xf_no h5 (by rw [rp_bh1, if_neg hd])
      · rw [if_neg h5, xf_at h5]
        exact xf_end_ne hn (by decide)
    · have hkf : rp_kf g w i = i := by unfold rp_kf; rw [rp_bf (fun e => h4 e.2)]; rfl
      rw [hkf, if_pos h]
      exact xf_no h (by rw [rp_bh0, if_neg h4, if_neg (by rintro (e | e | e); exact h1 e; exact h2 e; exact h3 e)])
  · have hkf : rp_kf g w i = i := by unfold rp_kf; rw [rp_bf (fun e => h e.1)]; rfl
    rw [hkf, if_neg h, xf_at h]
theorem xf_k_some {M i a : Nat} {k : Int32} (hM : w < i + M) (hk : rp_k g w i = some (k, a)) : xf g w n M 0 i = xf g w n (M - a) 2 (i + a) := by
  have hl := rp_k_le hk
  obtain ⟨M, rfl⟩ : ∃ M', M = M' + 1 := ⟨M - 1, by omega⟩
  have h : i < w := by omega
  by_cases h1 : g i = 107
  · rw [rp_k, rp_bt h h1] at hk
    cases hk
    rw [xf_go h (q' := 2) (by rw [rp_bh0, if_neg (by rw [h1]; decide), if_pos (Or.inl h1)])]
    rfl
  by_cases h2 : g i = 100
  · rw [rp_k, rp_bf (s := 107) (fun e => h1 e.2), rp_bt h h2] at hk
    cases hk
    rw [xf_go h (q' := 2) (by rw [rp_bh0, if_neg (by rw [h2]; decide), if_pos (Or.inr (Or.inl h2))])]
    rfl
  by_cases h3 : g i = 119
  · rw [rp_k, rp_bf (s := 107) (fun e => h1 e.2), rp_bf (s := 100) (fun e => h2 e.2), rp_bt h h3] at hk
    cases hk
    rw [xf_go h (q' := 2) (by rw [rp_bh0, if_neg (by rw [h3]; decide), if_pos (Or.inr (Or.inr h3))])]
    rfl
  · rw [rp_k, rp_bf (s := 107) (fun e => h1 e.2), rp_bf (s := 100) (fun e => h2 e.2), rp_bf (s := 119) (fun e => h3 e.2)] at hk
    simp only [cond_false] at hk
    cases hc : (rp_b g w i 115 && (decide (i + 1 < w) && (decide (49 ≤ (g (i + 1)).toInt) && decide ((g (i + 1)).toInt ≤ 54)))) with
    | false => rw [hc] at hk; cases hk
    | true =>
      rw [hc] at hk
      cases hk
      simp only [Bool.and_eq_true, decide_eq_true_eq] at hc
      obtain ⟨c1, c2, c3, c4⟩ := hc
      have h4 : g i = 115 := by
        simp only [rp_b, Bool.and_eq_true, decide_eq_true_eq] at c1
        exact c1.2
      obtain ⟨M, rfl⟩ : ∃ M', M = M' + 1 := ⟨M - 1, by omega⟩
      rw [xf_go h (q' := 1) (by rw [rp_bh0, if_pos h4]), xf_go c2 (q' := 2) (by rw [rp_bh1, if_pos ⟨c3, c4⟩])]
      rfl
theorem xf_d_some {M j : Nat} {d : Int32} (hM : w < j + M) (hd : rp_d g w j = some d) : xf g w n M 2 j = xf g w n (M - 1) 3 (j + 1) := by
  have h := rp_d_lt hd
  obtain ⟨M, rfl⟩ : ∃ M', M = M' + 1 := ⟨M - 1, by omega⟩
  rw [xf_go h (q' := 3)]
  · rfl
  · rw [rp_bh2, if_pos]
    unfold rp_d at hd
    by_cases h1 : g j = 98
    · exact Or.inl h1
    by_cases h2 : g j = 116
    · exact Or.inr (Or.inl h2)
    by_cases h3 : g j = 108
    · exact Or.inr (Or.inr h3)
    rw [rp_bf (s := 98) (fun e => h1 e.2), rp_bf (s := 116) (fun e => h2 e.2), rp_bf (s := 108) (fun e => h3 e.2)] at hd
    cases hd
theorem xf_d_none (hn : 0 < n) {M j : Nat} (hj : j ≤ w) (hM : w < j + M) (hd : rp_d g w j = none) : xf g w n M 2 j = if j < w then (j : Int) else xf_end n 0 := by
  obtain ⟨M, rfl⟩ : ∃ M', M = M' + 1 := ⟨M - 1, by omega⟩
  by_cases h : j < w
  · rw [if_pos h]
    refine xf_no h ?_
    rw [rp_bh2, if_neg]
    unfold rp_d at hd
    rintro (e | e | e)
    · rw [rp_bt h e] at hd; cases hd
    · rw [rp_bf (s := 98) (fun e' => by rw [e] at e'; exact absurd e'.2 (by decide)), rp_bt h e] at hd; cases hd
    · rw [rp_bf (s := 98) (fun e' => by rw [e] at e'; exact absurd e'.2 (by decide)), rp_bf (s := 116) (fun e' => by rw [e] at e'; exact absurd e'.2 (by decide)), rp_bt h e] at hd; cases hd
  · rw [if_neg h, xf_at h]
    exact xf_end_ne hn (by decide)
theorem xf_s_some {M j : Nat} (hM : w < j + M) (hb : rp_b g w j 59 = true) : xf g w n M 3 j = xf g w n (M - 1) 0 (j + 1) := by
  have h := rp_b_lt hb
  obtain ⟨M, rfl⟩ : ∃ M', M = M' + 1 := ⟨M - 1, by omega⟩
  simp only [rp_b, Bool.and_eq_true, decide_eq_true_eq] at hb
  rw [xf_go h (q' := 0) (by rw [rp_bh3, if_pos hb.2])]
  rfl
theorem xf_s_none {M j : Nat} (hM : w < j + M) (hj : j ≤ w) (hb : rp_b g w j 59 = false) : xf g w n M 3 j = if j < w then (j : Int) else xf_end n 3 := by
  obtain ⟨M, rfl⟩ : ∃ M', M = M' + 1 := ⟨M - 1, by omega⟩
  by_cases h : j < w
  · rw [if_pos h]
    refine xf_no h ?_
    rw [rp_bh3, if_neg (fun e => by rw [rp_bt h e] at hb; cases hb)]
  · rw [if_neg h, xf_at h]
theorem xf_lp (hn : 0 < n) : ∀ (m i c : Nat) (rk rd : Nat → Int32) (M : Nat), i ≤ w → w < i + 3 * m → w < i + M →
    xf g w n M 0 i = if (rp_lp g w m i c rk rd).1 = true then (if (rp_lp g w m i c rk rd).2.1 < w then (((rp_lp g w m i c rk rd).2.1 : Nat) : Int) else xf_end n 3) else (if (rp_lp g w m i c rk rd).2.1 < w then (((rp_lp g w m i c rk rd).2.1 : Nat) : Int) else xf_end n 0)
  | 0, i, c, rk, rd, M, h1, h2, _ => by omega
  | m + 1, i, c, rk, rd, M, h1, h2, h3 => by
    cases hk : rp_k g w i with
    | none =>
      rw [show rp_lp g w (m + 1) i c rk rd = (false, rp_kf g w i, c, rk, rd) from by simp only [rp_lp, hk]]
      simp only [Bool.false_eq_true, if_false]
      exact xf_k_none hn h1 h3 hk
    | some q =>
      obtain ⟨k, a⟩ := q
      have hl := rp_k_le hk
      rw [xf_k_some h3 hk]
      cases hd : rp_d g w (i + a) with
      | none =>
        rw [show rp_lp g w (m + 1) i c rk rd = (false, i + a, c, rk, rd) from by simp only [rp_lp, hk, hd]]
        simp only [Bool.false_eq_true, if_false]
        exact xf_d_none hn hl.2.2 (by omega) hd
      | some d =>
        have hdl := rp_d_lt hd
        rw [xf_d_some (by omega) hd]
        cases hb : rp_b g w (i + a + 1) 59 with
        | true =>
          have hbl := rp_b_lt hb
          rw [show rp_lp g w (m + 1) i c rk rd = rp_lp g w m (i + a + 2) (c + 1) (upd rk c k) (upd rd c d) from by simp only [rp_lp, hk, hd, hb, cond_true]]
          rw [xf_s_some (by omega) hb]
          exact xf_lp hn m (i + a + 2) (c + 1) (upd rk c k) (upd rd c d) (M - a - 1 - 1) (by omega) (by omega) (by omega)
        | false =>
          rw [show rp_lp g w (m + 1) i c rk rd = (true, i + a + 1, c + 1, upd rk c k, upd rd c d) from by simp only [rp_lp, hk, hd, hb, cond_false]]
          simp only [if_true]
          exact xf_s_none (by omega) (by omega) hb
end xf_1
