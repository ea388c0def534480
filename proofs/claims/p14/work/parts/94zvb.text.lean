/-! the text: signs, its end -/
section sy_T
theorem ge_nat {a b : Nat} (ha : a < 2147483648) (hb : b < 2147483648) : px_cmp .ge (Int32.ofNat a) (Int32.ofNat b) = decide (b ≤ a) := by
  rw [cmp_ge, nm_ofNat_toInt a ha, nm_ofNat_toInt b hb]
  simp only [decide_eq_decide]
  omega
theorem le_nat {a b : Nat} (ha : a < 2147483648) (hb : b < 2147483648) : px_cmp .le (Int32.ofNat a) (Int32.ofNat b) = decide (a ≤ b) := by
  rw [cmp_le, nm_ofNat_toInt a ha, nm_ofNat_toInt b hb]
  simp only [decide_eq_decide]
  omega
theorem cmp_gt (x y : Int32) : px_cmp .gt x y = decide (y.toInt < x.toInt) := by simp only [px_cmp, gt_iff_lt, Int32.lt_iff_toInt_lt]
theorem cmp_eq (x y : Int32) : px_cmp .eq x y = decide (x = y) := rfl
theorem cmp_ne (x y : Int32) : px_cmp .ne x y = !decide (x = y) := by
  rw [show px_cmp .ne x y = decide (¬ x = y) from rfl, decide_not]
theorem oN_inj {a b : Nat} (ha : a < 2147483648) (hb : b < 2147483648) (h : Int32.ofNat a = Int32.ofNat b) : a = b := by
  have := congrArg Int32.toInt h
  rw [nm_ofNat_toInt a ha, nm_ofNat_toInt b hb] at this
  omega
theorem eq_nat {a b : Nat} (ha : a < 2147483648) (hb : b < 2147483648) : px_cmp .eq (Int32.ofNat a) (Int32.ofNat b) = decide (a = b) := by
  rw [cmp_eq]
  simp only [decide_eq_decide]
  exact ⟨oN_inj ha hb, fun h => by rw [h]⟩
theorem toInt_oI {x : Int} (h1 : -2147483648 ≤ x) (h2 : x < 2147483648) : (Int32.ofInt x).toInt = x := by
  rw [Int32.toInt_ofInt, show Int32.size = 4294967296 from rfl, Int.bmod_eq_of_le] <;> omega
theorem oI_nat (i : Nat) (hi : i < 2147483648) : Int32.ofInt (i : Int) = Int32.ofNat i := by
  rw [← Int32.toInt_inj, nm_ofNat_toInt i hi, toInt_oI (by omega) (by omega)]
def TX (hX hM : px_H) : Prop := ∃ n, n ≤ 40 ∧ gI hX 12 1 = Int32.ofNat n ∧ gI hM 69 22 = Int32.ofNat n ∧ ∀ i, i < 40 → aI hX 13 i = aI hM 85 i
def Wtx (c k : Nat) : Bool := Nat.beq c 12 && Nat.beq k 1
def Vtx (c : Nat) : Bool := Nat.beq c 13
def Wtm (c k : Nat) : Bool := Nat.beq c 69 && (Nat.beq k 0 || Nat.beq k 22)
def Vtm (c : Nat) : Bool := Nat.beq c 85
def tx_A (l : Nat) (f : Nat → Int32) (h0 h : px_H) : Prop := oS h ∧ gI h 12 1 = Int32.ofNat l ∧ aI h 13 = f ∧ fz Wtx Vtx h0 h
def tx_B (l : Nat) (f : Nat → Int32) (h0 h : px_H) : Prop := oS h ∧ gI h 69 22 = Int32.ofNat l ∧ aI h 85 = f ∧ fz Wtm Vtm h0 h
theorem tx_ad {l n : Nat} {v : Int32} {h0 h : px_H} {f : Nat → Int32} (A : tx_A l f h0 h) (hl : l < 40) (v2 : Int32) (h2 : px_cmp .lt v2 0 = false) : ∃ h', fn_Text_add_L14 v (n + 1) v2 h = fn_Text_add_L14 v n (v2 + Int32.ofInt (-8)) h' ∧ tx_A (l + 1) (upd f l (nm_us v v2 &&& (Int16.ofInt 255).toInt32)) h0 h' := by
  obtain ⟨o, g, e, fr⟩ := A
  obtain ⟨o1, e1, n1, f1⟩ := oI 13 11 40 l (nm_us v v2 &&& (Int16.ofInt 255).toInt32) o rfl
  have g1 : gI (uI h 13 l (nm_us v v2 &&& (Int16.ofInt 255).toInt32)) 12 1 = Int32.ofNat l := gI_uI.trans g
  refine ⟨wF (uI h 13 l (nm_us v v2 &&& (Int16.ofInt 255).toInt32)) 12 1 (.int (Int32.ofNat (l + 1))), ?_, oS_wI (cs := [12]) (ci := 5) rfl List.mem_cons_self o1, gI_wF (cs := [12]) (ci := 5) rfl List.mem_cons_self o1, by rw [aI_wF, e1, e], fz_tr fr (fz_tr (fz_uI rfl) (fz_wF rfl))⟩
  show fb_Text_add_L14 v (fn_Text_add_L14 v n) v2 h = _
  unfold fb_Text_add_L14
  rw [h2, cond_false, g, nm_inR l 40 hl (by omega), cond_true, nm_ofNat_clamp l (by omega)]
  simp only [sb]
  rw [g1, inc1]
theorem tx_sg {l k n : Nat} {v : Int32} {h0 h : px_H} {f : Nat → Int32} (A : tx_B l f h0 h) (hl : l ≤ 36) (hk : k < 4) : ∃ h', fn_M_sign_L18 v (n + 1) (Int32.ofNat k) h = fn_M_sign_L18 v n (Int32.ofNat (k + 1)) h' ∧ tx_B l (upd f (l + k) ((v >>> (((Int8.ofInt 24).toInt32 - ((Int8.ofInt 8).toInt32 * Int32.ofNat k)) &&& 31)) &&& (Int16.ofInt 255).toInt32)) h0 h' := by
  obtain ⟨o, g, e, fr⟩ := A
  obtain ⟨o1, e1, n1, f1⟩ := oI 85 nr_tape 40 (l + k) ((v >>> (((Int8.ofInt 24).toInt32 - ((Int8.ofInt 8).toInt32 * Int32.ofNat k)) &&& 31)) &&& (Int16.ofInt 255).toInt32) o rfl
  refine ⟨uI h 85 (l + k) ((v >>> (((Int8.ofInt 24).toInt32 - ((Int8.ofInt 8).toInt32 * Int32.ofNat k)) &&& 31)) &&& (Int16.ofInt 255).toInt32), ?_, o1, gI_uI.trans g, by rw [e1, e], fz_tr fr (fz_uI rfl)⟩
  show fb_M_sign_L18 v (fn_M_sign_L18 v n) (Int32.ofNat k) h = _
  unfold fb_M_sign_L18
  rw [show Int32.ofInt 4 = Int32.ofNat 4 from rfl, ge_nat (by omega) (by omega), decide_eq_false (show ¬ 4 ≤ k by omega), cond_false, g, ← Int32.ofNat_add, nm_inR (l + k) 40 (by omega) (by omega), cond_true, nm_ofNat_clamp (l + k) (by omega)]
  simp only [sb]
  rw [inc1]
theorem ib_255t : (List.range 32).all (fun i => decide (ib (Int16.ofInt 255).toInt32 i = decide (i < 8))) = true := by decide +kernel
theorem tx_v (v : Int32) {s : Nat} (hs : s ≤ 24) {a b : Int32} (ea : a = Int32.ofNat s) (eb : b = Int32.ofNat s) : nm_us v a &&& (Int16.ofInt 255).toInt32 = (v >>> (b &&& 31)) &&& (Int16.ofInt 255).toInt32 := by
  subst ea eb
  refine ib_ext (fun i hi => ?_)
  have e := of_decide_eq_true (List.all_eq_true.mp ib_255t i (List.mem_range.mpr hi))
  rw [ib_and, ib_and, e]
  by_cases h8 : i < 8
  · rw [ib_us _ (by omega), ib_shr _ (by omega), decide_eq_false (show ¬ 32 ≤ i by omega), if_pos (show s + i < 32 by omega), Bool.not_false, Bool.true_and]
  · rw [decide_eq_false h8, Bool.and_false, Bool.and_false]
variable {hX hM : px_H}
theorem sim_sign (oX : oS hX) (oM : oS hM) (hT : TX hX hM) (a : Int32) : ∃ (v : Int32) (hX' hM' : px_H), fn_X_sign a hX = some (v, hX') ∧ fn_M_sign a hM = some (v, hM') ∧ fz Wtx Vtx hX hX' ∧ fz Wtm Vtm hM hM' ∧ TX hX' hM' := by
  obtain ⟨n, n4, t1, t2, t3⟩ := hT
  obtain ⟨o1, f1⟩ := vl_thr oM
  have f1' : fz Wtm Vtm hM (wF hM 69 0 (.int (Int32.ofInt 0))) := fz_wF rfl
  have t2' : gI (wF hM 69 0 (.int (Int32.ofInt 0))) 69 22 = Int32.ofNat n := (fz_gI f1 rfl).trans t2
  have e85 : aI (wF hM 69 0 (.int (Int32.ofInt 0))) 85 = aI hM 85 := aI_wF
  unfold fn_X_sign fn_Text_add fn_M_sign
  simp only [sb]
  generalize wF hM 69 0 (.int (Int32.ofInt 0)) = m1 at o1 f1' t2' e85 ⊢
  rw [t1, t2', show (Int8.ofInt 36).toInt32 = Int32.ofNat 36 from by decide, le_nat (by omega) (by omega)]
  by_cases h : n ≤ 36
  · rw [decide_eq_true h, cond_true, cond_true]
    obtain ⟨k, hk⟩ : ∃ k, fu = k + 5 := ⟨fu - 5, by have := fu_lt (m := 5) (by omega); omega⟩
    rw [hk]
    obtain ⟨x1, q1, A1⟩ := tx_ad (n := k + 4) (v := a) (h0 := hX) (h := hX) ⟨oX, t1, rfl, fz_rf⟩ (by omega) (Int8.ofInt 24).toInt32 (by decide)
    obtain ⟨x2, q2, A2⟩ := tx_ad (n := k + 3) (v := a) A1 (by omega) ((Int8.ofInt 24).toInt32 + Int32.ofInt (-8)) (by decide)
    obtain ⟨x3, q3, A3⟩ := tx_ad (n := k + 2) (v := a) A2 (by omega) ((Int8.ofInt 24).toInt32 + Int32.ofInt (-8) + Int32.ofInt (-8)) (by decide)
    obtain ⟨x4, q4, A4⟩ := tx_ad (n := k + 1) (v := a) A3 (by omega) ((Int8.ofInt 24).toInt32 + Int32.ofInt (-8) + Int32.ofInt (-8) + Int32.ofInt (-8)) (by decide)
    obtain ⟨y1, p1, B1⟩ := tx_sg (n := k + 4) (k := 0) (v := a) (h0 := hM) (h := m1) ⟨o1, t2', rfl, f1'⟩ h (by omega)
    obtain ⟨y2, p2, B2⟩ := tx_sg (n := k + 3) (k := 1) (v := a) B1 h (by omega)
    obtain ⟨y3, p3, B3⟩ := tx_sg (n := k + 2) (k := 2) (v := a) B2 h (by omega)
    obtain ⟨y4, p4, B4⟩ := tx_sg (n := k + 1) (k := 3) (v := a) B3 h (by omega)
    have q5 : fn_Text_add_L14 a (k + 1) ((Int8.ofInt 24).toInt32 + Int32.ofInt (-8) + Int32.ofInt (-8) + Int32.ofInt (-8) + Int32.ofInt (-8)) x4 = some (Int32.ofInt 1, x4) := by
      show fb_Text_add_L14 a (fn_Text_add_L14 a k) _ x4 = _
      unfold fb_Text_add_L14
      rw [show px_cmp .lt ((Int8.ofInt 24).toInt32 + Int32.ofInt (-8) + Int32.ofInt (-8) + Int32.ofInt (-8) + Int32.ofInt (-8)) 0 = true from by decide, cond_true]
    have p5 : fn_M_sign_L18 a (k + 1) (Int32.ofNat 4) y4 = some (Int32.ofNat (n + 4), wF y4 69 22 (.int (Int32.ofNat (n + 4)))) := by
      show fb_M_sign_L18 a (fn_M_sign_L18 a k) _ y4 = _
      unfold fb_M_sign_L18
      rw [show px_cmp .ge (Int32.ofNat 4) (Int32.ofInt 4) = true from by decide, cond_true, B4.2.1, show Int32.ofInt 4 = Int32.ofNat 4 from rfl, ← Int32.ofNat_add]
      simp only [sb]
      rw [gI_wF (cs := [69]) (ci := 9) rfl List.mem_cons_self B4.1]
    rw [q1, q2, q3, q4, q5, Option.bind_some, show px_cmp .eq ((Int32.ofInt 1, x4) : Int32 × px_H).1 0 = false from rfl, cond_false]
    refine ⟨Int32.ofNat (n + 4), x4, wF y4 69 22 (.int (Int32.ofNat (n + 4))), by rw [A4.2.1], ?_, A4.2.2.2, fz_tr B4.2.2.2 (fz_wF rfl), n + 4, by omega, A4.2.1, gI_wF (cs := [69]) (ci := 9) rfl List.mem_cons_self B4.1, fun i hi => ?_⟩
    · exact p1.trans (p2.trans (p3.trans (p4.trans p5)))
    · rw [aI_wF, A4.2.2.1, B4.2.2.1, upd_eq, upd_eq, upd_eq, upd_eq, upd_eq, upd_eq, upd_eq, upd_eq, tx_v a (s := 24) (by omega) (a := (Int8.ofInt 24).toInt32) (b := (Int8.ofInt 24).toInt32 - ((Int8.ofInt 8).toInt32 * Int32.ofNat 0)) (by decide) (by decide), tx_v a (s := 16) (by omega) (a := (Int8.ofInt 24).toInt32 + Int32.ofInt (-8)) (b := (Int8.ofInt 24).toInt32 - ((Int8.ofInt 8).toInt32 * Int32.ofNat 1)) (by decide) (by decide), tx_v a (s := 8) (by omega) (a := (Int8.ofInt 24).toInt32 + Int32.ofInt (-8) + Int32.ofInt (-8)) (b := (Int8.ofInt 24).toInt32 - ((Int8.ofInt 8).toInt32 * Int32.ofNat 2)) (by decide) (by decide), tx_v a (s := 0) (by omega) (a := (Int8.ofInt 24).toInt32 + Int32.ofInt (-8) + Int32.ofInt (-8) + Int32.ofInt (-8)) (b := (Int8.ofInt 24).toInt32 - ((Int8.ofInt 8).toInt32 * Int32.ofNat 3)) (by decide) (by decide), e85, t3 i hi]
      rfl
  · rw [decide_eq_false h, cond_false, cond_false, Option.bind_some, show px_cmp .eq ((Int32.ofInt 0, hX) : Int32 × px_H).1 0 = true from rfl, cond_true]
    exact ⟨_, hX, m1, rfl, rfl, fz_rf, f1', n, n4, t1, t2', fun i hi => by rw [e85]; exact t3 i hi⟩
/-- the class cuts its text -/
theorem tx_cut (oX : oS hX) {n : Nat} (n4 : n ≤ 40) (t1 : gI hX 12 1 = Int32.ofNat n) (a : Int32) : fn_Text_cut a hX = some (bif decide (0 ≤ a.toInt ∧ a.toInt ≤ n) then (Int32.ofInt 1, wF hX 12 1 (.int a)) else (Int32.ofInt 0, hX)) := by
  unfold fn_Text_cut
  rw [lt0, t1, cmp_le, nm_ofNat_toInt n (by omega)]
  by_cases h0 : a.toInt < 0
  · rw [decide_eq_true h0, decide_eq_false (show ¬ (0 ≤ a.toInt ∧ a.toInt ≤ (n : Int)) by omega)]
    rfl
  · rw [decide_eq_false h0, cond_false]
    by_cases h1 : a.toInt ≤ (n : Int)
    · rw [decide_eq_true h1, decide_eq_true (show 0 ≤ a.toInt ∧ a.toInt ≤ (n : Int) by omega)]
      rfl
    · rw [decide_eq_false h1, decide_eq_false (show ¬ (0 ≤ a.toInt ∧ a.toInt ≤ (n : Int)) by omega)]
      rfl
theorem sim_end (oX : oS hX) (oM : oS hM) (hT : TX hX hM) (a : Int32) : ∃ (v : Int32) (hX' hM' : px_H), fn_X_end a hX = some (v, hX') ∧ fn_M_end a hM = some (v, hM') ∧ fz Wtx Vtx hX hX' ∧ fz Wtm Vtm hM hM' ∧ TX hX' hM' := by
  obtain ⟨n, n4, t1, t2, t3⟩ := hT
  obtain ⟨o1, f1⟩ := vl_thr oM
  have f1' : fz Wtm Vtm hM (wF hM 69 0 (.int (Int32.ofInt 0))) := fz_wF rfl
  have t2' : gI (wF hM 69 0 (.int (Int32.ofInt 0))) 69 22 = Int32.ofNat n := (fz_gI f1 rfl).trans t2
  have e85 : aI (wF hM 69 0 (.int (Int32.ofInt 0))) 85 = aI hM 85 := aI_wF
  unfold fn_X_end fn_M_end
  simp only [sb]
  generalize wF hM 69 0 (.int (Int32.ofInt 0)) = m1 at o1 f1' t2' e85 ⊢
  rw [tx_cut oX n4 t1, Option.bind_some, b01_in, cmp_b01n, Int32.toInt_toInt64, t2', Int32.toInt_toInt64, nm_ofNat_toInt n (by omega), i64c.1]
  by_cases h : 0 ≤ a.toInt ∧ a.toInt ≤ (n : Int)
  · rw [decide_eq_true h, cond_true, cond_true]
    obtain ⟨p, p4, rfl⟩ := nat_of (n := 41) h.1 (by omega)
    rw [nm_ofNat_toInt p (by omega)] at h
    exact ⟨_, wF hX 12 1 (.int (Int32.ofNat p)), wF m1 69 22 (.int (Int32.ofNat p)), rfl, rfl, fz_wF rfl, fz_tr f1' (fz_wF rfl), p, by omega, gI_wF (cs := [12]) (ci := 5) rfl List.mem_cons_self oX, gI_wF (cs := [69]) (ci := 9) rfl List.mem_cons_self o1, fun i hi => by rw [aI_wF, aI_wF, e85]; exact t3 i hi⟩
  · rw [decide_eq_false h, cond_false, cond_false]
    exact ⟨_, hX, m1, rfl, rfl, fz_rf, f1', n, n4, t1, t2', fun i hi => by rw [e85]; exact t3 i hi⟩
end sy_T
/-! the first fault -/
section sy_U
theorem tx_behind {q : Nat} (hq : q ≤ 3) (s : Int32) (h : px_H) : fn_Text_behind (Int32.ofNat q) s h = some (rp_bi (rp_bh q s)) := by
  unfold fn_Text_behind
  match q, hq with
  | 0, _ =>
    rw [show px_cmp .eq (Int32.ofNat 0) (Int32.ofInt 0) = true from by decide, cond_true, rp_bh0, cmp_ne, cmp_eq, cmp_eq, cmp_ne, show (Int8.ofInt 115).toInt32 = 115 from by decide, show (Int8.ofInt 107).toInt32 = 107 from by decide, show (Int8.ofInt 100).toInt32 = 100 from by decide, show (Int8.ofInt 119).toInt32 = 119 from by decide]
    by_cases h1 : s = 115
    · rw [if_pos h1, decide_eq_true h1]; rfl
    · rw [if_neg h1, decide_eq_false h1]
      by_cases h2 : s = 107
      · rw [if_pos (Or.inl h2), decide_eq_true h2]; rfl
      · rw [decide_eq_false h2]
        by_cases h3 : s = 100
        · rw [if_pos (Or.inr (Or.inl h3)), decide_eq_true h3]; rfl
        · rw [decide_eq_false h3]
          by_cases h4 : s = 119
          · rw [if_pos (Or.inr (Or.inr h4)), decide_eq_true h4]; rfl
          · rw [if_neg (by rintro (e | e | e); exact h2 e; exact h3 e; exact h4 e), decide_eq_false h4]; rfl
  | 1, _ =>
    rw [show px_cmp .eq (Int32.ofNat 1) (Int32.ofInt 0) = false from by decide, cond_false, show px_cmp .eq (Int32.ofNat 1) (Int32.ofInt 1) = true from by decide, cond_true, rp_bh1, cmp_lt, cmp_gt, show (Int8.ofInt 49).toInt32.toInt = 49 from by decide, show (Int8.ofInt 54).toInt32.toInt = 54 from by decide]
    by_cases h1 : s.toInt < 49
    · rw [if_neg (by omega), decide_eq_true h1]; rfl
    · rw [decide_eq_false h1]
      by_cases h2 : 54 < s.toInt
      · rw [if_neg (by omega), decide_eq_true h2]; rfl
      · rw [if_pos (by omega), decide_eq_false h2]; rfl
  | 2, _ =>
    rw [show px_cmp .eq (Int32.ofNat 2) (Int32.ofInt 0) = false from by decide, cond_false, show px_cmp .eq (Int32.ofNat 2) (Int32.ofInt 1) = false from by decide, cond_false, show px_cmp .eq (Int32.ofNat 2) (Int32.ofInt 2) = true from by decide, cond_true, rp_bh2, cmp_eq, cmp_eq, cmp_ne, show (Int8.ofInt 98).toInt32 = 98 from by decide, show (Int8.ofInt 116).toInt32 = 116 from by decide, show (Int8.ofInt 108).toInt32 = 108 from by decide]
    by_cases h2 : s = 98
    · rw [if_pos (Or.inl h2), decide_eq_true h2]; rfl
    · rw [decide_eq_false h2]
      by_cases h3 : s = 116
      · rw [if_pos (Or.inr (Or.inl h3)), decide_eq_true h3]; rfl
      · rw [decide_eq_false h3]
        by_cases h4 : s = 108
        · rw [if_pos (Or.inr (Or.inr h4)), decide_eq_true h4]; rfl
        · rw [if_neg (by rintro (e | e | e); exact h2 e; exact h3 e; exact h4 e), decide_eq_false h4]; rfl
  | 3, _ =>
    rw [show px_cmp .eq (Int32.ofNat 3) (Int32.ofInt 0) = false from by decide, cond_false, show px_cmp .eq (Int32.ofNat 3) (Int32.ofInt 1) = false from by decide, cond_false, show px_cmp .eq (Int32.ofNat 3) (Int32.ofInt 2) = false from by decide, cond_false, rp_bh3, cmp_ne, show (Int8.ofInt 59).toInt32 = 59 from by decide]
    by_cases h2 : s = 59
    · rw [if_pos h2, decide_eq_true h2]; rfl
    · rw [if_neg h2, decide_eq_false h2]; rfl
  | q + 4, h => omega
theorem tx_ff {h : px_H} {n : Nat} (hn : gI h 12 1 = Int32.ofNat n) (n4 : n ≤ 40) : ∀ (m q i N : Nat), q ≤ 3 → i ≤ min n 20 → min n 20 < i + m → m < N → fn_Text_firstFault_L4 h N (Int32.ofNat q) (Int32.ofNat i) = some (Int32.ofInt (xf (aI h 13) (min n 20) n m q i)) := by
  intro m
  induction m with
  | zero => intro q i N h1 h2 h3; omega
  | succ m ih =>
    intro q i N hq hi hm hN
    obtain ⟨N, rfl⟩ : ∃ k, N = k + 1 := ⟨N - 1, by omega⟩
    have E : (bif decide (n ≤ 20) then (bif decide (n = 0) then some (Int32.ofInt (-1)) else (bif !decide (q = 3) then some (Int32.ofNat n) else some (Int32.ofInt (-1)))) else some (Int32.ofNat 20)) = some (Int32.ofInt (xf_end n q)) := by
      unfold xf_end
      by_cases h1 : n ≤ 20
      · rw [decide_eq_true h1, cond_true, if_neg (by omega)]
        by_cases h2 : n = 0
        · rw [decide_eq_true h2, if_pos (Or.inl h2)]; rfl
        · rw [decide_eq_false h2, cond_false]
          by_cases h3 : q = 3
          · rw [decide_eq_true h3, if_pos (Or.inr h3)]; rfl
          · rw [decide_eq_false h3, if_neg (by omega), oI_nat n (by omega)]; rfl
      · rw [decide_eq_false h1, if_pos (by omega)]; rfl
    have eq0 : px_cmp .eq (Int32.ofNat n) 0 = decide (n = 0) := eq_nat (b := 0) (by omega) (by omega)
    have eq3 : px_cmp .ne (Int32.ofNat q) (Int32.ofInt 3) = !decide (q = 3) := by
      rw [show px_cmp .ne (Int32.ofNat q) (Int32.ofInt 3) = px_cmp .ne (Int32.ofNat q) (Int32.ofNat 3) from rfl, cmp_ne]
      congr 1
      exact eq_nat (a := q) (b := 3) (by omega) (by omega)
    show fb_Text_firstFault_L4 h (fn_Text_firstFault_L4 h N) (Int32.ofNat q) (Int32.ofNat i) = _
    unfold fb_Text_firstFault_L4
    rw [hn, show (Int8.ofInt 20).toInt32 = Int32.ofNat 20 from by decide, ge_nat (a := i) (b := n) (by omega) (by omega), ge_nat (a := i) (b := 20) (by omega) (by omega), le_nat (a := n) (b := 20) (by omega) (by omega), eq0, eq3]
    by_cases hw : i < min n 20
    · rw [decide_eq_false (show ¬ n ≤ i by omega), decide_eq_false (show ¬ 20 ≤ i by omega), cond_false, cond_false, nm_inR i 40 (by omega) (by omega), cond_true, nm_ofNat_clamp i (by omega), tx_behind hq, Option.bind_some]
      cases hb : rp_bh q (aI h 13 i) with
      | none =>
        rw [xf_no hw hb, oI_nat i (by omega), show px_cmp .ge (rp_bi none) 0 = false from by decide, cond_false]
      | some q' =>
        have q3 := rp_bh_le hb
        rw [xf_go hw hb, show px_cmp .ge (rp_bi (some q')) 0 = true from (ge_nat (a := q') (b := 0) (by omega) (by omega)).trans (decide_eq_true (by omega)), cond_true, inc1]
        exact ih q' (i + 1) N q3 (by omega) (by omega) (by omega)
    · rw [xf_at hw]
      by_cases hin : n ≤ i
      · rw [decide_eq_true hin, cond_true]; exact E
      · rw [decide_eq_false hin, cond_false, decide_eq_true (show 20 ≤ i by omega), cond_true]; exact E
theorem xf_bd {g : Nat → Int32} {w n : Nat} (hw : w ≤ n) : ∀ (m q i : Nat), -1 ≤ xf g w n m q i ∧ xf g w n m q i ≤ max (n : Int) 20 := by
  have E : ∀ q, -1 ≤ xf_end n q ∧ xf_end n q ≤ max (n : Int) 20 := by
    intro q
    unfold xf_end
    split
    · omega
    · split <;> omega
  intro m
  induction m with
  | zero => intro q i; exact E q
  | succ m ih =>
    intro q i
    unfold xf
    split
    · split
      · exact ih _ _
      · omega
    · exact E q
theorem tx_first {h : px_H} {n : Nat} (hn : gI h 12 1 = Int32.ofNat n) (n4 : n ≤ 40) : fn_Text_firstFault h = some (Int32.ofInt (xf (aI h 13) (min n 20) n 21 0 0)) := tx_ff hn n4 21 0 0 fu (by omega) (by omega) (by omega) (fu_lt (by omega))
end sy_U
