section mg_0
/-! keep, again, pack -/
section sy_J
variable {z dn nx ln : Nat} {hX hM : px_H}
theorem lt3 (a : Int32) : px_cmp .lt a (Int32.ofInt 3) = decide (a.toInt < 3) := by rw [cmp_lt, show (Int32.ofInt 3).toInt = 3 from by decide]
theorem in_2 (a : Int32) : sx_in a.toInt64 (Int64.ofNat 0) (Int64.ofInt 2) = b01 (inN a 3) := by
  rw [b01_in, Int32.toInt_toInt64, i64c.1, i64c.2.2.1]
  unfold inN
  congr 1
  simp only [decide_eq_decide]
  omega
theorem dd_fb {a b : Nat} (h : a ≠ b) : Nat.beq a b = false := by
  cases hb : Nat.beq a b with
  | false => rfl
  | true => exact absurd (Nat.eq_of_beq_eq_true hb) h
theorem k66 {i : Nat} (hi : i < 3) : 66 + i ∈ chs := by
  match i, hi with
  | 0, _ => decide
  | 1, _ => decide
  | 2, _ => decide
  | i + 3, h => omega
def Wk (i a k : Nat) : Bool := Nat.beq a (66 + i) || (Nat.beq a 0 && Nat.beq k 14)
def V52 (c : Nat) : Bool := Nat.beq c 52
def VK (c : Nat) : Bool := Nat.beq c 100 || (Nat.beq c 101 || (Nat.beq c 102 || (Nat.beq c 103 || Nat.beq c 104)))
theorem wk_no {i : Nat} (hi : i < 3) {fs : List (Nat × Nat)} {as : List Nat} (h : (List.range 3).all (fun i => nX (Wk i) V52 fs as) = true) : nX (Wk i) V52 fs as = true := List.all_eq_true.mp h i (List.mem_range.mpr hi)
theorem sim_keep (oX : oS hX) (oM : oS hM) (h51 : ∀ i, i < 3 → aR hX 51 i = 66 + i) (hR : RLz z dn nx ln hX hM) (a : Int32) : ∃ (v : Int32) (hX' hM' : px_H), fn_X_keep a hX = some (v, hX') ∧ fn_M_keep a hM = some (v, hM') ∧ RLz z dn nx ln hX' hM' := by
  have hR1 := RLz_thr hR oM
  obtain ⟨o1, -⟩ := vl_thr oM
  unfold fn_X_keep fn_M_keep
  simp only [sb]
  generalize wF hM 69 0 (.int (Int32.ofInt 0)) = m1 at hR1 o1 ⊢
  rw [in_2, cmp_b01n, lt0, lt3]
  cases hi9 : inN a 3 with
  | false =>
    have hn : ¬ (0 ≤ a.toInt ∧ a.toInt < (3 : Nat)) := of_decide_eq_false hi9
    by_cases h0 : a.toInt < 0
    · rw [decide_eq_true h0]
      exact ⟨_, hX, m1, rfl, rfl, hR1⟩
    · rw [decide_eq_false h0, decide_eq_false (show ¬ a.toInt < 3 by omega)]
      exact ⟨_, hX, m1, rfl, rfl, hR1⟩
  | true =>
    have hy : 0 ≤ a.toInt ∧ a.toInt < (3 : Nat) := of_decide_eq_true hi9
    rw [decide_eq_false (show ¬ a.toInt < 0 by omega), decide_eq_true (show a.toInt < 3 by omega)]
    obtain ⟨i, hi, rfl⟩ := inN_t hi9
    rw [cond_false, cond_true, cond_true, nm_inR i 3 hi (by omega), nm_ofNat_clamp i (by omega), cond_true, h51 i hi]
    obtain ⟨h1, h2, h3, h4, ⟨h5, h6, h7⟩, h8, ⟨h9, h10⟩, h11⟩ := hR1
    have z9 := h1.1
    obtain ⟨s1, s2⟩ := CL_sms z9 h4 h5
    obtain ⟨p0, p1, p2', p3, p4, p5⟩ := f1_pv s1.1 s1.2.1 s1.2.2.1 s1.2.2.2.1 s1.2.2.2.2.1 s1.2.2.2.2.2
    obtain ⟨x1, c1, c2, c3, c4, c5, c6⟩ := vl_copy (c := 66 + i) (e := 19) oX (k66 hi) (by omega)
    rw [c1, Option.bind_some, cond_true]
    have g11 : gI x1 0 11 = gI hX 0 11 := fz_gI c3 (dd_fb (by omega))
    rw [g11]
    have ox2 : oS (uI x1 52 i (gI hX 0 11)) := oS_uI (cs := [52]) (t := 25) (n := 3) rfl List.mem_cons_self c2
    have ex2 : aI (uI x1 52 i (gI hX 0 11)) 52 = upd (aI x1 52) i (gI hX 0 11) := aI_uI (cs := [52]) (t := 25) (n := 3) rfl List.mem_cons_self c2
    have FX2 : fz (Wk i) V52 hX (uI x1 52 i (gI hX 0 11)) := fz_tr (fz_mono c3 (fun c k h => by unfold Wk at h; simp only [Bool.or_eq_false_iff] at h; exact h.1) (fun _ _ => rfl)) (fz_uI rfl)
    have l2 : gL (uI x1 52 i (gI hX 0 11)) (66 + i) 0 = gL hX 19 0 := gL_uI.trans c4
    have i2 : gI (uI x1 52 i (gI hX 0 11)) (66 + i) 1 = gI hX 19 1 := gI_uI.trans c5
    have n2 : gI (uI x1 52 i (gI hX 0 11)) (66 + i) 2 = gI hX 19 2 := gI_uI.trans c6
    have g14 : gI (uI x1 52 i (gI hX 0 11)) 0 14 = gI hX 0 14 := gI_uI.trans (fz_gI c3 (dd_fb (by omega)))
    generalize uI x1 52 i (gI hX 0 11) = x2 at ox2 ex2 FX2 l2 i2 n2 g14 ⊢
    rw [g14]
    have ox3 : oS (wF x2 0 14 (.int (gI hX 0 14 ||| ((Int32.ofInt 1) <<< (Int32.ofNat i &&& 31))))) := oS_wI (cs := [0]) (ci := 8) rfl List.mem_cons_self ox2
    have e14 : gI (wF x2 0 14 (.int (gI hX 0 14 ||| ((Int32.ofInt 1) <<< (Int32.ofNat i &&& 31))))) 0 14 = gI hX 0 14 ||| ((Int32.ofInt 1) <<< (Int32.ofNat i &&& 31)) := gI_wF (cs := [0]) (ci := 8) rfl List.mem_cons_self ox2
    have FX3 : fz (Wk i) V52 hX (wF x2 0 14 (.int (gI hX 0 14 ||| ((Int32.ofInt 1) <<< (Int32.ofNat i &&& 31))))) := fz_tr FX2 (fz_wF (by unfold Wk; exact Bool.or_true _))
    have l3 : gL (wF x2 0 14 (.int (gI hX 0 14 ||| ((Int32.ofInt 1) <<< (Int32.ofNat i &&& 31))))) (66 + i) 0 = gL hX 19 0 := (gL_wF_ne (by omega)).trans l2
    have i3 : gI (wF x2 0 14 (.int (gI hX 0 14 ||| ((Int32.ofInt 1) <<< (Int32.ofNat i &&& 31))))) (66 + i) 1 = gI hX 19 1 := (gI_wF_ne (by omega)).trans i2
    have n3 : gI (wF x2 0 14 (.int (gI hX 0 14 ||| ((Int32.ofInt 1) <<< (Int32.ofNat i &&& 31))))) (66 + i) 2 = gI hX 19 2 := (gI_wF_ne (by omega)).trans n2
    have x52 : aI (wF x2 0 14 (.int (gI hX 0 14 ||| ((Int32.ofInt 1) <<< (Int32.ofNat i &&& 31))))) 52 = upd (aI hX 52) i (gI hX 0 11) := by
      rw [aI_wF, ex2]
      congr 1
      exact (c3.2 52 rfl).1
    generalize wF x2 0 14 (.int (gI hX 0 14 ||| ((Int32.ofInt 1) <<< (Int32.ofNat i &&& 31)))) = x3 at ox3 e14 FX3 l3 i3 n3 x52 ⊢
    have om1 : oS (uI m1 100 i (Int32.ofInt 1)) := oS_uI (cs := [100]) (t := nr_isKept) (n := 3) rfl List.mem_cons_self o1
    have em1 : aI (uI m1 100 i (Int32.ofInt 1)) 100 = upd (aI m1 100) i (Int32.ofInt 1) := aI_uI (cs := [100]) (t := nr_isKept) (n := 3) rfl List.mem_cons_self o1
    have FM1 : fz W0 VK m1 (uI m1 100 i (Int32.ofInt 1)) := fz_uI rfl
    have L1 : ∀ c, aL (uI m1 100 i (Int32.ofInt 1)) c = aL m1 c := fun c => aL_uI
    have I1 : ∀ c, c ≠ 100 → aI (uI m1 100 i (Int32.ofInt 1)) c = aI m1 c := fun c hc => aI_uI_ne hc
    generalize uI m1 100 i (Int32.ofInt 1) = m2 at om1 em1 FM1 L1 I1 ⊢
    rw [vl_first, Option.bind_some, (FM1.2 88 rfl).1, (FM1.2 89 rfl).1, fz_gI FM1 rfl, fz_gI FM1 rfl, cond_true]
    generalize hF : f1v (aI m1 88 0) (aI m1 88 1) (aI m1 89 0) (aI m1 89 1) (gI m1 69 32) (gI m1 69 33) = Fv at p0 p1 p2' p3 p4 p5 ⊢
    have om2 : oS (uL m2 101 i Fv) := oS_uL (cs := [101]) (t := nr_keptFirst) (n := 3) rfl List.mem_cons_self om1
    have em2 : aL (uL m2 101 i Fv) 101 = vp_updL (aL m1 101) i Fv := by rw [aL_uL (cs := [101]) (t := nr_keptFirst) (n := 3) rfl List.mem_cons_self om1, L1]
    have L2 : aL (uL m2 101 i Fv) 102 = aL m1 102 := (aL_uL_ne (by decide)).trans (L1 102)
    have I2 : ∀ c, c ≠ 100 → aI (uL m2 101 i Fv) c = aI m1 c := fun c hc => aI_uL.trans (I1 c hc)
    have FM2 : fz W0 VK m1 (uL m2 101 i Fv) := fz_tr FM1 (fz_uL rfl)
    have em2b : aI (uL m2 101 i Fv) 100 = upd (aI m1 100) i (Int32.ofInt 1) := aI_uL.trans em1
    generalize uL m2 101 i Fv = m3 at om2 em2 FM2 em2b L2 I2 ⊢
    rw [vl_second, Option.bind_some, (FM2.2 90 rfl).1, cond_true]
    have hsc : ∀ p, p < 10 → uq (sc (aI m1 90) 10) p = aI m1 90 p := fun p hp => uq_sc s2 hp
    generalize sc (aI m1 90) 10 = Sv at hsc ⊢
    have om3 : oS (uL m3 102 i Sv) := oS_uL (cs := [102]) (t := nr_keptSecond) (n := 3) rfl List.mem_cons_self om2
    have em3 : aL (uL m3 102 i Sv) 102 = vp_updL (aL m1 102) i Sv := by rw [aL_uL (cs := [102]) (t := nr_keptSecond) (n := 3) rfl List.mem_cons_self om2, L2]
    have I3 : ∀ c, c ≠ 100 → aI (uL m3 102 i Sv) c = aI m1 c := fun c hc => aI_uL.trans (I2 c hc)
    have em3a : aL (uL m3 102 i Sv) 101 = vp_updL (aL m1 101) i Fv := (aL_uL_ne (by decide)).trans em2
    have em3b : aI (uL m3 102 i Sv) 100 = upd (aI m1 100) i (Int32.ofInt 1) := aI_uL.trans em2b
    have FM3 : fz W0 VK m1 (uL m3 102 i Sv) := fz_tr FM2 (fz_uL rfl)
    generalize uL m3 102 i Sv = m4 at om3 em3 em3a em3b FM3 I3 ⊢
    rw [fz_gI FM3 (c := 69) (k := 31) rfl, cond_true]
    have om4 : oS (uI m4 103 i (gI m1 69 31)) := oS_uI (cs := [103]) (t := nr_keptNext) (n := 3) rfl List.mem_cons_self om3
    have em4 : aI (uI m4 103 i (gI m1 69 31)) 103 = upd (aI m1 103) i (gI m1 69 31) := by rw [aI_uI (cs := [103]) (t := nr_keptNext) (n := 3) rfl List.mem_cons_self om3, I3 103 (by decide)]
    have I4 : aI (uI m4 103 i (gI m1 69 31)) 104 = aI m1 104 := (aI_uI_ne (by decide)).trans (I3 104 (by decide))
    have em4a : aL (uI m4 103 i (gI m1 69 31)) 101 = vp_updL (aL m1 101) i Fv := aL_uI.trans em3a
    have em4c : aL (uI m4 103 i (gI m1 69 31)) 102 = vp_updL (aL m1 102) i Sv := aL_uI.trans em3
    have em4b : aI (uI m4 103 i (gI m1 69 31)) 100 = upd (aI m1 100) i (Int32.ofInt 1) := (aI_uI_ne (by decide)).trans em3b
    have FM4 : fz W0 VK m1 (uI m4 103 i (gI m1 69 31)) := fz_tr FM3 (fz_uI rfl)
    generalize uI m4 103 i (gI m1 69 31) = m5 at om4 em4 em4a em4c em4b FM4 I4 ⊢
    rw [fz_gI FM4 (c := 69) (k := 37) rfl, cond_true]
    have om5 : oS (uI m5 104 i (gI m1 69 37)) := oS_uI (cs := [104]) (t := nr_keptRandom) (n := 3) rfl List.mem_cons_self om4
    have em5 : aI (uI m5 104 i (gI m1 69 37)) 104 = upd (aI m1 104) i (gI m1 69 37) := by rw [aI_uI (cs := [104]) (t := nr_keptRandom) (n := 3) rfl List.mem_cons_self om4, I4]
    have em5d : aI (uI m5 104 i (gI m1 69 37)) 103 = upd (aI m1 103) i (gI m1 69 31) := (aI_uI_ne (by decide)).trans em4
    have em5a : aL (uI m5 104 i (gI m1 69 37)) 101 = vp_updL (aL m1 101) i Fv := aL_uI.trans em4a
    have em5c : aL (uI m5 104 i (gI m1 69 37)) 102 = vp_updL (aL m1 102) i Sv := aL_uI.trans em4c
    have em5b : aI (uI m5 104 i (gI m1 69 37)) 100 = upd (aI m1 100) i (Int32.ofInt 1) := (aI_uI_ne (by decide)).trans em4b
    have FM5 : fz W0 VK m1 (uI m5 104 i (gI m1 69 37)) := fz_tr FM4 (fz_uI rfl)
    generalize uI m5 104 i (gI m1 69 37) = m6 at om5 em5 em5d em5a em5c em5b FM5 ⊢
    refine ⟨_, x3, m6, rfl, rfl, TR_k FX3 FM5 (wk_no hi (by decide)) (by decide) h1, fun p hp hq => by rw [(FX3.2 3 rfl).1]; exact h2 p hp hq, RR0_k FX3 FM5 (wk_no hi (by decide)) (by decide) h3, CL_k FX3 FM5 (wk_no hi (by decide)) (by decide) h4, ⟨h5, ?_, (fz_gI FM5 rfl).trans h7⟩, ?_, ⟨(fz_gI FM5 rfl).trans h9, (fz_gI FM5 rfl).trans h10⟩, ?_⟩
    · rw [fz_gI FX3 (nX_f (wk_no hi (fs := [(19, 2)]) (as := []) (by decide)) List.mem_cons_self)]; exact h6
    · rw [fz_gI FX3 (nX_f (wk_no hi (fs := [(0, 11)]) (as := []) (by decide)) List.mem_cons_self), fz_gI FM5 rfl]; exact h8
    · obtain ⟨k1, k2⟩ := h11
      refine ⟨by rw [e14]; exact sm_or k1 (sm_one (by omega)), fun j hj => ?_⟩
      by_cases e : j = i
      · subst e
        have t100 : px_cmp .eq (aI m6 100 j) 0 = false := by
          rw [em5b]
          simp only [upd, if_true]
          decide
        rw [e14, ib_or, ib_one j j (by omega), decide_eq_true (rfl : j = j), Bool.or_true, t100]
        refine ⟨rfl, fun _ => ⟨nx, ?_⟩⟩
        have q101 : aL m6 101 j = Fv := by rw [em5a]; simp only [vp_updL, if_true]
        have q102 : aL m6 102 j = Sv := by rw [em5c]; simp only [vp_updL, if_true]
        have q103 : aI m6 103 j = gI m1 69 31 := by rw [em5d]; simp only [upd, if_true]
        have q104 : aI m6 104 j = gI m1 69 37 := by rw [em5]; simp only [upd, if_true]
        have q52 : aI x3 52 j = gI hX 0 11 := by rw [x52]; simp only [upd, if_true]
        obtain ⟨⟨u0, u1, u2, u3, u4, u5, u6⟩, us, uz⟩ := h4
        unfold KQ
        rw [l3, i3, n3, q101, q102, q103, q104, q52]
        refine ⟨⟨u0.trans p0.symm, u1.trans p1.symm, u2.trans p2'.symm, u3.trans p3.symm, u4, p4.trans u5, p5.trans u6⟩, fun p hp => ?_, fun w hw => ?_, h5, h6, h7, h8⟩
        · rw [hsc p hp]; exact us p hp
        · match w, hw with
          | 0, _ => rw [p0]; exact (uz 0 (by omega)).1
          | 1, _ => rw [p1]; exact (uz 1 (by omega)).1
          | 2, _ => rw [p2']; exact (uz 0 (by omega)).2
          | 3, _ => rw [p3]; exact (uz 1 (by omega)).2
          | w + 4, h => omega
      · have b100 : aI m6 100 j = aI m1 100 j := by rw [em5b]; simp only [upd]; rw [if_neg e]
        have q101 : aL m6 101 j = aL m1 101 j := by rw [em5a]; simp only [vp_updL]; rw [if_neg e]
        have q102 : aL m6 102 j = aL m1 102 j := by rw [em5c]; simp only [vp_updL]; rw [if_neg e]
        have q103 : aI m6 103 j = aI m1 103 j := by rw [em5d]; simp only [upd]; rw [if_neg e]
        have q104 : aI m6 104 j = aI m1 104 j := by rw [em5]; simp only [upd]; rw [if_neg e]
        have q52 : aI x3 52 j = aI hX 52 j := by rw [x52]; simp only [upd]; rw [if_neg e]
        have wj : ∀ k, Wk i (66 + j) k = false := fun k => by
          unfold Wk
          rw [dd_fb (show 66 + j ≠ 66 + i by omega), dd_fb (show 66 + j ≠ 0 by omega)]
          rfl
        rw [e14, ib_or, ib_one i j (by omega), dd_f e, Bool.or_false, b100]
        refine ⟨(k2 j hj).1, fun h => ?_⟩
        obtain ⟨n9, hq⟩ := (k2 j hj).2 h
        refine ⟨n9, ?_⟩
        unfold KQ
        rw [q101, q102, q103, q104, q52, fz_gL FX3 (wj 0), fz_gI FX3 (wj 1), fz_gI FX3 (wj 2)]
        exact hq
def Wg (c k : Nat) : Bool := Nat.beq c 19 || (Nat.beq c 0 && Nat.beq k 11)
theorem sim_again (oX : oS hX) (oM : oS hM) (h51 : ∀ i, i < 3 → aR hX 51 i = 66 + i) (hR : RLz z dn nx ln hX hM) (a : Int32) : ∃ (v : Int32) (hX' hM' : px_H), fn_X_again a hX = some (v, hX') ∧ fn_M_again a hM = some (v, hM') ∧ ∃ nx', RLz z dn nx' ln hX' hM' := by
  have hR1 := RLz_thr hR oM
  obtain ⟨o1, -⟩ := vl_thr oM
  unfold fn_X_again fn_M_again
  simp only [sb]
  generalize wF hM 69 0 (.int (Int32.ofInt 0)) = m1 at hR1 o1 ⊢
  rw [in_2, cmp_b01, lt0, cmp_ge, show (Int32.ofInt 3).toInt = 3 from by decide]
  cases hi9 : inN a 3 with
  | false =>
    have hn : ¬ (0 ≤ a.toInt ∧ a.toInt < (3 : Nat)) := of_decide_eq_false hi9
    by_cases h0 : a.toInt < 0
    · rw [decide_eq_true h0]
      exact ⟨_, hX, m1, rfl, rfl, nx, hR1⟩
    · rw [decide_eq_false h0, decide_eq_true (show 3 ≤ a.toInt by omega)]
      exact ⟨_, hX, m1, rfl, rfl, nx, hR1⟩
  | true =>
    have hy : 0 ≤ a.toInt ∧ a.toInt < (3 : Nat) := of_decide_eq_true hi9
    rw [decide_eq_false (show ¬ a.toInt < 0 by omega), decide_eq_false (show ¬ 3 ≤ a.toInt by omega)]
    obtain ⟨i, hi, rfl⟩ := inN_t hi9
    rw [cond_false, cond_false, Bool.not_true, cond_false, nm_inR i 3 hi (by omega), nm_ofNat_clamp i (by omega), cond_true, hb_ne _ (show i < 32 by omega), h51 i hi]
    have hR1' := hR1
    obtain ⟨h1, h2, h3, h4, ⟨h5, h6, h7⟩, h8, ⟨h9, h10⟩, h11⟩ := hR1
    have hk := h11.2 i hi
    have e100 : px_cmp .ne (aI m1 100 i) 0 = ib (gI hX 0 14) i := by
      rw [hk.1]
      simp only [px_cmp]
      by_cases e : aI m1 100 i = 0 <;> simp [e]
    rw [e100]
    cases hb : ib (gI hX 0 14) i with
    | false => exact ⟨_, hX, m1, rfl, rfl, nx, hR1'⟩
    | true =>
      obtain ⟨n9, ⟨⟨u0, u1, u2, u3, u4, u5, u6⟩, us, uz, un, v1, v2, v3⟩⟩ := hk.2 hb
      rw [cond_true, cond_true]
      obtain ⟨x1, c1, c2, c3, c4, c5, c6⟩ := vl_copy (c := 19) (e := 66 + i) oX (by decide) (by omega)
      rw [c1, Option.bind_some, cond_true, (c3.2 52 rfl).1]
      obtain ⟨m2, d1, d2, d3, ⟨w1, w2, w3, w4, w5, w6⟩, d5⟩ := vl_unpacks o1 (aL m1 101 i) (aL m1 102 i)
      rw [cond_true, cond_true, d1, Option.bind_some, cond_true, (d3.2 103 rfl).1]
      have ox : oS (wF x1 0 11 (.int (aI hX 52 i))) := oS_wI (cs := [0]) (ci := 8) rfl List.mem_cons_self c2
      have ex : gI (wF x1 0 11 (.int (aI hX 52 i))) 0 11 = aI hX 52 i := gI_wF (cs := [0]) (ci := 8) rfl List.mem_cons_self c2
      have FX : fz Wg V0 hX (wF x1 0 11 (.int (aI hX 52 i))) := fz_tr (fz_mono c3 (fun c k h => by unfold Wg at h; simp only [Bool.or_eq_false_iff] at h; exact h.1) (fun _ h => h)) (fz_wF rfl)
      have om3 : oS (wF m2 69 31 (.int (aI m1 103 i))) := oS_wI (cs := [69]) (ci := 9) rfl List.mem_cons_self d2
      have em3 : gI (wF m2 69 31 (.int (aI m1 103 i))) 69 31 = aI m1 103 i := gI_wF (cs := [69]) (ci := 9) rfl List.mem_cons_self d2
      have FM3 : fz (fun c k => Nat.beq c 69 && (Nat.beq k 31 || (Nat.beq k 32 || (Nat.beq k 33 || Nat.beq k 37)))) VM m1 (wF m2 69 31 (.int (aI m1 103 i))) := fz_tr (fz_mono d3 (fun c k h => by
        unfold WM
        cases h69 : Nat.beq c 69
        · rfl
        · rw [h69, Bool.true_and] at h
          simp only [Bool.or_eq_false_iff] at h
          rw [h.2.1, h.2.2.1]
          rfl) (fun _ h => h)) (fz_wF rfl)
      have q3 : ∀ c, aI (wF m2 69 31 (.int (aI m1 103 i))) c = aI m2 c := fun c => aI_wF
      have q32 : gI (wF m2 69 31 (.int (aI m1 103 i))) 69 32 = gI m2 69 32 := gI_wF_ne (by decide)
      have q33 : gI (wF m2 69 31 (.int (aI m1 103 i))) 69 33 = gI m2 69 33 := gI_wF_ne (by decide)
      generalize wF m2 69 31 (.int (aI m1 103 i)) = m3 at om3 em3 FM3 q3 q32 q33 ⊢
      rw [cond_true, (FM3.2 104 rfl).1]
      have om4 : oS (wF m3 69 37 (.int (aI m1 104 i))) := oS_wI (cs := [69]) (ci := 9) rfl List.mem_cons_self om3
      have em4 : gI (wF m3 69 37 (.int (aI m1 104 i))) 69 37 = aI m1 104 i := gI_wF (cs := [69]) (ci := 9) rfl List.mem_cons_self om3
      have em5 : gI (wF m3 69 37 (.int (aI m1 104 i))) 69 31 = aI m1 103 i := (gI_wF_ne (by decide)).trans em3
      have FM : fz (fun c k => Nat.beq c 69 && (Nat.beq k 31 || (Nat.beq k 32 || (Nat.beq k 33 || Nat.beq k 37)))) VM m1 (wF m3 69 37 (.int (aI m1 104 i))) := fz_tr FM3 (fz_wF rfl)
      have r3 : ∀ c, aI (wF m3 69 37 (.int (aI m1 104 i))) c = aI m2 c := fun c => aI_wF.trans (q3 c)
      have r32 : gI (wF m3 69 37 (.int (aI m1 104 i))) 69 32 = gI m2 69 32 := (gI_wF_ne (by decide)).trans q32
      have r33 : gI (wF m3 69 37 (.int (aI m1 104 i))) 69 33 = gI m2 69 33 := (gI_wF_ne (by decide)).trans q33
      generalize wF m3 69 37 (.int (aI m1 104 i)) = m4 at om4 em4 em5 FM r3 r32 r33 ⊢
      have l1 : gL (wF x1 0 11 (.int (aI hX 52 i))) 19 0 = gL hX (66 + i) 0 := (gL_wF_ne (by decide)).trans c4
      have i1 : gI (wF x1 0 11 (.int (aI hX 52 i))) 19 1 = gI hX (66 + i) 1 := (gI_wF_ne (by decide)).trans c5
      have n1 : gI (wF x1 0 11 (.int (aI hX 52 i))) 19 2 = gI hX (66 + i) 2 := (gI_wF_ne (by decide)).trans c6
      refine ⟨_, wF x1 0 11 (.int (aI hX 52 i)), m4, rfl, rfl, n9, TR_k FX FM (by decide) (by decide) h1, fun p hp hq => by rw [(FX.2 3 rfl).1]; exact h2 p hp hq, RR0_k FX FM (by decide) (by decide) h3, ⟨?_, fun p hp => ?_, fun j hj => ?_⟩, ⟨un, n1.trans v1, em5.trans v2⟩, ?_, ⟨(fz_gI FM rfl).trans h9, (fz_gI FM rfl).trans h10⟩, KP_k FX FM (by decide) (by decide) h11⟩
      · rw [l1, r3, r3, r32, r33]
        exact ⟨u0.trans w1.symm, u1.trans w2.symm, u2.trans w3.symm, u3.trans w4.symm, u4, w5.trans u5, w6.trans u6⟩
      · rw [i1, r3, d5 p hp]
        exact us p hp
      · rw [r3, r3]
        match j, hj with
        | 0, _ => rw [w1, w3]; exact ⟨uz 0 (by omega), uz 2 (by omega)⟩
        | 1, _ => rw [w2, w4]; exact ⟨uz 1 (by omega), uz 3 (by omega)⟩
        | j + 2, h => omega
      · rw [ex, em4]; exact v3
end sy_J
end mg_0

section mg_1
/-! the town's calls -/
section sy_K
variable {z dn nx ln : Nat} {hX hM : px_H}
theorem upd_eq (f : Nat → Int32) (k : Nat) (v : Int32) (j : Nat) : upd f k v j = if j = k then v else f j := rfl
/-- an element of a town's array on both sides -/
theorem oI (c t n j : Nat) (v : Int32) {h : px_H} (hS : oS h) (hb : bA [c] t n 0 = true) : oS (uI h c j v) ∧ aI (uI h c j v) c = upd (aI h c) j v ∧ (∀ d, d ≠ c → aI (uI h c j v) d = aI h d) ∧ fz W0 (fun a => Nat.beq a c) h (uI h c j v) :=
  ⟨oS_uI hb List.mem_cons_self hS, aI_uI hb List.mem_cons_self hS, fun _ hd => aI_uI_ne hd, fz_uI (Nat.beq_refl c)⟩
theorem sim_debt (oX : oS hX) (oM : oS hM) (hR : RLz z dn nx ln hX hM) (a1 a2 : Int32) : ∃ (v : Int32) (hX' hM' : px_H), fn_X_debt a1 a2 hX = some (v, hX') ∧ fn_M_debt a1 a2 hM = some (v, hM') ∧ RLz z dn nx ln hX' hM' := by
  have hR1 := RLz_thr hR oM
  obtain ⟨o1, -⟩ := vl_thr oM
  unfold fn_X_debt fn_M_debt
  simp only [sb]
  generalize wF hM 69 0 (.int (Int32.ofInt 0)) = m1 at hR1 o1 ⊢
  have hT := hR1.1
  rw [gd_hasPerson hT.2.2.1 hT.1, gd_isPerson hT.2.2.2.1 hT.1, Option.bind_some, Option.bind_some, cmp_b01, gd_isDay, Option.bind_some, cmp_b01n, in_999, cmp_b01n]
  cases hb : inN a1 z with
  | false => exact ⟨_, hX, m1, rfl, rfl, hR1⟩
  | true =>
    cases hd : inN a2 1000 with
    | false => exact ⟨_, hX, m1, rfl, rfl, hR1⟩
    | true =>
      obtain ⟨p, pz, rfl⟩ := inN_t hb
      have z9 := hT.1
      rw [Bool.not_true, cond_false, cond_true, cond_false, cond_true, nm_inR p 10 (by omega) (by omega), nm_ofNat_clamp p (by omega), cond_true, cond_true, cond_true, cond_true]
      obtain ⟨ox, ex, nx', fx⟩ := oI 3 13 10 p a2 oX rfl
      obtain ⟨om, em, nm', fm⟩ := oI 72 nr_owes 10 p a2 o1 rfl
      obtain ⟨⟨g1, g2, t1, t2, t3, t4, tp, tb, td⟩, h2, h3, h4, ⟨h5, h6, h7⟩, h8, ⟨h9, h10⟩, h11⟩ := hR1
      refine ⟨aI hX 3 p, uI hX 3 p a2, uI m1 72 p a2, rfl, by rw [(tp p (by omega)).2.1], ⟨g1, g2, (fz_gI fx rfl).trans t1, (fz_gI fm rfl).trans t2, (fz_gI fx rfl).trans t3, (fz_gI fm rfl).trans t4, fun q hq => ?_, fun b hb => ?_, fun d hd => ?_⟩, fun q hq1 hq2 => ?_, RR0_k fx fm (by decide) (by decide) h3, CL_k fx fm (by decide) (by decide) h4, ⟨h5, (fz_gI fx rfl).trans h6, (fz_gI fm rfl).trans h7⟩, by rw [fz_gI fx rfl, fz_gI fm rfl]; exact h8, ⟨(fz_gI fm rfl).trans h9, (fz_gI fm rfl).trans h10⟩, KP_k fx fm (by decide) (by decide) h11⟩
      · rw [nx' 2 (by decide), nx' 6 (by decide), nx' 4 (by decide), nx' 5 (by decide), nm' 71 (by decide), nm' 75 (by decide), nm' 73 (by decide), nm' 74 (by decide), ex, em, upd_eq, upd_eq]
        obtain ⟨q1, q2, q3, q4⟩ := tp q hq
        refine ⟨q1, ?_, q3, q4⟩
        by_cases e : q = p
        · rw [if_pos e, if_pos e]
        · rw [if_neg e, if_neg e]; exact q2
      · rw [nx' 7 (by decide), nx' 8 (by decide), nm' 76 (by decide), nm' 77 (by decide)]; exact tb b hb
      · rw [nx' 9 (by decide), nx' 10 (by decide), nx' 11 (by decide), nm' 78 (by decide), nm' 79 (by decide), nm' 80 (by decide)]; exact td d hd
      · rw [ex, upd_eq, if_neg (by omega)]; exact h2 q hq1 hq2
theorem sim_dies (oX : oS hX) (oM : oS hM) (hR : RLz z dn nx ln hX hM) (a1 a2 : Int32) : ∃ (v : Int32) (hX' hM' : px_H), fn_X_dies a1 a2 hX = some (v, hX') ∧ fn_M_dies a1 a2 hM = some (v, hM') ∧ RLz z dn nx ln hX' hM' := by
  have hR1 := RLz_thr hR oM
  obtain ⟨o1, -⟩ := vl_thr oM
  unfold fn_X_dies fn_M_dies
  simp only [sb]
  generalize wF hM 69 0 (.int (Int32.ofInt 0)) = m1 at hR1 o1 ⊢
  have hT := hR1.1
  have e1 : sx_in a2.toInt64 (Int64.ofNat 0) (Int64.ofInt 1000) = b01 (decide (0 ≤ a2.toInt ∧ a2.toInt ≤ 1000)) := by rw [b01_in, Int32.toInt_toInt64, i64c.1, i64c.2.2.2.2.2.2.1]
  rw [gd_hasPerson hT.2.2.1 hT.1, gd_isPerson hT.2.2.2.1 hT.1, Option.bind_some, Option.bind_some, cmp_b01, lt0, cmp_le, show (Int16.ofInt 1000).toInt32.toInt = 1000 from by decide, e1, cmp_b01n]
  cases hb : inN a1 z with
  | false => exact ⟨_, hX, m1, rfl, rfl, hR1⟩
  | true =>
    by_cases h0 : a2.toInt < 0
    · rw [decide_eq_true h0, decide_eq_false (show ¬ (0 ≤ a2.toInt ∧ a2.toInt ≤ 1000) by omega)]
      exact ⟨_, hX, m1, rfl, rfl, hR1⟩
    · by_cases hh : a2.toInt ≤ 1000
      · obtain ⟨p, pz, rfl⟩ := inN_t hb
        have z9 := hT.1
        rw [decide_eq_false h0, decide_eq_true hh, decide_eq_true (show 0 ≤ a2.toInt ∧ a2.toInt ≤ 1000 by omega), Bool.not_true, cond_false, cond_false, cond_true, cond_false, cond_true, nm_inR p 10 (by omega) (by omega), nm_ofNat_clamp p (by omega), cond_true, cond_true, cond_true, cond_true]
        obtain ⟨ox, ex, nx', fx⟩ := oI 6 16 10 p a2 oX rfl
        obtain ⟨om, em, nm', fm⟩ := oI 75 nr_dead 10 p a2 o1 rfl
        obtain ⟨⟨g1, g2, t1, t2, t3, t4, tp, tb, td⟩, h2, h3, h4, ⟨h5, h6, h7⟩, h8, ⟨h9, h10⟩, h11⟩ := hR1
        refine ⟨aI hX 6 p, uI hX 6 p a2, uI m1 75 p a2, rfl, by rw [(tp p (by omega)).2.2.1], ⟨g1, g2, (fz_gI fx rfl).trans t1, (fz_gI fm rfl).trans t2, (fz_gI fx rfl).trans t3, (fz_gI fm rfl).trans t4, fun q hq => ?_, fun b hb => ?_, fun d hd => ?_⟩, fun q hq1 hq2 => ?_, RR0_k fx fm (by decide) (by decide) h3, CL_k fx fm (by decide) (by decide) h4, ⟨h5, (fz_gI fx rfl).trans h6, (fz_gI fm rfl).trans h7⟩, by rw [fz_gI fx rfl, fz_gI fm rfl]; exact h8, ⟨(fz_gI fm rfl).trans h9, (fz_gI fm rfl).trans h10⟩, KP_k fx fm (by decide) (by decide) h11⟩
        · rw [nx' 2 (by decide), nx' 3 (by decide), nx' 4 (by decide), nx' 5 (by decide), nm' 71 (by decide), nm' 72 (by decide), nm' 73 (by decide), nm' 74 (by decide), ex, em, upd_eq, upd_eq]
          obtain ⟨q1, q2, q3, q4⟩ := tp q hq
          refine ⟨q1, q2, ?_, q4⟩
          by_cases e : q = p
          · rw [if_pos e, if_pos e]
          · rw [if_neg e, if_neg e]; exact q3
        · rw [nx' 7 (by decide), nx' 8 (by decide), nm' 76 (by decide), nm' 77 (by decide)]; exact tb b hb
        · rw [nx' 9 (by decide), nx' 10 (by decide), nx' 11 (by decide), nm' 78 (by decide), nm' 79 (by decide), nm' 80 (by decide)]; exact td d hd
        · rw [nx' 3 (by decide)]; exact h2 q hq1 hq2
      · rw [decide_eq_false h0, decide_eq_false hh, decide_eq_false (show ¬ (0 ≤ a2.toInt ∧ a2.toInt ≤ 1000) by omega)]
        exact ⟨_, hX, m1, rfl, rfl, hR1⟩
theorem sim_renew (oX : oS hX) (oM : oS hM) (hR : RLz z dn nx ln hX hM) (a1 a2 : Int32) (h01 : a2 = 0 ∨ a2 = 1) : ∃ (v : Int32) (hX' hM' : px_H), fn_X_renew a1 a2 hX = some (v, hX') ∧ fn_M_renew a1 a2 hM = some (v, hM') ∧ RLz z dn nx ln hX' hM' := by
  have hR1 := RLz_thr hR oM
  obtain ⟨o1, -⟩ := vl_thr oM
  unfold fn_X_renew fn_M_renew
  simp only [sb]
  generalize wF hM 69 0 (.int (Int32.ofInt 0)) = m1 at hR1 o1 ⊢
  have e2 : (decide (a2 = 0) || decide (a2 = 1)) = true := by rcases h01 with h | h <;> rw [h] <;> decide
  rw [gd_isBag, gd_MisBag, Option.bind_some, Option.bind_some, cmp_b01n, e2]
  cases hb : inN a1 2 with
  | false => exact ⟨_, hX, m1, rfl, rfl, hR1⟩
  | true =>
    obtain ⟨p, p2, rfl⟩ := inN_t hb
    rw [cond_true, cond_true, nm_inR p 2 p2 (by omega), nm_ofNat_clamp p (by omega), cond_true, cond_true, cond_true, cond_true]
    obtain ⟨ox, ex, nx', fx⟩ := oI 8 18 2 p a2 oX rfl
    obtain ⟨om, em, nm', fm⟩ := oI 77 nr_isRenewed 2 p a2 o1 rfl
    obtain ⟨⟨g1, g2, t1, t2, t3, t4, tp, tb, td⟩, h2, h3, h4, ⟨h5, h6, h7⟩, h8, ⟨h9, h10⟩, h11⟩ := hR1
    refine ⟨_, uI hX 8 p a2, uI m1 77 p a2, rfl, rfl, ⟨g1, g2, (fz_gI fx rfl).trans t1, (fz_gI fm rfl).trans t2, (fz_gI fx rfl).trans t3, (fz_gI fm rfl).trans t4, fun q hq => ?_, fun b hb => ?_, fun d hd => ?_⟩, fun q hq1 hq2 => ?_, RR0_k fx fm (by decide) (by decide) h3, CL_k fx fm (by decide) (by decide) h4, ⟨h5, (fz_gI fx rfl).trans h6, (fz_gI fm rfl).trans h7⟩, by rw [fz_gI fx rfl, fz_gI fm rfl]; exact h8, ⟨(fz_gI fm rfl).trans h9, (fz_gI fm rfl).trans h10⟩, KP_k fx fm (by decide) (by decide) h11⟩
    · rw [nx' 2 (by decide), nx' 3 (by decide), nx' 4 (by decide), nx' 5 (by decide), nx' 6 (by decide), nm' 71 (by decide), nm' 72 (by decide), nm' 73 (by decide), nm' 74 (by decide), nm' 75 (by decide)]
      exact tp q hq
    · rw [nx' 7 (by decide), nm' 76 (by decide), ex, em, upd_eq, upd_eq]
      obtain ⟨q1, q2, q3⟩ := tb b hb
      refine ⟨q1, ?_, q3⟩
      by_cases e : b = p
      · rw [if_pos e, if_pos e]
      · rw [if_neg e, if_neg e]; exact q2
    · rw [nx' 9 (by decide), nx' 10 (by decide), nx' 11 (by decide), nm' 78 (by decide), nm' 79 (by decide), nm' 80 (by decide)]; exact td d hd
    · rw [nx' 3 (by decide)]; exact h2 q hq1 hq2
theorem sim_away (oX : oS hX) (oM : oS hM) (hR : RLz z dn nx ln hX hM) (a1 a2 a3 : Int32) : ∃ (v : Int32) (hX' hM' : px_H), fn_X_away a1 a2 a3 hX = some (v, hX') ∧ fn_M_away a1 a2 a3 hM = some (v, hM') ∧ RLz z dn nx ln hX' hM' := by
  have hR1 := RLz_thr hR oM
  obtain ⟨o1, -⟩ := vl_thr oM
  unfold fn_X_away fn_M_away
  simp only [sb]
  generalize wF hM 69 0 (.int (Int32.ofInt 0)) = m1 at hR1 o1 ⊢
  have hT := hR1.1
  rw [gd_hasPerson hT.2.2.1 hT.1, gd_isPerson hT.2.2.2.1 hT.1, Option.bind_some, Option.bind_some, cmp_b01, gd_isDay, Option.bind_some, cmp_b01, in_999, cmp_b01, gd_isDay, Option.bind_some, cmp_b01n, in_999, cmp_b01n]
  cases hb : inN a1 z with
  | false => exact ⟨_, hX, m1, rfl, rfl, hR1⟩
  | true =>
    cases hd : inN a2 1000 with
    | false => exact ⟨_, hX, m1, rfl, rfl, hR1⟩
    | true =>
      cases he : inN a3 1000 with
      | false => exact ⟨_, hX, m1, rfl, rfl, hR1⟩
      | true =>
        obtain ⟨p, pz, rfl⟩ := inN_t hb
        have z9 := hT.1
        rw [Bool.not_true, cond_false, cond_false, cond_true, cond_false, cond_false, cond_true, nm_inR p 10 (by omega) (by omega), nm_ofNat_clamp p (by omega), cond_true, cond_true, cond_true, cond_true]
        obtain ⟨ox, ex, nx', fx⟩ := oI 4 14 10 p a2 oX rfl
        obtain ⟨om, em, nm', fm⟩ := oI 73 nr_goneFrom 10 p a2 o1 rfl
        generalize uI hX 4 p a2 = x1 at ox ex nx' fx ⊢
        generalize uI m1 73 p a2 = m2 at om em nm' fm ⊢
        obtain ⟨ox2, ex2, ny', fx2⟩ := oI 5 15 10 p a3 ox rfl
        obtain ⟨om2, em2, nn', fm2⟩ := oI 74 nr_goneTo 10 p a3 om rfl
        have FX : fz W0 (fun a => Nat.beq a 4 || Nat.beq a 5) hX (uI x1 5 p a3) := fz_tr (fz_mono fx (fun _ _ h => h) (fun c h => by simp only [Bool.or_eq_false_iff] at h; exact h.1)) (fz_mono fx2 (fun _ _ h => h) (fun c h => by simp only [Bool.or_eq_false_iff] at h; exact h.2))
        have FM : fz W0 (fun a => Nat.beq a 73 || Nat.beq a 74) m1 (uI m2 74 p a3) := fz_tr (fz_mono fm (fun _ _ h => h) (fun c h => by simp only [Bool.or_eq_false_iff] at h; exact h.1)) (fz_mono fm2 (fun _ _ h => h) (fun c h => by simp only [Bool.or_eq_false_iff] at h; exact h.2))
        obtain ⟨⟨g1, g2, t1, t2, t3, t4, tp, tb, td⟩, h2, h3, h4, ⟨h5, h6, h7⟩, h8, ⟨h9, h10⟩, h11⟩ := hR1
        refine ⟨_, uI x1 5 p a3, uI m2 74 p a3, rfl, rfl, ⟨g1, g2, (fz_gI FX rfl).trans t1, (fz_gI FM rfl).trans t2, (fz_gI FX rfl).trans t3, (fz_gI FM rfl).trans t4, fun q hq => ?_, fun b hb => ?_, fun d hd => ?_⟩, fun q hq1 hq2 => ?_, RR0_k FX FM (by decide) (by decide) h3, CL_k FX FM (by decide) (by decide) h4, ⟨h5, (fz_gI FX rfl).trans h6, (fz_gI FM rfl).trans h7⟩, by rw [fz_gI FX rfl, fz_gI FM rfl]; exact h8, ⟨(fz_gI FM rfl).trans h9, (fz_gI FM rfl).trans h10⟩, KP_k FX FM (by decide) (by decide) h11⟩
        · rw [(FX.2 2 rfl).1, (FX.2 3 rfl).1, (FX.2 6 rfl).1, (FM.2 71 rfl).1, (FM.2 72 rfl).1, (FM.2 75 rfl).1, ny' 4 (by decide), ex2, nx' 5 (by decide), ex, nn' 73 (by decide), em2, nm' 74 (by decide), em, upd_eq, upd_eq, upd_eq, upd_eq]
          obtain ⟨q1, q2, q3, q4⟩ := tp q hq
          refine ⟨q1, q2, q3, ?_⟩
          by_cases e : q = p
          · rw [if_pos e, if_pos e, if_pos e, if_pos e]; exact Or.inl ⟨rfl, rfl⟩
          · rw [if_neg e, if_neg e, if_neg e, if_neg e]; exact q4
        · rw [(FX.2 7 rfl).1, (FX.2 8 rfl).1, (FM.2 76 rfl).1, (FM.2 77 rfl).1]; exact tb b hb
        · rw [(FX.2 9 rfl).1, (FX.2 10 rfl).1, (FX.2 11 rfl).1, (FM.2 78 rfl).1, (FM.2 79 rfl).1, (FM.2 80 rfl).1]; exact td d hd
        · rw [(FX.2 3 rfl).1]; exact h2 q hq1 hq2
end sy_K
end mg_1

section mg_2
/-! pack, person -/
section sy_L
variable {z dn nx ln : Nat} {hX hM : px_H}
theorem sz_mono {z z' : Nat} {x : Int32} (h : sz z x) (hz : z ≤ z') : sz z' x := fun i hi => h i (by omega)
theorem sim_pack (oX : oS hX) (oM : oS hM) (hR : RLz z dn nx ln hX hM) (a1 a2 : Int32) : ∃ (v : Int32) (hX' hM' : px_H), fn_X_pack a1 a2 hX = some (v, hX') ∧ fn_M_pack a1 a2 hM = some (v, hM') ∧ RLz z dn nx ln hX' hM' := by
  have hR1 := RLz_thr hR oM
  obtain ⟨o1, -⟩ := vl_thr oM
  unfold fn_X_pack fn_M_pack
  simp only [sb]
  generalize wF hM 69 0 (.int (Int32.ofInt 0)) = m1 at hR1 o1 ⊢
  have hT := hR1.1
  rw [gd_isBag, gd_MisBag, Option.bind_some, Option.bind_some, cmp_b01, gd_hasAll hT.2.2.1 hT.1, gd_isSet hT.2.2.2.1 hT.1, Option.bind_some, Option.bind_some, cmp_b01n]
  cases hb : inN a1 2 with
  | false => exact ⟨_, hX, m1, rfl, rfl, hR1⟩
  | true =>
    cases hs : inS a2 z with
    | false => exact ⟨_, hX, m1, rfl, rfl, hR1⟩
    | true =>
      obtain ⟨b, b2, rfl⟩ := inN_t hb
      have z9 := hT.1
      have hsz := inS_sz hs
      rw [Bool.not_true, cond_false, cond_true, cond_false, cond_true, nm_inR b 2 b2 (by omega), nm_ofNat_clamp b (by omega), cond_true, cond_true, cond_true, cond_true, cond_true, cond_true, n2b b2]
      obtain ⟨ox, ex, nx', fx⟩ := oI 7 17 2 b a2 oX rfl
      obtain ⟨om, em, nm', fm⟩ := oI 76 nr_packed 2 b a2 o1 rfl
      have lx : gL (uI hX 7 b a2) 19 0 = gL hX 19 0 := gL_uI
      have ix : gI (uI hX 7 b a2) 19 1 = gI hX 19 1 := gI_uI
      generalize uI hX 7 b a2 = x1 at ox ex nx' fx lx ix ⊢
      generalize uI m1 76 b a2 = m2 at om em nm' fm ⊢
      obtain ⟨x2, c1, c2, c3, c4, c5⟩ := vl_setPart ox (c := 19) (by decide) (w := b) (by omega) (sz_sm z9 hsz)
      obtain ⟨x3, d1, d2, d3, d4, d5⟩ := vl_setPart c2 (c := 19) (by decide) (w := 2 + b) (by omega) sm_z
      rw [c1, Option.bind_some, d1, Option.bind_some]
      obtain ⟨om2, em2, nn', fm2⟩ := oI 88 nr_inBag 2 b a2 om rfl
      generalize uI m2 88 b a2 = m3 at om2 em2 nn' fm2 ⊢
      obtain ⟨om3, em3, no', fm3⟩ := oI 89 nr_aside 2 b (Int32.ofInt 0) om2 rfl
      have FX : fz (Wc 19) (fun a => Nat.beq a 7) hX x3 := fz_tr (fz_mono fx (fun _ _ _ => rfl) (fun _ h => h)) (fz_tr (fz_mono c3 (fun _ _ h => h) (fun _ _ => rfl)) (fz_mono d3 (fun _ _ h => h) (fun _ _ => rfl)))
      have FM : fz W0 (fun a => Nat.beq a 76 || (Nat.beq a 88 || Nat.beq a 89)) m1 (uI m3 89 b (Int32.ofInt 0)) := fz_tr (fz_mono fm (fun _ _ h => h) (fun c h => by simp only [Bool.or_eq_false_iff] at h; exact h.1)) (fz_tr (fz_mono fm2 (fun _ _ h => h) (fun c h => by simp only [Bool.or_eq_false_iff] at h; exact h.2.1)) (fz_mono fm3 (fun _ _ h => h) (fun c h => by simp only [Bool.or_eq_false_iff] at h; exact h.2.2)))
      obtain ⟨⟨g1, g2, t1, t2, t3, t4, tp, tb, td⟩, h2, h3, h4, ⟨h5, h6, h7⟩, h8, ⟨h9, h10⟩, h11⟩ := hR1
      have k88 : aI (uI m3 89 b (Int32.ofInt 0)) 88 = upd (aI m1 88) b a2 := by rw [no' 88 (by decide), em2, nm' 88 (by decide)]
      have k89 : aI (uI m3 89 b (Int32.ofInt 0)) 89 = upd (aI m1 89) b (Int32.ofInt 0) := by rw [em3, nn' 89 (by decide), nm' 89 (by decide)]
      have k76 : aI (uI m3 89 b (Int32.ofInt 0)) 76 = upd (aI m1 76) b a2 := by rw [no' 76 (by decide), nn' 76 (by decide), em]
      have x7 : aI x3 7 = upd (aI hX 7) b a2 := by rw [(d3.2 7 rfl).1, (c3.2 7 rfl).1, ex]
      obtain ⟨⟨q0, q1, q2, q3, q4, m32, m33⟩, hsa, hz⟩ := h4
      have T : ∀ w, w < 6 → pv (gL x3 19 0) w = if w = 2 + b then Int32.ofInt 0 else if w = b then a2 else pv (gL hX 19 0) w := fun w hw => by
        rw [d5 w hw]
        by_cases e : w = 2 + b
        · rw [if_pos e, if_pos e]
        · rw [if_neg e, if_neg e, c5 w hw, lx]
      have P8 : ∀ j, j < 2 → pv (gL x3 19 0) j = upd (aI m1 88) b a2 j := fun j hj => by
        rw [T j (by omega), if_neg (by omega), upd_eq]
        by_cases e : j = b
        · rw [if_pos e, if_pos e]
        · rw [if_neg e, if_neg e]
          match j, hj with
          | 0, _ => exact q0
          | 1, _ => exact q1
          | j + 2, h => omega
      have P9 : ∀ j, j < 2 → pv (gL x3 19 0) (2 + j) = upd (aI m1 89) b (Int32.ofInt 0) j := fun j hj => by
        rw [T (2 + j) (by omega), upd_eq]
        by_cases e : j = b
        · rw [if_pos (by omega), if_pos e]
        · rw [if_neg (by omega), if_neg (by omega), if_neg e]
          match j, hj with
          | 0, _ => exact q2
          | 1, _ => exact q3
          | j + 2, h => omega
      refine ⟨aI hX 7 b, x3, uI m3 89 b (Int32.ofInt 0), rfl, by rw [(tb b b2).1], ⟨g1, g2, (fz_gI FX rfl).trans t1, (fz_gI FM rfl).trans t2, (fz_gI FX rfl).trans t3, (fz_gI FM rfl).trans t4, fun q hq => ?_, fun j hj => ?_, fun d hd => ?_⟩, fun q hq1 hq2 => ?_, RR0_k FX FM (by decide) (by decide) h3, ⟨⟨?_, ?_, ?_, ?_, ?_, (fz_gI FM rfl).trans m32, (fz_gI FM rfl).trans m33⟩, fun p hp => ?_, fun j hj => ?_⟩, ⟨h5, (fz_gI FX rfl).trans h6, (fz_gI FM rfl).trans h7⟩, by rw [fz_gI FX rfl, fz_gI FM rfl]; exact h8, ⟨(fz_gI FM rfl).trans h9, (fz_gI FM rfl).trans h10⟩, KP_k FX FM (by decide) (by decide) h11⟩
      · rw [(FX.2 2 rfl).1, (FX.2 3 rfl).1, (FX.2 4 rfl).1, (FX.2 5 rfl).1, (FX.2 6 rfl).1, (FM.2 71 rfl).1, (FM.2 72 rfl).1, (FM.2 73 rfl).1, (FM.2 74 rfl).1, (FM.2 75 rfl).1]
        exact tp q hq
      · rw [x7, k76, (FX.2 8 rfl).1, (FM.2 77 rfl).1, upd_eq, upd_eq]
        obtain ⟨r1, r2, r3⟩ := tb j hj
        by_cases e : j = b
        · rw [if_pos e, if_pos e]; exact ⟨rfl, r2, hsz⟩
        · rw [if_neg e, if_neg e]; exact ⟨r1, r2, r3⟩
      · rw [(FX.2 9 rfl).1, (FX.2 10 rfl).1, (FX.2 11 rfl).1, (FM.2 78 rfl).1, (FM.2 79 rfl).1, (FM.2 80 rfl).1]; exact td d hd
      · rw [(FX.2 3 rfl).1]; exact h2 q hq1 hq2
      · rw [k88]; exact P8 0 (by omega)
      · rw [k88]; exact P8 1 (by omega)
      · rw [k89]; exact P9 0 (by omega)
      · rw [k89]; exact P9 1 (by omega)
      · rw [T 4 (by omega), if_neg (by omega), if_neg (by omega)]; exact q4
      · rw [d4, c4, ix, (FM.2 90 rfl).1]; exact hsa p hp
      · rw [k88, k89, upd_eq, upd_eq]
        by_cases e : j = b
        · rw [if_pos e, if_pos e]; exact ⟨hsz, fun i _ => ib_z i⟩
        · rw [if_neg e, if_neg e]; exact hz j hj
theorem KP_mono {z z' : Nat} (hz : z ≤ z') (h : KP z hX hM) : KP z' hX hM := by
  refine ⟨h.1, fun i hi => ⟨(h.2 i hi).1, fun e => ?_⟩⟩
  obtain ⟨n9, ⟨u, us, uz, rest⟩⟩ := (h.2 i hi).2 e
  exact ⟨n9, u, us, fun w hw => sz_mono (uz w hw) hz, rest⟩
def VP (c : Nat) : Bool := Nat.beq c 2 || (Nat.beq c 4 || (Nat.beq c 5 || Nat.beq c 6))
def WP (c k : Nat) : Bool := Nat.beq c 1 && Nat.beq k 0
def VQ (c : Nat) : Bool := Nat.beq c 71 || (Nat.beq c 72 || (Nat.beq c 73 || (Nat.beq c 74 || Nat.beq c 75)))
def WQ (c k : Nat) : Bool := Nat.beq c 69 && Nat.beq k 3
theorem vl_addPerson (oX : oS hX) (hz : gI hX 1 0 = Int32.ofNat z) (z9 : z < 10) (a : Int32) : ∃ h', fn_Town_addPerson a hX = some (Int32.ofNat z, h') ∧ oS h' ∧ fz WP VP hX h' ∧ gI h' 1 0 = Int32.ofNat (z + 1) ∧ aI h' 2 = upd (aI hX 2) z a ∧ aI h' 4 = upd (aI hX 4) z (Int32.ofInt 1) ∧ aI h' 5 = upd (aI hX 5) z (Int32.ofInt 0) ∧ aI h' 6 = upd (aI hX 6) z (Int16.ofInt 1000).toInt32 := by
  unfold fn_Town_addPerson
  simp only [sb]
  rw [hz, nm_inR z 10 z9 (by omega), nm_ofNat_clamp z (by omega), cond_true, cond_true, cond_true, cond_true]
  obtain ⟨o1, e1, n1, f1⟩ := oI 2 12 10 z a oX rfl
  have g1 : gI (uI hX 2 z a) 1 0 = Int32.ofNat z := gI_uI.trans hz
  generalize uI hX 2 z a = h1 at o1 e1 n1 f1 g1 ⊢
  obtain ⟨o2, e2, n2, f2⟩ := oI 4 14 10 z (Int32.ofInt 1) o1 rfl
  have g2 : gI (uI h1 4 z (Int32.ofInt 1)) 1 0 = Int32.ofNat z := gI_uI.trans g1
  generalize uI h1 4 z (Int32.ofInt 1) = h2 at o2 e2 n2 f2 g2 ⊢
  obtain ⟨o3, e3, n3, f3⟩ := oI 5 15 10 z (Int32.ofInt 0) o2 rfl
  have g3 : gI (uI h2 5 z (Int32.ofInt 0)) 1 0 = Int32.ofNat z := gI_uI.trans g2
  generalize uI h2 5 z (Int32.ofInt 0) = h3 at o3 e3 n3 f3 g3 ⊢
  obtain ⟨o4, e4, n4, f4⟩ := oI 6 16 10 z (Int16.ofInt 1000).toInt32 o3 rfl
  have g4 : gI (uI h3 6 z (Int16.ofInt 1000).toInt32) 1 0 = Int32.ofNat z := gI_uI.trans g3
  generalize uI h3 6 z (Int16.ofInt 1000).toInt32 = h4 at o4 e4 n4 f4 g4 ⊢
  rw [g4, inc1]
  have m : ∀ {c : Nat}, VP c = false → Nat.beq c 2 = false ∧ Nat.beq c 4 = false ∧ Nat.beq c 5 = false ∧ Nat.beq c 6 = false := fun h => by unfold VP at h; simpa only [Bool.or_eq_false_iff] using h
  refine ⟨wF h4 1 0 (.int (Int32.ofNat (z + 1))), rfl, oS_wI (cs := [1]) (ci := 6) rfl List.mem_cons_self o4, fz_tr (fz_mono f1 (fun _ _ _ => rfl) (fun _ h => (m h).1)) (fz_tr (fz_mono f2 (fun _ _ _ => rfl) (fun _ h => (m h).2.1)) (fz_tr (fz_mono f3 (fun _ _ _ => rfl) (fun _ h => (m h).2.2.1)) (fz_tr (fz_mono f4 (fun _ _ _ => rfl) (fun _ h => (m h).2.2.2)) (fz_wF rfl)))), gI_wF (cs := [1]) (ci := 6) rfl List.mem_cons_self o4, ?_, ?_, ?_, ?_⟩
  · rw [aI_wF, n4 2 (by decide), n3 2 (by decide), n2 2 (by decide), e1]
  · rw [aI_wF, n4 4 (by decide), n3 4 (by decide), e2, n1 4 (by decide)]
  · rw [aI_wF, n4 5 (by decide), e3, n2 5 (by decide), n1 5 (by decide)]
  · rw [aI_wF, e4, n3 6 (by decide), n2 6 (by decide), n1 6 (by decide)]
theorem sim_person (oX : oS hX) (oM : oS hM) (hR : RLz z dn nx ln hX hM) (a1 : Int32) : ∃ (v : Int32) (hX' hM' : px_H), fn_X_person a1 hX = some (v, hX') ∧ fn_M_person a1 hM = some (v, hM') ∧ ∃ z', RLz z' dn nx ln hX' hM' := by
  have hR1 := RLz_thr hR oM
  obtain ⟨o1, -⟩ := vl_thr oM
  unfold fn_X_person fn_M_person
  simp only [sb]
  generalize wF hM 69 0 (.int (Int32.ofInt 0)) = m1 at hR1 o1 ⊢
  have hT := hR1.1
  have z9 := hT.1
  have e5 : sx_in a1.toInt64 (Int64.ofNat 0) (Int64.ofInt 5) = b01 (inN a1 6) := by
    rw [b01_in, Int32.toInt_toInt64, i64c.1, i64c.2.2.2.1]
    unfold inN
    congr 1
    simp only [decide_eq_decide]
    omega
  rw [e5, cmp_b01, lt0, cmp_ge, show (Int8.ofInt 6).toInt32.toInt = 6 from by decide, hT.2.2.1, hT.2.2.2.1, ten, lt_nat (show z < 2147483648 by omega) (show 10 < 2147483648 by omega), ne_nat (show z < 2147483648 by omega) (show 10 < 2147483648 by omega)]
  cases hb : inN a1 6 with
  | false =>
    have hn : ¬ (0 ≤ a1.toInt ∧ a1.toInt < (6 : Nat)) := of_decide_eq_false hb
    by_cases h0 : a1.toInt < 0
    · rw [decide_eq_true h0]
      exact ⟨_, hX, m1, rfl, rfl, z, hR1⟩
    · rw [decide_eq_false h0, decide_eq_true (show 6 ≤ a1.toInt by omega)]
      exact ⟨_, hX, m1, rfl, rfl, z, hR1⟩
  | true =>
    have hy : 0 ≤ a1.toInt ∧ a1.toInt < (6 : Nat) := of_decide_eq_true hb
    rw [decide_eq_false (show ¬ a1.toInt < 0 by omega), decide_eq_false (show ¬ 6 ≤ a1.toInt by omega), cond_false, cond_false, Bool.not_true, cond_false]
    by_cases hz : z < 10
    · rw [decide_eq_true hz, decide_eq_true (show z ≠ 10 by omega), cond_true, cond_true, nm_inR z 10 hz (by omega), nm_ofNat_clamp z (by omega), cond_true]
      obtain ⟨x1, a1', a2, a3, a4, a5, a6, a7, a8⟩ := vl_addPerson oX hT.2.2.1 hz a1
      rw [a1', Option.bind_some]
      have hz3 := hT.2.2.2.1
      obtain ⟨p1, e1, n1, f1⟩ := oI 71 nr_home 10 z a1 o1 rfl
      have g1 : gI (uI m1 71 z a1) 69 3 = Int32.ofNat z := gI_uI.trans hz3
      generalize uI m1 71 z a1 = h1 at p1 e1 n1 f1 g1 ⊢
      rw [g1, nm_inR z 10 hz (by omega), nm_ofNat_clamp z (by omega), cond_true]
      obtain ⟨p2, e2, n2, f2⟩ := oI 72 nr_owes 10 z (Int32.ofInt 0) p1 rfl
      have g2 : gI (uI h1 72 z (Int32.ofInt 0)) 69 3 = Int32.ofNat z := gI_uI.trans g1
      generalize uI h1 72 z (Int32.ofInt 0) = h2 at p2 e2 n2 f2 g2 ⊢
      rw [g2, nm_inR z 10 hz (by omega), nm_ofNat_clamp z (by omega), cond_true]
      obtain ⟨p3, e3, n3, f3⟩ := oI 73 nr_goneFrom 10 z (Int32.ofInt 0) p2 rfl
      have g3 : gI (uI h2 73 z (Int32.ofInt 0)) 69 3 = Int32.ofNat z := gI_uI.trans g2
      generalize uI h2 73 z (Int32.ofInt 0) = h3 at p3 e3 n3 f3 g3 ⊢
      rw [g3, nm_inR z 10 hz (by omega), nm_ofNat_clamp z (by omega), cond_true]
      obtain ⟨p4, e4, n4, f4⟩ := oI 74 nr_goneTo 10 z (Int32.ofInt (-1)) p3 rfl
      have g4 : gI (uI h3 74 z (Int32.ofInt (-1))) 69 3 = Int32.ofNat z := gI_uI.trans g3
      generalize uI h3 74 z (Int32.ofInt (-1)) = h4 at p4 e4 n4 f4 g4 ⊢
      rw [g4, nm_inR z 10 hz (by omega), nm_ofNat_clamp z (by omega), cond_true]
      obtain ⟨p5, e5', n5, f5⟩ := oI 75 nr_dead 10 z (Int16.ofInt 1000).toInt32 p4 rfl
      have g5 : gI (uI h4 75 z (Int16.ofInt 1000).toInt32) 69 3 = Int32.ofNat z := gI_uI.trans g4
      generalize uI h4 75 z (Int16.ofInt 1000).toInt32 = h5 at p5 e5' n5 f5 g5 ⊢
      rw [g5, inc1]
      have p6 : oS (wF h5 69 3 (.int (Int32.ofNat (z + 1)))) := oS_wI (cs := [69]) (ci := 9) rfl List.mem_cons_self p5
      have g6 : gI (wF h5 69 3 (.int (Int32.ofNat (z + 1)))) 69 3 = Int32.ofNat (z + 1) := gI_wF (cs := [69]) (ci := 9) rfl List.mem_cons_self p5
      have m : ∀ {c : Nat}, VQ c = false → Nat.beq c 71 = false ∧ Nat.beq c 72 = false ∧ Nat.beq c 73 = false ∧ Nat.beq c 74 = false ∧ Nat.beq c 75 = false := fun h => by unfold VQ at h; simpa only [Bool.or_eq_false_iff] using h
      have FM : fz WQ VQ m1 (wF h5 69 3 (.int (Int32.ofNat (z + 1)))) := fz_tr (fz_mono f1 (fun _ _ _ => rfl) (fun _ h => (m h).1)) (fz_tr (fz_mono f2 (fun _ _ _ => rfl) (fun _ h => (m h).2.1)) (fz_tr (fz_mono f3 (fun _ _ _ => rfl) (fun _ h => (m h).2.2.1)) (fz_tr (fz_mono f4 (fun _ _ _ => rfl) (fun _ h => (m h).2.2.2.1)) (fz_tr (fz_mono f5 (fun _ _ _ => rfl) (fun _ h => (m h).2.2.2.2)) (fz_wF rfl)))))
      have k71 : aI (wF h5 69 3 (.int (Int32.ofNat (z + 1)))) 71 = upd (aI m1 71) z a1 := by rw [aI_wF, n5 71 (by decide), n4 71 (by decide), n3 71 (by decide), n2 71 (by decide), e1]
      have k72 : aI (wF h5 69 3 (.int (Int32.ofNat (z + 1)))) 72 = upd (aI m1 72) z (Int32.ofInt 0) := by rw [aI_wF, n5 72 (by decide), n4 72 (by decide), n3 72 (by decide), e2, n1 72 (by decide)]
      have k73 : aI (wF h5 69 3 (.int (Int32.ofNat (z + 1)))) 73 = upd (aI m1 73) z (Int32.ofInt 0) := by rw [aI_wF, n5 73 (by decide), n4 73 (by decide), e3, n2 73 (by decide), n1 73 (by decide)]
      have k74 : aI (wF h5 69 3 (.int (Int32.ofNat (z + 1)))) 74 = upd (aI m1 74) z (Int32.ofInt (-1)) := by rw [aI_wF, n5 74 (by decide), e4, n3 74 (by decide), n2 74 (by decide), n1 74 (by decide)]
      have k75 : aI (wF h5 69 3 (.int (Int32.ofNat (z + 1)))) 75 = upd (aI m1 75) z (Int16.ofInt 1000).toInt32 := by rw [aI_wF, e5', n4 75 (by decide), n3 75 (by decide), n2 75 (by decide), n1 75 (by decide)]
      generalize wF h5 69 3 (.int (Int32.ofNat (z + 1))) = m6 at p6 g6 FM k71 k72 k73 k74 k75 ⊢
      have eret : gI m6 69 3 - Int32.ofInt 1 = Int32.ofNat z := by
        rw [g6, ← Int32.toInt_inj, Int32.toInt_sub, nm_ofNat_toInt (z + 1) (by omega), nm_ofNat_toInt z (by omega), show (Int32.ofInt 1).toInt = 1 from by decide]
        rw [Int.bmod_eq_of_le] <;> omega
      rw [eret]
      obtain ⟨⟨g1', g2', t1, t2, t3, t4, tp, tb, td⟩, q2, q3, q4, ⟨q5, q6, q7⟩, q8, ⟨q9, q10⟩, q11⟩ := hR1
      refine ⟨_, x1, m6, rfl, rfl, z + 1, ⟨by omega, g2', a4, g6, (fz_gI a3 rfl).trans t3, (fz_gI FM rfl).trans t4, fun q hq => ?_, fun b hb => ?_, fun d hd => ?_⟩, fun q hq1 hq2 => by rw [(a3.2 3 rfl).1]; exact q2 q (by omega) hq2, RR0_k a3 FM (by decide) (by decide) q3, ?_, ⟨q5, (fz_gI a3 rfl).trans q6, (fz_gI FM rfl).trans q7⟩, by rw [fz_gI a3 rfl, fz_gI FM rfl]; exact q8, ⟨(fz_gI FM rfl).trans q9, (fz_gI FM rfl).trans q10⟩, KP_mono (by omega) (KP_k a3 FM (by decide) (by decide) q11)⟩
      · rw [a5, a6, a7, a8, k71, k72, k73, k74, k75, (a3.2 3 rfl).1, upd_eq, upd_eq, upd_eq, upd_eq, upd_eq, upd_eq, upd_eq, upd_eq, upd_eq]
        obtain ⟨r1, r2, r3, r4⟩ := tp q hq
        by_cases e : q = z
        · simp only [if_pos e]
          exact ⟨trivial, q2 q (by omega) hq, trivial, Or.inr ⟨rfl, rfl, rfl, rfl⟩⟩
        · simp only [if_neg e]
          exact ⟨r1, r2, r3, r4⟩
      · rw [(a3.2 7 rfl).1, (a3.2 8 rfl).1, (FM.2 76 rfl).1, (FM.2 77 rfl).1]
        obtain ⟨r1, r2, r3⟩ := tb b hb
        exact ⟨r1, r2, sz_mono r3 (by omega)⟩
      · rw [(a3.2 9 rfl).1, (a3.2 10 rfl).1, (a3.2 11 rfl).1, (FM.2 78 rfl).1, (FM.2 79 rfl).1, (FM.2 80 rfl).1]; exact td d hd
      · obtain ⟨c1, c2, c3⟩ := CL_k a3 FM (by decide) (by decide) q4
        exact ⟨c1, c2, fun j hj => ⟨sz_mono (c3 j hj).1 (by omega), sz_mono (c3 j hj).2 (by omega)⟩⟩
    · rw [decide_eq_false hz, decide_eq_false (show ¬ z ≠ 10 by omega)]
      exact ⟨_, hX, m1, rfl, rfl, z, hR1⟩
end sy_L
end mg_2

section mg_3
/-! drawing: the list of drawings -/
section sy_Dr
variable {z dn nx ln : Nat} {hX hM : px_H}
theorem dec1s (d : Nat) : Int32.ofNat (d + 1) - Int32.ofInt 1 = Int32.ofNat d := by
  rw [← inc1]
  generalize Int32.ofNat d = x
  exact Int32.toBitVec_inj.mp (by simp)
def LD (dn : Nat) (f : Nat → Int32) : Int32 := match dn with
  | 0 => Int32.ofInt 0
  | d + 1 => f d
/-- no day is negative -/
def DY (h : px_H) : Prop := ∀ d, d < 6 → 0 ≤ (aI h 78 d).toInt
def dC (dn : Nat) (f : Nat → Int32) (a1 a2 a3 : Int32) : Bool := inN a1 1000 && (inN a2 2 && (decide (1 ≤ a3.toInt ∧ a3.toInt ≤ 3) && (decide (dn < 6) && decide ((LD dn f).toInt ≤ a1.toInt))))
theorem gd_lastDay {h : px_H} (h8 : gI h 1 8 = Int32.ofNat dn) (d6 : dn ≤ 6) : fn_Town_lastDay h = some (LD dn (aI h 9)) := by
  unfold fn_Town_lastDay
  rw [h8]
  cases dn with
  | zero => rfl
  | succ d =>
    have e : px_cmp .le (Int32.ofNat (d + 1)) 0 = false := by
      rw [cmp_le, nm_ofNat_toInt (d + 1) (by omega)]
      exact decide_eq_false (by show ¬ (((d + 1 : Nat) : Int) ≤ 0); omega)
    rw [e, dec1s, nm_inR d 6 (by omega) (by omega), nm_ofNat_clamp d (by omega)]
    rfl
theorem vl_Xdrawing {h : px_H} (h8 : gI h 1 8 = Int32.ofNat dn) (d6 : dn ≤ 6) (a1 a2 a3 : Int32) : fn_X_drawing a1 a2 a3 h = bif dC dn (aI h 9) a1 a2 a3 then fn_Town_addDrawing a1 a2 a3 h else some (Int32.ofInt (-1), h) := by
  have e6 : px_cmp .ge (Int32.ofNat dn) (Int8.ofInt 6).toInt32 = !decide (dn < 6) := by
    rw [cmp_ge, nm_ofNat_toInt dn (by omega), show ((Int8.ofInt 6).toInt32).toInt = 6 from by decide]
    by_cases h : dn < 6
    · rw [decide_eq_true h, decide_eq_false (by omega)]; rfl
    · rw [decide_eq_false h, decide_eq_true (by omega)]; rfl
  have e1 : px_cmp .lt a3 (Int32.ofInt 1) = decide (a3.toInt < 1) := by rw [cmp_lt, show (Int32.ofInt 1).toInt = 1 from by decide]
  have e3 : px_cmp .le a3 (Int32.ofInt 3) = decide (a3.toInt ≤ 3) := by rw [cmp_le, show (Int32.ofInt 3).toInt = 3 from by decide]
  have eL : px_cmp .ge a1 (LD dn (aI h 9)) = decide ((LD dn (aI h 9)).toInt ≤ a1.toInt) := cmp_ge _ _
  unfold fn_X_drawing dC
  rw [gd_isDay, Option.bind_some, cmp_b01, gd_isBag, Option.bind_some, cmp_b01, gd_lastDay h8 d6, Option.bind_some, h8, e1, e3, e6, eL]
  generalize decide ((LD dn (aI h 9)).toInt ≤ a1.toInt) = bL
  generalize decide (dn < 6) = b6
  by_cases c1 : 1 ≤ a3.toInt
  · by_cases c3 : a3.toInt ≤ 3
    · rw [decide_eq_true c3, decide_eq_false (show ¬ a3.toInt < 1 by omega), decide_eq_true (show 1 ≤ a3.toInt ∧ a3.toInt ≤ 3 from ⟨c1, c3⟩)]
      cases inN a1 1000 <;> cases inN a2 2 <;> cases b6 <;> cases bL <;> first | rfl | (cases fn_Town_addDrawing a1 a2 a3 h <;> rfl)
    · rw [decide_eq_false c3, decide_eq_false (show ¬ a3.toInt < 1 by omega), decide_eq_false (show ¬ (1 ≤ a3.toInt ∧ a3.toInt ≤ 3) by omega)]
      cases inN a1 1000 <;> cases inN a2 2 <;> rfl
  · rw [decide_eq_true (show a3.toInt < 1 by omega), decide_eq_false (show ¬ (1 ≤ a3.toInt ∧ a3.toInt ≤ 3) by omega)]
    cases inN a1 1000 <;> cases inN a2 2 <;> rfl
/-- what the model writes -/
def mDraw (a1 a2 a3 : Int32) (h1 : px_H) : Option (Int32 × px_H) :=
  bif px_inR (gI h1 69 11) 6 then
  sb (uI h1 78 (gI h1 69 11).toNatClampNeg a1) fun h13 =>
  bif px_inR (gI h13 69 11) 6 then
  sb (uI h13 79 (gI h13 69 11).toNatClampNeg a2) fun h16 =>
  bif px_inR (gI h16 69 11) 6 then
  sb (uI h16 80 (gI h16 69 11).toNatClampNeg a3) fun h19 =>
  sb (wF h19 69 11 (.int ((gI h19 69 11) + (Int32.ofInt 1)))) fun h21 =>
  some (((gI h21 69 11) - (Int32.ofInt 1)), h21)
  else none
  else none
  else none
theorem mD_6 : ∀ k, k < 7 → px_cmp .ne (Int32.ofNat k) (Int8.ofInt 6).toInt32 = decide (k < 6) := by decide
theorem mD_0 : ∀ k, k < 6 → px_cmp .ne (Int32.ofNat (k + 1)) 0 = true := by decide
theorem vl_Mdrawing {h0 m : px_H} (em : wF h0 69 0 (.int (Int32.ofInt 0)) = m) (h8 : gI m 69 11 = Int32.ofNat dn) (d6 : dn ≤ 6) (hD : DY m) (a1 a2 a3 : Int32) : fn_M_drawing a1 a2 a3 h0 = bif dC dn (aI m 78) a1 a2 a3 then mDraw a1 a2 a3 m else some (Int32.ofInt (-1), m) := by
  have e3 : sx_in a3.toInt64 (Int64.ofNat 1) (Int64.ofInt 3) = b01 (decide (1 ≤ a3.toInt ∧ a3.toInt ≤ 3)) := by rw [b01_in, Int32.toInt_toInt64, i64c.2.1, show (Int64.ofInt 3).toInt = 3 from by decide]
  have e6 : px_cmp .ne (gI m 69 11) (Int8.ofInt 6).toInt32 = decide (dn < 6) := by rw [h8]; exact mD_6 dn (by omega)
  have main : ∀ (t : Option (Int32 × px_H)) (c0 : Bool), c0 = (inN a1 1000 && decide ((LD dn (aI m 78)).toInt ≤ a1.toInt)) → (bif !c0 then some ((Int32.ofInt (-1)), m) else (fn_M_isBag a2 m).bind fun q6 => bif px_cmp .eq q6 0 then some ((Int32.ofInt (-1)), m) else bif px_cmp .eq (sx_in a3.toInt64 (Int64.ofNat 1) (Int64.ofInt 3)) 0 then some ((Int32.ofInt (-1)), m) else bif px_cmp .ne (gI m 69 11) (Int8.ofInt 6).toInt32 then t else some ((Int32.ofInt (-1)), m)) = bif dC dn (aI m 78) a1 a2 a3 then t else some (Int32.ofInt (-1), m) := by
    intro t c0 hc
    rw [hc, gd_MisBag, Option.bind_some, cmp_b01, e3, cmp_b01, e6]
    unfold dC
    generalize decide ((LD dn (aI m 78)).toInt ≤ a1.toInt) = bL
    generalize decide (dn < 6) = b6
    generalize decide (1 ≤ a3.toInt ∧ a3.toInt ≤ 3) = b3
    cases inN a1 1000 <;> cases inN a2 2 <;> cases b6 <;> cases bL <;> cases b3 <;> rfl
  have step : fn_M_drawing a1 a2 a3 h0 = (bif px_cmp .ne (gI m 69 11) 0 then (bif px_inR ((gI m 69 11) - (Int32.ofInt 1)) 6 then (bif px_cmp .eq (sx_in a1.toInt64 (aI m 78 ((gI m 69 11) - (Int32.ofInt 1)).toNatClampNeg).toInt64 (Int64.ofInt 999)) 0 then some ((Int32.ofInt (-1)), m) else (fn_M_isBag a2 m).bind fun q6 => bif px_cmp .eq q6 0 then some ((Int32.ofInt (-1)), m) else bif px_cmp .eq (sx_in a3.toInt64 (Int64.ofNat 1) (Int64.ofInt 3)) 0 then some ((Int32.ofInt (-1)), m) else bif px_cmp .ne (gI m 69 11) (Int8.ofInt 6).toInt32 then mDraw a1 a2 a3 m else some ((Int32.ofInt (-1)), m)) else none) else (bif px_cmp .eq (sx_in a1.toInt64 (Int64.ofNat 0) (Int64.ofInt 999)) 0 then some ((Int32.ofInt (-1)), m) else (fn_M_isBag a2 m).bind fun q6 => bif px_cmp .eq q6 0 then some ((Int32.ofInt (-1)), m) else bif px_cmp .eq (sx_in a3.toInt64 (Int64.ofNat 1) (Int64.ofInt 3)) 0 then some ((Int32.ofInt (-1)), m) else bif px_cmp .ne (gI m 69 11) (Int8.ofInt 6).toInt32 then mDraw a1 a2 a3 m else some ((Int32.ofInt (-1)), m))) := by
    unfold fn_M_drawing mDraw
    rw [em]
    rfl
  rw [step]
  cases dn with
  | zero =>
    rw [show px_cmp .ne (gI m 69 11) 0 = false from by rw [h8]; decide, cond_false, in_999, cmp_b01]
    refine main _ _ ?_
    have : (LD 0 (aI m 78)).toInt = 0 := by show (Int32.ofInt 0).toInt = 0; decide
    rw [this]
    unfold inN
    by_cases c : 0 ≤ a1.toInt
    · rw [decide_eq_true c, Bool.and_true]
    · rw [decide_eq_false c, decide_eq_false (show ¬ (0 ≤ a1.toInt ∧ a1.toInt < (1000 : Nat)) by omega)]; rfl
  | succ d =>
    have hd := hD d (by omega)
    rw [show px_cmp .ne (gI m 69 11) 0 = true from by rw [h8]; exact mD_0 d (by omega), cond_true, show px_inR ((gI m 69 11) - (Int32.ofInt 1)) 6 = true from by rw [h8, dec1s]; exact nm_inR d 6 (by omega) (by omega), cond_true, show ((gI m 69 11) - (Int32.ofInt 1)).toNatClampNeg = d from by rw [h8, dec1s]; exact nm_ofNat_clamp d (by omega), b01_in, Int32.toInt_toInt64, Int32.toInt_toInt64, i64c.2.2.2.2.2.1, cmp_b01]
    refine main _ _ ?_
    show _ = (inN a1 1000 && decide ((aI m 78 d).toInt ≤ a1.toInt))
    unfold inN
    by_cases c : (aI m 78 d).toInt ≤ a1.toInt
    · by_cases c9 : a1.toInt ≤ 999
      · rw [decide_eq_true c, decide_eq_true (show (aI m 78 d).toInt ≤ a1.toInt ∧ a1.toInt ≤ 999 from ⟨c, c9⟩), decide_eq_true (show 0 ≤ a1.toInt ∧ a1.toInt < (1000 : Nat) by omega)]; rfl
      · rw [decide_eq_false (show ¬ ((aI m 78 d).toInt ≤ a1.toInt ∧ a1.toInt ≤ 999) by omega), decide_eq_false (show ¬ (0 ≤ a1.toInt ∧ a1.toInt < (1000 : Nat)) by omega)]; rfl
    · rw [decide_eq_false c, decide_eq_false (show ¬ ((aI m 78 d).toInt ≤ a1.toInt ∧ a1.toInt ≤ 999) by omega), Bool.and_false]
def Wdx (c k : Nat) : Bool := Nat.beq c 1 && Nat.beq k 8
def Vdx (c : Nat) : Bool := Nat.beq c 9 || (Nat.beq c 10 || Nat.beq c 11)
def Wdm (c k : Nat) : Bool := Nat.beq c 69 && Nat.beq k 11
def Vdm (c : Nat) : Bool := Nat.beq c 78 || (Nat.beq c 79 || Nat.beq c 80)
theorem vl_addX {h : px_H} (hS : oS h) (h8 : gI h 1 8 = Int32.ofNat dn) (d6 : dn < 6) (a1 a2 a3 : Int32) : ∃ h', fn_Town_addDrawing a1 a2 a3 h = some (Int32.ofNat dn, h') ∧ oS h' ∧ fz Wdx Vdx h h' ∧ gI h' 1 8 = Int32.ofNat (dn + 1) ∧ aI h' 9 = upd (aI h 9) dn a1 ∧ aI h' 10 = upd (aI h 10) dn a2 ∧ aI h' 11 = upd (aI h 11) dn a3 := by
  obtain ⟨o1, x1, n1, -⟩ := oI 9 19 6 dn a1 hS rfl
  have f1 : fz Wdx Vdx h (uI h 9 dn a1) := fz_uI rfl
  obtain ⟨o2, x2, n2, -⟩ := oI 10 20 6 dn a2 o1 rfl
  have f2 : fz Wdx Vdx (uI h 9 dn a1) (uI (uI h 9 dn a1) 10 dn a2) := fz_uI rfl
  obtain ⟨o3, x3, n3, -⟩ := oI 11 21 6 dn a3 o2 rfl
  have f3 : fz Wdx Vdx (uI (uI h 9 dn a1) 10 dn a2) (uI (uI (uI h 9 dn a1) 10 dn a2) 11 dn a3) := fz_uI rfl
  have g3 : gI (uI (uI (uI h 9 dn a1) 10 dn a2) 11 dn a3) 1 8 = Int32.ofNat dn := by rw [gI_uI, gI_uI, gI_uI]; exact h8
  refine ⟨wF (uI (uI (uI h 9 dn a1) 10 dn a2) 11 dn a3) 1 8 (.int (Int32.ofNat (dn + 1))), ?_, oS_wI (cs := [1]) (ci := 6) rfl List.mem_cons_self o3, fz_tr f1 (fz_tr f2 (fz_tr f3 (fz_wF rfl))), gI_wF (cs := [1]) (ci := 6) rfl List.mem_cons_self o3, ?_, ?_, ?_⟩
  · unfold fn_Town_addDrawing; simp only [sb]
    rw [h8, nm_inR dn 6 d6 (by omega), nm_ofNat_clamp dn (by omega), cond_true, cond_true, cond_true, g3, inc1]
  · rw [aI_wF, n3 9 (by decide), n2 9 (by decide), x1]
  · rw [aI_wF, n3 10 (by decide), x2, n1 10 (by decide)]
  · rw [aI_wF, x3, n2 11 (by decide), n1 11 (by decide)]
theorem vl_addM {h : px_H} (hS : oS h) (h8 : gI h 69 11 = Int32.ofNat dn) (d6 : dn < 6) (a1 a2 a3 : Int32) : ∃ h', mDraw a1 a2 a3 h = some (Int32.ofNat dn, h') ∧ oS h' ∧ fz Wdm Vdm h h' ∧ gI h' 69 11 = Int32.ofNat (dn + 1) ∧ aI h' 78 = upd (aI h 78) dn a1 ∧ aI h' 79 = upd (aI h 79) dn a2 ∧ aI h' 80 = upd (aI h 80) dn a3 := by
  obtain ⟨o1, x1, n1, -⟩ := oI 78 nr_dayOf 6 dn a1 hS rfl
  have f1 : fz Wdm Vdm h (uI h 78 dn a1) := fz_uI rfl
  obtain ⟨o2, x2, n2, -⟩ := oI 79 nr_bagOf 6 dn a2 o1 rfl
  have f2 : fz Wdm Vdm (uI h 78 dn a1) (uI (uI h 78 dn a1) 79 dn a2) := fz_uI rfl
  obtain ⟨o3, x3, n3, -⟩ := oI 80 nr_seatsOf 6 dn a3 o2 rfl
  have f3 : fz Wdm Vdm (uI (uI h 78 dn a1) 79 dn a2) (uI (uI (uI h 78 dn a1) 79 dn a2) 80 dn a3) := fz_uI rfl
  have g1 : gI (uI h 78 dn a1) 69 11 = Int32.ofNat dn := by rw [gI_uI]; exact h8
  have g2 : gI (uI (uI h 78 dn a1) 79 dn a2) 69 11 = Int32.ofNat dn := by rw [gI_uI]; exact g1
  have g3 : gI (uI (uI (uI h 78 dn a1) 79 dn a2) 80 dn a3) 69 11 = Int32.ofNat dn := by rw [gI_uI]; exact g2
  have g4 : gI (wF (uI (uI (uI h 78 dn a1) 79 dn a2) 80 dn a3) 69 11 (.int (Int32.ofNat (dn + 1)))) 69 11 = Int32.ofNat (dn + 1) := gI_wF (cs := [69]) (ci := 9) rfl List.mem_cons_self o3
  refine ⟨wF (uI (uI (uI h 78 dn a1) 79 dn a2) 80 dn a3) 69 11 (.int (Int32.ofNat (dn + 1))), ?_, oS_wI (cs := [69]) (ci := 9) rfl List.mem_cons_self o3, fz_tr f1 (fz_tr f2 (fz_tr f3 (fz_wF rfl))), g4, ?_, ?_, ?_⟩
  · unfold mDraw; simp only [sb]
    rw [h8, nm_inR dn 6 d6 (by omega), nm_ofNat_clamp dn (by omega), cond_true, g1, nm_inR dn 6 d6 (by omega), nm_ofNat_clamp dn (by omega), cond_true, g2, nm_inR dn 6 d6 (by omega), nm_ofNat_clamp dn (by omega), cond_true, g3, inc1, g4, dec1s]
  · rw [aI_wF, n3 78 (by decide), n2 78 (by decide), x1]
  · rw [aI_wF, n3 79 (by decide), x2, n1 79 (by decide)]
  · rw [aI_wF, x3, n2 80 (by decide), n1 80 (by decide)]
theorem dC_t {f : Nat → Int32} {a1 a2 a3 : Int32} (h : dC dn f a1 a2 a3 = true) : inN a1 1000 = true ∧ inN a2 2 = true ∧ (1 ≤ a3.toInt ∧ a3.toInt ≤ 3) ∧ dn < 6 := by
  unfold dC at h
  simp only [Bool.and_eq_true, decide_eq_true_eq] at h
  exact ⟨h.1, h.2.1, h.2.2.1, h.2.2.2.1⟩
theorem LD_e {f g : Nat → Int32} (d6 : dn ≤ 6) (h : ∀ d, d < 6 → f d = g d) : LD dn f = LD dn g := by
  cases dn with
  | zero => rfl
  | succ d => exact h d (by omega)
theorem sim_drawing (oX : oS hX) (oM : oS hM) (hR : RLz z dn nx ln hX hM) (hD : DY hM) (a1 a2 a3 : Int32) : ∃ (v : Int32) (hX' hM' : px_H) (dn' : Nat), fn_X_drawing a1 a2 a3 hX = some (v, hX') ∧ fn_M_drawing a1 a2 a3 hM = some (v, hM') ∧ RLz z dn' nx ln hX' hM' ∧ DY hM' := by
  have hR1 := RLz_thr hR oM
  obtain ⟨o1, ft⟩ := vl_thr oM
  have hD1 : DY (wF hM 69 0 (.int (Int32.ofInt 0))) := fun d hd => by rw [aI_wF]; exact hD d hd
  generalize hm : wF hM 69 0 (.int (Int32.ofInt 0)) = m1 at hR1 o1 hD1
  have hT := hR1.1
  have d6 := hT.2.1
  have eC : dC dn (aI hX 9) a1 a2 a3 = dC dn (aI m1 78) a1 a2 a3 := by
    unfold dC
    rw [LD_e d6 (f := aI hX 9) (g := aI m1 78) (fun d hd => (hT.2.2.2.2.2.2.2.2 d hd).1)]
  rw [vl_Xdrawing hT.2.2.2.2.1 d6, vl_Mdrawing hm hT.2.2.2.2.2.1 d6 hD1, eC]
  cases hc : dC dn (aI m1 78) a1 a2 a3 with
  | false => exact ⟨_, hX, m1, dn, rfl, rfl, hR1, hD1⟩
  | true =>
    obtain ⟨c1, c2, c3, c4⟩ := dC_t hc
    obtain ⟨x', b1, b2, b3, b4, b5, b6, b7⟩ := vl_addX oX hT.2.2.2.2.1 c4 a1 a2 a3
    obtain ⟨m', k1, k2, k3, k4, k5, k6, k7⟩ := vl_addM o1 hT.2.2.2.2.2.1 c4 a1 a2 a3
    obtain ⟨⟨g1, g2, t1, t2, t3, t4, tp, tb, td⟩, h2, h3, h4, ⟨h5, h6, h7⟩, h8, ⟨h9, h10⟩, h11⟩ := hR1
    refine ⟨Int32.ofNat dn, x', m', dn + 1, b1, k1, ⟨⟨g1, by omega, (fz_gI b3 rfl).trans t1, (fz_gI k3 rfl).trans t2, b4, k4, fun q hq => ?_, fun b hb => ?_, fun d hd => ?_⟩, fun q hq1 hq2 => ?_, RR0_k b3 k3 (by decide) (by decide) h3, CL_k b3 k3 (by decide) (by decide) h4, ⟨h5, (fz_gI b3 rfl).trans h6, (fz_gI k3 rfl).trans h7⟩, by rw [fz_gI b3 rfl, fz_gI k3 rfl]; exact h8, ⟨(fz_gI k3 rfl).trans h9, (fz_gI k3 rfl).trans h10⟩, KP_k b3 k3 (by decide) (by decide) h11⟩, fun d hd => ?_⟩
    · rw [(b3.2 2 rfl).1, (b3.2 3 rfl).1, (b3.2 4 rfl).1, (b3.2 5 rfl).1, (b3.2 6 rfl).1, (k3.2 71 rfl).1, (k3.2 72 rfl).1, (k3.2 73 rfl).1, (k3.2 74 rfl).1, (k3.2 75 rfl).1]
      exact tp q hq
    · rw [(b3.2 7 rfl).1, (b3.2 8 rfl).1, (k3.2 76 rfl).1, (k3.2 77 rfl).1]
      exact tb b hb
    · rw [b5, b6, b7, k5, k6, k7, upd_eq, upd_eq, upd_eq, upd_eq, upd_eq, upd_eq]
      by_cases e : d = dn
      · rw [if_pos e, if_pos e, if_pos e, if_pos e, if_pos e, if_pos e]
        obtain ⟨b, b9, rfl⟩ := inN_t c2
        exact ⟨rfl, rfl, rfl, by omega, b, b9, rfl⟩
      · rw [if_neg e, if_neg e, if_neg e, if_neg e, if_neg e, if_neg e]
        exact td d hd
    · rw [(b3.2 3 rfl).1]
      exact h2 q hq1 hq2
    · rw [k5, upd_eq]
      by_cases e : d = dn
      · rw [if_pos e]
        unfold inN at c1
        exact (of_decide_eq_true c1).1
      · rw [if_neg e]
        exact hD1 d hd
end sy_Dr
end mg_3

section mg_4
/-! no run changes an array behind its length -/
def tl (h h' : px_H) : Prop := ∀ (c t n : Nat) (f : Nat → Int32), h[c]? = some (.inl (t, n, .inl f)) → ∃ f', h'[c]? = some (.inl (t, n, .inl f')) ∧ ∀ j, n ≤ j → f' j = f j
theorem tl_rf (h : px_H) : tl h h := fun _ _ _ f hx => ⟨f, hx, fun _ _ => rfl⟩
theorem tl_tr {h1 h2 h3 : px_H} (a : tl h1 h2) (b : tl h2 h3) : tl h1 h3 := by
  intro c t n f hx
  obtain ⟨f', e1, e2⟩ := a c t n f hx
  obtain ⟨f'', e3, e4⟩ := b c t n f' e1
  exact ⟨f'', e3, fun j hj => (e4 j hj).trans (e2 j hj)⟩
theorem tl_obj {hp : px_H} {a : Nat} {q y : Nat × List Value} (hx : hp[a]? = some (.inr q)) : tl hp (hp.set a (.inr y)) := by
  intro c t n f hc
  by_cases e : c = a
  · subst e; rw [hx] at hc; cases hc
  · exact ⟨f, by rw [List.getElem?_set_ne (Ne.symm e)]; exact hc, fun _ _ => rfl⟩
theorem tl_ref {hp : px_H} {a t0 n0 t1 n1 : Nat} {g g' : (Nat → Int64) ⊕ (Nat → UInt32) ⊕ (Nat → UInt64) ⊕ (Nat → Option Nat)} (hx : hp[a]? = some (.inl (t0, n0, .inr g))) : tl hp (hp.set a (.inl (t1, n1, .inr g'))) := by
  intro c t n f hc
  by_cases e : c = a
  · subst e; rw [hx] at hc; cases hc
  · exact ⟨f, by rw [List.getElem?_set_ne (Ne.symm e)]; exact hc, fun _ _ => rfl⟩
theorem tl_app (hp : px_H) (x : px_E) : tl hp (hp ++ [x]) := fun c t n f hc => ⟨f, by rw [List.getElem?_append_left (List.getElem?_eq_some_iff.mp hc).1]; exact hc, fun _ _ => rfl⟩
theorem tl_upd {hp : px_H} {a t0 n0 : Nat} {g : Nat → Int32} {j : Int32} {x : Int32} (hx : hp[a]? = some (.inl (t0, n0, .inl g))) (hj : px_inR j n0 = true) : tl hp (hp.set a (.inl (t0, n0, .inl (upd g j.toNatClampNeg x)))) := by
  intro c t n f hc
  by_cases e : c = a
  · subst e
    rw [hx] at hc
    cases hc
    refine ⟨upd g j.toNatClampNeg x, by rw [List.getElem?_set_self (List.getElem?_eq_some_iff.mp hx).1], fun k hk => ?_⟩
    simp only [px_inR, Bool.and_eq_true, decide_eq_true_eq] at hj
    have : j.toNatClampNeg = j.toInt.toNat := rfl
    simp only [upd]
    rw [if_neg (by omega)]
  · exact ⟨f, by rw [List.getElem?_set_ne (Ne.symm e)]; exact hc, fun _ _ => rfl⟩
theorem tl_ast {T : px_T} {i : Instr} {hp h' : px_H} {k : Nat} {j : Int32} {v : Value} (h : px_ast T i hp k j v = some h') : tl hp h' := by
  unfold px_ast at h
  split at h
  · rename_i t n f hx
    split at h
    · cases h
    · rename_i hj
      split at h
      · cases h; exact tl_upd hx hj
      · split at h
        · cases h; exact tl_upd hx hj
        · cases h
      · cases h; exact tl_ref hx
      · cases h
  · cases h
def tlY (hp : px_H) (x : px_S ⊕ px_A) : Prop := match x with
  | .inl s => tl hp s.2.2.2.1
  | .inr a => tl hp a.2
section sy_M
variable {T : px_T} {X : Option (Nat × (Nat → Int32))} {P : List px_M}
set_option maxHeartbeats 16000000 in
theorem tl_step {call : Nat → List Value → px_H → Option px_A} (hc : ∀ mi av h r h', call mi av h = some (r, h') → tl h h') {M : px_M} {N0 pc nc ns : Nat} {lv : List (Nat × Value)} {st : List Value} {hp : px_H} {x : px_S ⊕ px_A} (h : px_step T X P call M N0 (pc, lv, st, hp, nc, ns) = some x) : tlY hp x := by
  unfold px_step at h
  simp only at h
  rcases hf : px_find pc (px_cd M) with _ | ⟨len, i⟩
  · rw [hf] at h; cases h
  rw [hf] at h
  simp only at h
  rcases ha : px_alu i st with _ | st'
  · rw [ha] at h
    cases i
    all_goals
      (try simp only at h)
      (repeat' split at h)
      all_goals first
        | (cases h; done)
        | (cases h; exact tl_rf _)
        | (cases h; exact tl_obj (by assumption))
        | (cases h; exact tl_app _ _)
        | (cases h; exact tl_ref (by assumption))
        | (cases h; exact hc _ _ _ _ _ (by assumption))
        | (obtain ⟨v, hv, e⟩ := Option.map_eq_some_iff.mp h; subst e; first | exact tl_rf _ | exact tl_ast hv)
  · rw [ha] at h
    cases h
    exact tl_rf _
theorem tl_run {call : Nat → List Value → px_H → Option px_A} (hc : ∀ mi av h r h', call mi av h = some (r, h') → tl h h') {M : px_M} {N0 : Nat} : ∀ (k pc : Nat) (lv : List (Nat × Value)) (st : List Value) (hp : px_H) (nc ns : Nat) (r : px_A), px_run T X P call M N0 k (pc, lv, st, hp, nc, ns) = some r → tl hp r.2 := by
  intro k
  induction k with
  | zero => intro pc lv st hp nc ns r h; cases h
  | succ k ih =>
    intro pc lv st hp nc ns r h
    unfold px_run at h
    split at h
    · cases h
    · rename_i S' hs
      obtain ⟨pc', lv', st', hp', nc', ns'⟩ := S'
      have a : tl hp hp' := tl_step hc hs
      exact tl_tr a (ih pc' lv' st' hp' nc' ns' r h)
    · rename_i r9 hs
      cases h
      exact tl_step hc hs
theorem tl_call : ∀ (n mi : Nat) (av : List Value) (hp : px_H) (r : Option Value) (h' : px_H), px_call T P ab_nn n mi av hp = some (r, h') → tl hp h' := by
  intro n
  induction n with
  | zero => intro mi av hp r h' h; cases h
  | succ n ih =>
    intro mi av hp r h' h
    unfold px_call at h
    split at h
    · rename_i q hq
      cases hq
    · split at h
      · cases h
      · split at h
        · cases h
        · exact tl_run ih _ _ _ _ _ _ _ _ h
theorem tl_C {mi : Nat} {av : List Value} {hp hp' : px_H} {r : Option Value} (h : px_C T P mi av hp r hp') : tl hp hp' := by
  obtain ⟨n0, h⟩ := h
  exact tl_call n0 mi av hp r hp' (h n0 (Nat.le_refl _))
end sy_M
/-- an array with the same numbers up to its length is the same array -/
theorem tl_eq {hp hp' : px_H} {c t n : Nat} (a : tl hp hp') (hS : oS hp) (hb : bA [c] t n 0 = true) (h : ∀ j, j < n → aI hp' c j = aI hp c j) : hp'[c]? = hp[c]? := by
  have hx := bAI_ok hb List.mem_cons_self hS
  obtain ⟨f', e1, e2⟩ := a c t n _ hx
  have e3 : aI hp' c = f' := by unfold aI; rw [e1]
  rw [e1, hx]
  have : f' = aI hp c := by
    funext j
    by_cases hj : j < n
    · rw [← e3]; exact h j hj
    · exact e2 j (by omega)
  rw [this]
end mg_4
