section mg_0
/-! a drawing is opened and closed on both sides -/
section sy_2
variable {h : px_H} {z p d r ln b : Nat}
theorem mBar_cg {h' : px_H} (e1 : gI h' 69 33 = gI h 69 33) (e2 : gI h' 69 20 = gI h 69 20) (f1 : aI h' 71 = aI h 71) (f2 : aI h' 72 = aI h 72) (f3 : aI h' 73 = aI h 73) (f4 : aI h' 74 = aI h 74) (f8 : aI h' 78 = aI h 78) (f0 : aI h' 90 = aI h 90) (kind : Int32) : mBar h' z kind p d = mBar h z kind p d := by
  unfold mBar mKin
  rw [e1, e2, f1, f2, f3, f4, f8, f0]
theorem mLine_cg {h' : px_H} (e1 : gI h' 69 33 = gI h 69 33) (e2 : gI h' 69 20 = gI h 69 20) (f1 : aI h' 71 = aI h 71) (f2 : aI h' 72 = aI h 72) (f3 : aI h' 73 = aI h 73) (f4 : aI h' 74 = aI h 74) (f8 : aI h' 78 = aI h 78) (f0 : aI h' 90 = aI h 90) (f9 : aI h' 83 = aI h 83) : mLine h' z r ln p d = mLine h z r ln p d := by
  unfold mLine
  refine ff_congr (fun j _ _ => ?_)
  rw [mBar_cg e1 e2 f1 f2 f3 f4 f8 f0, f9]
def anewM (h : px_H) (b : Nat) : Bool := px_cmp .eq (aI h 88 b) 0 && !px_cmp .eq (aI h 77 b) 0
def VO (c : Nat) : Bool := Nat.beq c 88 || Nat.beq c 89
theorem vl_Mopens (hS : oS h) (hE : ME z r ln h) (z9 : z ≤ 10) (r4 : r < 4) (l7 : ln ≤ 7) (hd : d < 6) (hb : aI h 79 d = Int32.ofNat b) (b2 : b < 2) (h33 : gI h 69 33 = Int32.ofInt 0) (s8 : sm (aI h 88 b)) (s9 : sm (aI h 89 b)) (s6 : sm (aI h 76 b)) :
    ∃ h', fn_M_opens (Int32.ofNat d) h = some h' ∧ oS h' ∧ fz WM VO h h' ∧ gI h' 69 32 = Int32.ofInt 0 ∧ gI h' 69 33 = Int32.ofInt 0 ∧ (∀ j, j ≠ b → aI h' 88 j = aI h 88 j ∧ aI h' 89 j = aI h 89 j) ∧ sm (aI h' 88 b) ∧ sm (aI h' 89 b) ∧ ∀ i, i < 10 → ib (aI h' 88 b) i = (bif anewM h b then ib (aI h 76 b) i else ib (aI h 88 b) i || (decide (i < z) && mOut h z r ln d b i)) ∧ ib (aI h' 89 b) i = (bif anewM h b then false else ib (aI h 89 b) i && !(decide (i < z) && mOut h z r ln d b i)) := by
  have hS1 : oS (wF h 69 32 (.int (Int32.ofInt 0))) := oS_wI (cs := [69]) (ci := 9) rfl List.mem_cons_self hS
  have a1 : gI (wF h 69 32 (.int (Int32.ofInt 0))) 69 32 = Int32.ofInt 0 := gI_wF (cs := [69]) (ci := 9) rfl List.mem_cons_self hS
  have f1 : fz WM VO h (wF h 69 32 (.int (Int32.ofInt 0))) := fz_wF rfl
  have g1 : ∀ c, aI (wF h 69 32 (.int (Int32.ofInt 0))) c = aI h c := fun c => aI_wF
  have e1 : ∀ k, k ≠ 32 → gI (wF h 69 32 (.int (Int32.ofInt 0))) 69 k = gI h 69 k := fun k hk => gI_wF_ne (fun e => hk e.2)
  unfold fn_M_opens
  simp only [nm_inR d 6 hd (by omega), nm_ofNat_clamp d (by omega), hb, nm_inR b 2 b2 (by omega), nm_ofNat_clamp b (by omega), cond_true, sb]
  generalize wF h 69 32 (.int (Int32.ofInt 0)) = h1 at hS1 a1 f1 g1 e1 ⊢
  have hS2 : oS (wF h1 69 33 (.int (Int32.ofInt 0))) := oS_wI (cs := [69]) (ci := 9) rfl List.mem_cons_self hS1
  have a2 : gI (wF h1 69 33 (.int (Int32.ofInt 0))) 69 33 = Int32.ofInt 0 := gI_wF (cs := [69]) (ci := 9) rfl List.mem_cons_self hS1
  have a3 : gI (wF h1 69 33 (.int (Int32.ofInt 0))) 69 32 = Int32.ofInt 0 := (gI_wF_ne (by decide)).trans a1
  have f2 : fz WM VO h (wF h1 69 33 (.int (Int32.ofInt 0))) := fz_tr f1 (fz_wF rfl)
  have g2 : ∀ c, aI (wF h1 69 33 (.int (Int32.ofInt 0))) c = aI h c := fun c => aI_wF.trans (g1 c)
  generalize wF h1 69 33 (.int (Int32.ofInt 0)) = h2 at hS2 a2 a3 f2 g2 ⊢
  rw [g2 88, g2 77, g2 76]
  have hE2 : ME z r ln h2 := ⟨(fz_gI f2 rfl).trans hE.1, (fz_gI f2 rfl).trans hE.2.1, by rw [g2]; exact hE.2.2⟩
  have hO : ∀ i, mOut h2 z r ln d b i = mOut h z r ln d b i := fun i => by
    unfold mOut
    rw [g2, mLine_cg (a2.trans h33.symm) (fz_gI f2 rfl) (g2 71) (g2 72) (g2 73) (g2 74) (g2 78) (g2 90) (g2 83)]
  have old : anewM h b = false → ∃ h', fn_M_opens_L57 (Int32.ofNat d) (Int32.ofNat b) fu (Int32.ofInt 0) h2 = some h' ∧ oS h' ∧ fz WM VO h h' ∧ gI h' 69 32 = Int32.ofInt 0 ∧ gI h' 69 33 = Int32.ofInt 0 ∧ (∀ j, j ≠ b → aI h' 88 j = aI h 88 j ∧ aI h' 89 j = aI h 89 j) ∧ sm (aI h' 88 b) ∧ sm (aI h' 89 b) ∧ ∀ i, i < 10 → ib (aI h' 88 b) i = (bif anewM h b then ib (aI h 76 b) i else ib (aI h 88 b) i || (decide (i < z) && mOut h z r ln d b i)) ∧ ib (aI h' 89 b) i = (bif anewM h b then false else ib (aI h 89 b) i && !(decide (i < z) && mOut h z r ln d b i)) := by
    intro hn
    obtain ⟨h', b1, b2', b3, b4, b5, b6, b7⟩ := vl_opens_L z9 r4 l7 hd b2 z 0 fu h2 (by omega) (fu_lt (by omega)) hS2 hE2 (by rw [g2]; exact s8) (by rw [g2]; exact s9)
    refine ⟨h', b1, b2', fz_tr f2 (fz_mono b3 (fun _ _ _ => rfl) (fun c hc => hc)), (fz_gI b3 rfl).trans a3, (fz_gI b3 rfl).trans a2, fun j hj => ?_, b5, b6, fun i hi => ?_⟩
    · rw [(b4 j hj).1, (b4 j hj).2, g2, g2]
      exact ⟨rfl, rfl⟩
    · rw [(b7 i hi).1, (b7 i hi).2, g2, g2, hO, hn, show decide (0 ≤ i ∧ i < z) = decide (i < z) from by simp only [decide_eq_decide]; omega]
      exact ⟨rfl, rfl⟩
  cases h0 : px_cmp .eq (aI h 88 b) 0 with
  | false =>
    rw [show px_cmp .ne (aI h 88 b) 0 = true from by simp only [px_cmp, decide_eq_false_iff_not, decide_eq_true_eq] at h0 ⊢; exact h0]
    exact old (by unfold anewM; rw [h0, Bool.false_and])
  | true =>
    rw [show px_cmp .ne (aI h 88 b) 0 = false from by simp only [px_cmp, decide_eq_false_iff_not, decide_eq_true_eq] at h0 ⊢; exact fun e => e h0]
    simp only [cond_false]
    cases h7 : px_cmp .eq (aI h 77 b) 0 with
    | true => exact old (by unfold anewM; rw [h7, Bool.not_true, Bool.and_false])
    | false =>
      simp only [cond_false]
      have hn : anewM h b = true := by unfold anewM; rw [h0, h7]; rfl
      have hS3 : oS (uI h2 88 b (aI h 76 b)) := oS_uI (cs := [88]) (t := nr_inBag) (n := 2) rfl List.mem_cons_self hS2
      have x8 : aI (uI h2 88 b (aI h 76 b)) 88 = upd (aI h 88) b (aI h 76 b) := by rw [aI_uI (cs := [88]) (t := nr_inBag) (n := 2) rfl List.mem_cons_self hS2, g2]
      have x9 : aI (uI h2 88 b (aI h 76 b)) 89 = aI h 89 := (aI_uI_ne (by decide)).trans (g2 89)
      have f3 : fz WM VO h (uI h2 88 b (aI h 76 b)) := fz_tr f2 (fz_uI rfl)
      have a4 : gI (uI h2 88 b (aI h 76 b)) 69 32 = Int32.ofInt 0 := gI_uI.trans a3
      have a5 : gI (uI h2 88 b (aI h 76 b)) 69 33 = Int32.ofInt 0 := gI_uI.trans a2
      generalize uI h2 88 b (aI h 76 b) = h3 at hS3 x8 x9 f3 a4 a5 ⊢
      have y9 : aI (uI h3 89 b (Int32.ofInt 0)) 89 = upd (aI h 89) b (Int32.ofInt 0) := by rw [aI_uI (cs := [89]) (t := nr_aside) (n := 2) rfl List.mem_cons_self hS3, x9]
      have y8 : aI (uI h3 89 b (Int32.ofInt 0)) 88 = upd (aI h 88) b (aI h 76 b) := (aI_uI_ne (by decide)).trans x8
      have z8 : aI (uI h3 89 b (Int32.ofInt 0)) 88 b = aI h 76 b := by rw [y8]; simp [upd]
      have z9' : aI (uI h3 89 b (Int32.ofInt 0)) 89 b = Int32.ofInt 0 := by rw [y9]; simp [upd]
      refine ⟨uI h3 89 b (Int32.ofInt 0), rfl, oS_uI (cs := [89]) (t := nr_aside) (n := 2) rfl List.mem_cons_self hS3, fz_tr f3 (fz_uI rfl), gI_uI.trans a4, gI_uI.trans a5, fun j hj => ?_, by rw [z8]; exact s6, by rw [z9']; exact sm_z, fun i hi => ?_⟩
      · rw [y8, y9]
        simp [upd, hj]
      · rw [z8, z9', hn, ib_z]
        exact ⟨rfl, rfl⟩
theorem vl_Mcloses (hS : oS h) (hd : d < 6) (hb : aI h 79 d = Int32.ofNat b) (b2 : b < 2) : ∃ h', fn_M_closes (Int32.ofNat d) h = some h' ∧ oS h' ∧ fz (fun c k => Nat.beq c 69 && (Nat.beq k 31 || (Nat.beq k 32 || Nat.beq k 33))) (fun c => Nat.beq c 88) h h' ∧ gI h' 69 31 = Int32.ofNat (d + 1) ∧ gI h' 69 32 = Int32.ofInt 0 ∧ gI h' 69 33 = Int32.ofInt 0 ∧ ∀ j, aI h' 88 j = if j = b then aI h 88 b ||| gI h 69 32 else aI h 88 j := by
  unfold fn_M_closes
  simp only [nm_inR d 6 hd (by omega), nm_ofNat_clamp d (by omega), hb, nm_inR b 2 b2 (by omega), nm_ofNat_clamp b (by omega), cond_true, sb, inc1]
  have hS1 : oS (uI h 88 b ((aI h 88 b) ||| (gI h 69 32))) := oS_uI (cs := [88]) (t := nr_inBag) (n := 2) rfl List.mem_cons_self hS
  have x8 : aI (uI h 88 b ((aI h 88 b) ||| (gI h 69 32))) 88 = upd (aI h 88) b ((aI h 88 b) ||| (gI h 69 32)) := aI_uI (cs := [88]) (t := nr_inBag) (n := 2) rfl List.mem_cons_self hS
  have f1 : fz (fun c k => Nat.beq c 69 && (Nat.beq k 31 || (Nat.beq k 32 || Nat.beq k 33))) (fun c => Nat.beq c 88) h (uI h 88 b ((aI h 88 b) ||| (gI h 69 32))) := fz_uI rfl
  generalize uI h 88 b ((aI h 88 b) ||| (gI h 69 32)) = h1 at hS1 x8 f1 ⊢
  have hS2 : oS (wF h1 69 32 (.int (Int32.ofInt 0))) := oS_wI (cs := [69]) (ci := 9) rfl List.mem_cons_self hS1
  have a2 : gI (wF h1 69 32 (.int (Int32.ofInt 0))) 69 32 = Int32.ofInt 0 := gI_wF (cs := [69]) (ci := 9) rfl List.mem_cons_self hS1
  have y8 : aI (wF h1 69 32 (.int (Int32.ofInt 0))) 88 = _ := aI_wF.trans x8
  have f2 : fz (fun c k => Nat.beq c 69 && (Nat.beq k 31 || (Nat.beq k 32 || Nat.beq k 33))) (fun c => Nat.beq c 88) h (wF h1 69 32 (.int (Int32.ofInt 0))) := fz_tr f1 (fz_wF rfl)
  generalize wF h1 69 32 (.int (Int32.ofInt 0)) = h2 at hS2 a2 y8 f2 ⊢
  have hS3 : oS (wF h2 69 33 (.int (Int32.ofInt 0))) := oS_wI (cs := [69]) (ci := 9) rfl List.mem_cons_self hS2
  have a3 : gI (wF h2 69 33 (.int (Int32.ofInt 0))) 69 33 = Int32.ofInt 0 := gI_wF (cs := [69]) (ci := 9) rfl List.mem_cons_self hS2
  have a4 : gI (wF h2 69 33 (.int (Int32.ofInt 0))) 69 32 = Int32.ofInt 0 := (gI_wF_ne (by decide)).trans a2
  have z8 : aI (wF h2 69 33 (.int (Int32.ofInt 0))) 88 = _ := aI_wF.trans y8
  have f3 : fz (fun c k => Nat.beq c 69 && (Nat.beq k 31 || (Nat.beq k 32 || Nat.beq k 33))) (fun c => Nat.beq c 88) h (wF h2 69 33 (.int (Int32.ofInt 0))) := fz_tr f2 (fz_wF rfl)
  generalize wF h2 69 33 (.int (Int32.ofInt 0)) = h3 at hS3 a3 a4 z8 f3 ⊢
  refine ⟨wF h3 69 31 (.int (Int32.ofNat (d + 1))), rfl, oS_wI (cs := [69]) (ci := 9) rfl List.mem_cons_self hS3, fz_tr f3 (fz_wF rfl), gI_wF (cs := [69]) (ci := 9) rfl List.mem_cons_self hS3, (gI_wF_ne (by decide)).trans a4, (gI_wF_ne (by decide)).trans a3, fun j => ?_⟩
  rw [aI_wF, z8]
  simp only [upd]
theorem vl_MisOver (hd : d < 6) (hb : aI h 79 d = Int32.ofNat b) (b2 : b < 2) : fn_M_isOver (Int32.ofNat d) h = some (b01 (px_cmp .eq (aI h 88 b) 0 || !px_cmp .ne (nm_bc (gI h 69 33)) (aI h 80 d))) := by
  unfold fn_M_isOver
  simp only [nm_inR d 6 hd (by omega), nm_ofNat_clamp d (by omega), hb, nm_inR b 2 b2 (by omega), nm_ofNat_clamp b (by omega), cond_true]
  cases px_cmp .eq (aI h 88 b) 0 <;> cases px_cmp .ne (nm_bc (gI h 69 33)) (aI h 80 d) <;> rfl
end sy_2
section sy_3
variable {z d b c ln r nx : Nat} {hX hM : px_H} {K S F kn : Nat → Int32} {ow aw dd : Int32}
/-- both sides are over at once -/
theorem over_eq (hD : DR z d b c hX hM) (b2 : b < 2) (h6 : gI hX 21 6 = aI hM 80 d) (hle : (nm_bc (gI hM 69 33)).toInt ≤ (aI hM 80 d).toInt) : (px_cmp .eq (pv (gL hX c 0) b) 0 || !px_cmp .lt (nm_bc (pv (gL hX c 0) 5)) (gI hX 21 6)) = (px_cmp .eq (aI hM 88 b) 0 || !px_cmp .ne (nm_bc (gI hM 69 33)) (aI hM 80 d)) := by
  rw [(DR_b b2 hD).1, hD.1.2.2.2.2.2, h6]
  congr 2
  generalize nm_bc (gI hM 69 33) = x at hle ⊢
  generalize aI hM 80 d = y at hle ⊢
  simp only [px_cmp, decide_eq_decide, Int32.lt_iff_toInt_lt]
  rw [← Int32.toInt_inj]
  omega
theorem sim_open (hN : EN z d ln r b K S F kn ow aw dd hM) (hc : c ∈ chs) (hSX : oS hX) (hSM : oS hM) (hE : CE z d ln K S F kn ow aw dd hX) (hbX : gI hX 21 5 = Int32.ofNat b) (hC : CL z nx c hX hM) (hnd : nx ≤ d) (h26 : aI hX 26 b = aI hM 76 b) (hs6 : sz z (aI hM 76 b)) (h8 : aI hX 8 b = aI hM 77 b) :
    ∃ h1 h3, fn_Chest_open c hX = some h1 ∧ oS h1 ∧ fz (Wc c) V0 hX h1 ∧ fn_M_opens (Int32.ofNat d) hM = some h3 ∧ oS h3 ∧ fz WM VO hM h3 ∧ gI h3 69 33 = Int32.ofInt 0 ∧ DR z d b c h1 h3 := by
  have hN0 := hN
  obtain ⟨z9, d6, l7, r4, b2, hME, hb, hR, hP⟩ := hN
  obtain ⟨cb, cba⟩ := CL_b b2 hC
  obtain ⟨⟨q0, q1, q2, q3, q4, m2, m3⟩, hs, hz⟩ := hC
  obtain ⟨h1, a1, a2, a3, a4, a5, a6, a7⟩ := vl_open hSX hc hE z9 l7 hbX b2 (by rw [h26]; exact sz_sm z9 hs6)
  obtain ⟨h3, c1, c2, c3, c4, c5, c6, c7, c8, c9⟩ := vl_Mopens hSM hME z9 r4 l7 d6 hb b2 m3 (sz_sm z9 (hz b b2).1) (sz_sm z9 (hz b b2).2) (sz_sm z9 hs6)
  have han : anew hX c b = anewM hM b := by unfold anew anewM; rw [cb, h8]
  have hbar : ∀ i, i < z → ib (ob (cB z d K S kn ow aw (Int32.ofInt 0) (gI hX c 1)) ln) i = !(mLine hM z r ln i d).isNone := by
    intro i hi
    obtain ⟨s1, v, v1, v2⟩ := hs i (by omega)
    rw [← line_eq hN0 (sit := Int32.ofInt 0) (s := gI hX c 1) hi (fun q _ => by rw [m3]) s1 v2 (by omega)]
    rw [Bool.eq_iff_iff, ob_ib]
    cases hf : ff (fun k => ib (cB z d K S kn ow aw (Int32.ofInt 0) (gI hX c 1) k) i) 0 ln with
    | none =>
      have := ff_none.mp hf
      constructor
      · rintro ⟨k, k1, k2⟩
        rw [this k (by omega) (by omega)] at k2
        cases k2
      · intro e; cases e
    | some j =>
      obtain ⟨j1, j2, j3⟩ := ff_some hf
      exact ⟨fun _ => rfl, fun _ => ⟨j, by omega, j3⟩⟩
  have T : ∀ i, i < 10 → ib (pv (gL h1 c 0) b) i = ib (aI h3 88 b) i ∧ ib (pv (gL h1 c 0) (2 + b)) i = ib (aI h3 89 b) i := by
    intro i hi
    rw [(a7 i hi).1, (a7 i hi).2, (c9 i hi).1, (c9 i hi).2, han, cb, cba, h26]
    cases anewM hM b with
    | true => exact ⟨rfl, rfl⟩
    | false =>
      simp only [cond_false]
      by_cases iz : i < z
      · rw [hbar i iz, show decide (i < z) = true from by simp only [decide_eq_true_eq]; exact iz]
        unfold mOut
        cases ib (aI hM 88 b) i <;> cases ib (aI hM 89 b) i <;> cases (mLine hM z r ln i d).isNone <;> exact ⟨rfl, rfl⟩
      · rw [(hz b b2).2 i (by omega)]
        unfold mOut
        rw [(hz b b2).2 i (by omega)]
        simp
  have e8 : pv (gL h1 c 0) b = aI h3 88 b := pv_ext c7 (fun i hi => (T i hi).1)
  have e9 : pv (gL h1 c 0) (2 + b) = aI h3 89 b := pv_ext c8 (fun i hi => (T i hi).2)
  have P8 : ∀ j, j < 2 → pv (gL h1 c 0) j = aI h3 88 j := fun j hj => by
    by_cases e : j = b
    · rw [e]; exact e8
    · rw [a6 j (by omega) e (by omega), (c6 j e).1]
      match j, hj with
      | 0, _ => exact q0
      | 1, _ => exact q1
      | j + 2, h => omega
  have P9 : ∀ j, j < 2 → pv (gL h1 c 0) (2 + j) = aI h3 89 j := fun j hj => by
    by_cases e : j = b
    · rw [e]; exact e9
    · rw [a6 (2 + j) (by omega) (by omega) (by omega), (c6 j e).2]
      match j, hj with
      | 0, _ => exact q2
      | 1, _ => exact q3
      | j + 2, h => omega
  have hsat : aI h3 90 = aI hM 90 := (c3.2 90 rfl).1
  refine ⟨h1, h3, a1, a2, a3, c1, c2, c3, c5, ⟨P8 0 (by omega), P8 1 (by omega), P9 0 (by omega), P9 1 (by omega), ?_, ?_⟩, fun p hp => ?_, fun j hj => ?_, ?_, fun p _ _ => by rw [c5]; exact ib_z p⟩
  · rw [a6 4 (by omega) (by omega) (by omega), q4, c4]
  · rw [a5, c5]
  · obtain ⟨s1, v, v1, v2⟩ := hs p hp
    rw [a4, hsat]
    exact ⟨s1, v, by omega, v2, fun _ => by omega⟩
  · by_cases e : j = b
    · subst e
      refine ⟨fun i hi => ?_, fun i hi => ?_⟩
      · by_cases i9 : i < 10
        · rw [(c9 i i9).1, hs6 i hi, (hz j hj).1 i hi, show decide (i < z) = false from by simp only [decide_eq_false_iff_not]; omega]
          cases anewM hM j <;> rfl
        · exact c7 i (by omega)
      · by_cases i9 : i < 10
        · rw [(c9 i i9).2, (hz j hj).2 i hi]
          cases anewM hM j <;> rfl
        · exact c8 i (by omega)
    · rw [(c6 j e).1, (c6 j e).2]
      exact hz j hj
  · rw [c4]
    exact fun i _ => ib_z i
theorem sim_close (hN : EN z d ln r b K S F kn ow aw dd hM) (hc : c ∈ chs) (hSX : oS hX) (hSM : oS hM) (hbX : gI hX 21 5 = Int32.ofNat b) (hD : DR z d b c hX hM) :
    ∃ h1 h3, fn_Chest_close c hX = some h1 ∧ oS h1 ∧ fz (Wc c) V0 hX h1 ∧ fn_M_closes (Int32.ofNat d) hM = some h3 ∧ oS h3 ∧ fz (fun c k => Nat.beq c 69 && (Nat.beq k 31 || (Nat.beq k 32 || Nat.beq k 33))) (fun c => Nat.beq c 88) hM h3 ∧ gI h3 69 31 = Int32.ofNat (d + 1) ∧ CL z (d + 1) c h1 h3 ∧ pv (gL h1 c 0) 5 = gI hM 69 33 := by
  obtain ⟨z9, d6, l7, r4, b2, hME, hb, hR, hP⟩ := hN
  obtain ⟨db, dba⟩ := DR_b b2 hD
  obtain ⟨⟨q0, q1, q2, q3, q4, q5⟩, hs, hz, hz2, hex⟩ := hD
  obtain ⟨h1, a1, a2, a3, a4, a5⟩ := vl_close hSX hc hbX b2
  obtain ⟨h3, c1, c2, c3, c4, c5, c6, c7⟩ := vl_Mcloses hSM d6 hb b2
  have m9 : aI h3 89 = aI hM 89 := (c3.2 89 rfl).1
  have m0 : aI h3 90 = aI hM 90 := (c3.2 90 rfl).1
  have P8 : ∀ j, j < 2 → pv (gL h1 c 0) j = aI h3 88 j := fun j hj => by
    rw [a5 j (by omega), if_neg (by omega), c7 j]
    by_cases e : j = b
    · rw [if_pos e, if_pos e, db, q4]
    · rw [if_neg e, if_neg e]
      match j, hj with
      | 0, _ => exact q0
      | 1, _ => exact q1
      | j + 2, h => omega
  refine ⟨h1, h3, a1, a2, a3, c1, c2, c3, c4, ⟨⟨P8 0 (by omega), P8 1 (by omega), ?_, ?_, ?_, c5, c6⟩, fun p hp => ?_, fun j hj => ?_⟩, ?_⟩
  · rw [a5 2 (by omega), if_neg (by omega), if_neg (by omega), m9]; exact q2
  · rw [a5 3 (by omega), if_neg (by omega), if_neg (by omega), m9]; exact q3
  · rw [a5 4 (by omega), if_pos rfl]
  · obtain ⟨s1, v, v1, v2, -⟩ := hs p hp
    rw [a4, m0]
    exact ⟨s1, v, v1, v2⟩
  · rw [m9]
    refine ⟨fun i hi => ?_, (hz j hj).2⟩
    rw [c7 j]
    by_cases e : j = b
    · rw [if_pos e, ib_or, (hz b b2).1 i hi, hz2 i hi]
      rfl
    · rw [if_neg e]
      exact (hz j hj).1 i hi
  · rw [a5 5 (by omega), if_neg (by omega), if_neg (by omega), q5]
end sy_3
end mg_0

section mg_1
/-! how many bits, the so manieth bit, a draw -/
def cb (f : Nat → Bool) : Nat → Nat
  | 0 => 0
  | k + 1 => cb f k + (bif f k then 1 else 0)
theorem bc_t : (List.range 1024).all (fun n => decide (nm_bc (Int32.ofNat n) = Int32.ofNat (cb (fun i => Nat.testBit n i) 10))) = true := by decide +kernel
theorem cb_cg {f g : Nat → Bool} : ∀ {n : Nat}, (∀ i, i < n → f i = g i) → cb f n = cb g n
  | 0, _ => rfl
  | n + 1, h => by
    show cb f n + _ = cb g n + _
    rw [cb_cg (fun i hi => h i (by omega)), h n (by omega)]
theorem cb_le (f : Nat → Bool) : ∀ n : Nat, cb f n ≤ n
  | 0 => Nat.le_refl 0
  | n + 1 => by
    have := cb_le f n
    show cb f n + (bif f n then 1 else 0) ≤ n + 1
    cases f n <;> simp only [cond_true, cond_false] <;> omega
theorem bc_cb {x : Int32} (hx : sm x) : nm_bc x = Int32.ofNat (cb (ib x) 10) := by
  have e : x.toBitVec.toNat < 1024 := by
    show x.toBitVec.toNat < 2 ^ 10
    exact Nat.lt_pow_two_of_testBit _ (fun i hi => hx i hi)
  have e2 : x = Int32.ofNat x.toBitVec.toNat := by
    apply Int32.toBitVec_inj.mp
    show x.toBitVec = BitVec.ofNat 32 x.toBitVec.toNat
    rw [BitVec.ofNat_toNat, BitVec.setWidth_eq]
  have := of_decide_eq_true (List.all_eq_true.mp bc_t _ (List.mem_range.mpr e))
  rw [← e2] at this
  rw [this]
  rfl
theorem cb_or (f : Nat → Bool) (p : Nat) (t : Bool) : ∀ n : Nat, cb (fun i => f i || (t && decide (i = p))) n ≤ cb f n + (if p < n then 1 else 0)
  | 0 => Nat.zero_le _
  | n + 1 => by
    have ih := cb_or f p t n
    show cb (fun i => f i || (t && decide (i = p))) n + (bif (f n || (t && decide (n = p))) then 1 else 0) ≤ cb f n + (bif f n then 1 else 0) + (if p < n + 1 then 1 else 0)
    by_cases h : n = p
    · subst h
      rw [if_neg (Nat.lt_irrefl _)] at ih
      rw [if_pos (Nat.lt_succ_self _)]
      generalize cb (fun i => f i || (t && decide (i = n))) n = A at ih ⊢
      generalize cb f n = B at ih ⊢
      cases f n <;> cases t <;> simp <;> omega
    · rw [show decide (n = p) = false from by simp only [decide_eq_false_iff_not]; exact h, Bool.and_false, Bool.or_false]
      by_cases h1 : p < n
      · rw [if_pos h1] at ih; rw [if_pos (by omega)]; omega
      · rw [if_neg h1] at ih; rw [if_neg (by omega)]; omega
/-- one more sits at most -/
theorem bc_step {x y : Int32} {p : Nat} {t : Bool} (hx : sm x) (hy : sm y) (h : ∀ i, i < 10 → ib y i = (ib x i || (t && decide (i = p)))) : (nm_bc y).toInt ≤ (nm_bc x).toInt + 1 := by
  have a := cb_le (ib x) 10
  have b := cb_le (ib y) 10
  rw [bc_cb hx, bc_cb hy, nm_ofNat_toInt _ (by omega), nm_ofNat_toInt _ (by omega), cb_cg h]
  have c := cb_or (ib x) p t 10
  split at c <;> omega
theorem cb_0 {f : Nat → Bool} : ∀ {n : Nat}, (∀ i, i < n → f i = false) → cb f n = 0
  | 0, _ => rfl
  | n + 1, h => by
    show cb f n + _ = 0
    rw [cb_0 (fun i hi => h i (by omega)), h n (by omega)]
    rfl
theorem cb_pos {f : Nat → Bool} {n p : Nat} (hp : p < n) (h : f p = true) : 0 < cb f n := by
  induction n with
  | zero => omega
  | succ n ih =>
    show 0 < cb f n + (bif f n then 1 else 0)
    by_cases e : p = n
    · subst e; rw [h]; simp
    · have := ih (by omega); omega
/-! the so manieth -/
def nb (f : Nat → Bool) : Nat → Nat → Nat → Option Nat
  | _, 0, _ => none
  | p, m + 1, k => bif f p then (if k = 0 then some p else nb f (p + 1) m (k - 1)) else nb f (p + 1) m k
def cr (f : Nat → Bool) : Nat → Nat → Nat
  | _, 0 => 0
  | p, m + 1 => (bif f p then 1 else 0) + cr f (p + 1) m
theorem cr_cb (f : Nat → Bool) : ∀ (m p : Nat), cb f p + cr f p m = cb f (p + m)
  | 0, p => rfl
  | m + 1, p => by
    have := cr_cb f m (p + 1)
    rw [show p + (m + 1) = p + 1 + m from by omega, ← this]
    show cb f p + ((bif f p then 1 else 0) + cr f (p + 1) m) = cb f p + (bif f p then 1 else 0) + cr f (p + 1) m
    omega
theorem nb_ok {f : Nat → Bool} : ∀ (m p k : Nat), k < cr f p m → ∃ q, nb f p m k = some q ∧ p ≤ q ∧ q < p + m ∧ f q = true
  | 0, p, k, h => absurd h (Nat.not_lt_zero k)
  | m + 1, p, k, h => by
    have h : k < (bif f p then 1 else 0) + cr f (p + 1) m := h
    show ∃ q, (bif f p then (if k = 0 then some p else nb f (p + 1) m (k - 1)) else nb f (p + 1) m k) = some q ∧ _
    cases hf : f p with
    | true =>
      rw [hf] at h
      simp only [cond_true] at h ⊢
      by_cases k0 : k = 0
      · rw [if_pos k0]; exact ⟨p, rfl, by omega, by omega, hf⟩
      · rw [if_neg k0]
        obtain ⟨q, q1, q2, q3, q4⟩ := nb_ok (f := f) m (p + 1) (k - 1) (by omega)
        exact ⟨q, q1, by omega, by omega, q4⟩
    | false =>
      rw [hf] at h
      simp only [cond_false] at h ⊢
      obtain ⟨q, q1, q2, q3, q4⟩ := nb_ok (f := f) m (p + 1) k (by omega)
      exact ⟨q, q1, by omega, by omega, q4⟩
theorem dec1 {k : Nat} (h : 1 ≤ k) (hk : k < 2147483648) : Int32.ofNat k + Int32.ofInt (-1) = Int32.ofNat (k - 1) := by
  rw [← Int32.toInt_inj, Int32.toInt_add, nm_ofNat_toInt k hk, nm_ofNat_toInt (k - 1) (by omega), show (Int32.ofInt (-1)).toInt = -1 from by decide]
  rw [Int.bmod_eq_of_le] <;> omega
theorem ne0 {k : Nat} (hk : k < 2147483648) : px_cmp .ne (Int32.ofNat k) 0 = decide (k ≠ 0) := by
  simp only [px_cmp, decide_eq_decide]
  rw [← Int32.toInt_inj, nm_ofNat_toInt k hk, show (0 : Int32).toInt = 0 from by decide]
  omega
theorem ten : (Int8.ofInt 10).toInt32 = Int32.ofNat 10 := by decide
section sy_4
variable {h : px_H}
theorem vl_drawSlip_L (x : Int32) : ∀ (m p k n : Nat), p + m = 10 → m < n → k < 100 → fn_X_drawSlip_L42 x h n (Int32.ofNat k) (Int32.ofNat p) = some (match nb (ib x) p m k with
    | some q => (Int32.ofNat q, h)
    | none => (Int32.ofInt 0, h)) := by
  intro m
  induction m with
  | zero =>
    intro p k n hm hn hk
    obtain ⟨n, rfl⟩ : ∃ k, n = k + 1 := ⟨n - 1, by omega⟩
    have : p = 10 := by omega
    subst this
    show fb_X_drawSlip_L42 x h (fn_X_drawSlip_L42 x h n) (Int32.ofNat k) (Int32.ofNat 10) = _
    unfold fb_X_drawSlip_L42
    rw [ten, ge_t]
    rfl
  | succ m ih =>
    intro p k n hm hn hk
    obtain ⟨n, rfl⟩ : ∃ k, n = k + 1 := ⟨n - 1, by omega⟩
    show fb_X_drawSlip_L42 x h (fn_X_drawSlip_L42 x h n) (Int32.ofNat k) (Int32.ofNat p) = some (match (bif ib x p then (if k = 0 then some p else nb (ib x) (p + 1) m (k - 1)) else nb (ib x) (p + 1) m k) with
      | some q => (Int32.ofNat q, h)
      | none => (Int32.ofInt 0, h))
    unfold fb_X_drawSlip_L42
    rw [ten, ge_f (show p < 10 by omega) (by omega), hb_eq _ (show p < 32 by omega), ne0 (by omega), inc1]
    cases ib x p with
    | false =>
      simp only [cond_false, Bool.not_false, cond_true]
      exact ih (p + 1) k n (by omega) (by omega) hk
    | true =>
      simp only [cond_false, Bool.not_true, cond_true]
      by_cases k0 : k = 0
      · rw [if_pos k0, show decide (k ≠ 0) = false from by simp [k0]]
        rfl
      · rw [if_neg k0, show decide (k ≠ 0) = true from by simp [k0], dec1 (by omega) (by omega)]
        exact ih (p + 1) (k - 1) n (by omega) (by omega) (by omega)
theorem vl_nth_L (x : Int32) : ∀ (m p k n : Nat), p + m = 10 → m < n → k < 100 → fn_M_nth_L4 x h n (Int32.ofNat k) (Int32.ofNat p) = some (fr_ (nb (ib x) p m k)) := by
  intro m
  induction m with
  | zero =>
    intro p k n hm hn hk
    obtain ⟨n, rfl⟩ : ∃ k, n = k + 1 := ⟨n - 1, by omega⟩
    have : p = 10 := by omega
    subst this
    show fb_M_nth_L4 x h (fn_M_nth_L4 x h n) (Int32.ofNat k) (Int32.ofNat 10) = _
    unfold fb_M_nth_L4
    rw [ten, ge_t]
    rfl
  | succ m ih =>
    intro p k n hm hn hk
    obtain ⟨n, rfl⟩ : ∃ k, n = k + 1 := ⟨n - 1, by omega⟩
    show fb_M_nth_L4 x h (fn_M_nth_L4 x h n) (Int32.ofNat k) (Int32.ofNat p) = some (fr_ (bif ib x p then (if k = 0 then some p else nb (ib x) (p + 1) m (k - 1)) else nb (ib x) (p + 1) m k))
    unfold fb_M_nth_L4
    rw [ten, ge_f (show p < 10 by omega) (by omega), has_eq _ (show p < 32 by omega), ne0 (by omega), inc1]
    cases ib x p with
    | false =>
      simp only [cond_false, Bool.not_false, cond_true]
      exact ih (p + 1) k n (by omega) (by omega) hk
    | true =>
      simp only [cond_false, Bool.not_true, cond_true]
      by_cases k0 : k = 0
      · rw [if_pos k0, show decide (k ≠ 0) = false from by simp [k0]]
        rfl
      · rw [if_neg k0, show decide (k ≠ 0) = true from by simp [k0], dec1 (by omega) (by omega)]
        exact ih (p + 1) (k - 1) n (by omega) (by omega) (by omega)
end sy_4
/-- the next number of a row of draws -/
def rn (x : Int32) : Int32 := (x * (Int32.ofInt 1103515245)) + (Int16.ofInt 12345).toInt32
def rk (x n : Int32) : Int32 := (nm_us x (Int8.ofInt 16).toInt32) - (nm_us x (Int8.ofInt 16).toInt32) / n * n
theorem sd_pos {x : Int32} (hx : sm x) (h0 : px_cmp .eq x 0 = false) : 0 < cb (ib x) 10 := by
  have h1 : ¬ ∀ i, i < 10 → ib x i = false := fun e => by rw [(eq0_iff hx).mpr e] at h0; cases h0
  have h2 : ∃ i, i < 10 ∧ ib x i = true := by
    refine Classical.byContradiction (fun hn => h1 (fun i hi => ?_))
    cases hb : ib x i with
    | false => rfl
    | true => exact absurd ⟨i, hi, hb⟩ hn
  obtain ⟨i, hi, hb⟩ := h2
  exact cb_pos hi hb
theorem sd_bc {x : Int32} (hx : sm x) (h0 : px_cmp .eq x 0 = false) : 1 ≤ (nm_bc x).toInt ∧ (nm_bc x).toInt ≤ 10 ∧ (nm_bc x).toInt = (cb (ib x) 10 : Nat) := by
  have hpos := sd_pos hx h0
  have h10 := cb_le (ib x) 10
  have hti : (nm_bc x).toInt = (cb (ib x) 10 : Nat) := by rw [bc_cb hx]; exact nm_ofNat_toInt _ (by omega)
  exact ⟨by omega, by omega, hti⟩
theorem sd_k {x R : Int32} (hx : sm x) (h0 : px_cmp .eq x 0 = false) : ∃ k q, k < 100 ∧ rk R (nm_bc x) = Int32.ofNat k ∧ nb (ib x) 0 10 k = some q ∧ q < 10 ∧ ib x q = true := by
  obtain ⟨n1, n2, n3⟩ := sd_bc hx h0
  have u := nm_u16 R
  have m := nm_rem (nm_us R (Int8.ofInt 16).toInt32) (nm_bc x) u.1 u.2 n1 n2
  obtain ⟨y, hy⟩ : ∃ y, (nm_us R (Int8.ofInt 16).toInt32) - (nm_us R (Int8.ofInt 16).toInt32) / (nm_bc x) * (nm_bc x) = y := ⟨_, rfl⟩
  have hy2 : rk R (nm_bc x) = y := hy
  rw [hy] at m
  have hcl : ∀ w : Int32, w.toNatClampNeg = w.toInt.toNat := fun _ => rfl
  have ek : y = Int32.ofNat y.toNatClampNeg := (nm_ofC _ m.1).symm
  have hkn := hcl y
  generalize y.toNatClampNeg = k at ek hkn
  have hk2 : k < cb (ib x) 10 := by
    have := m.2
    rw [n3] at this
    have := m.1
    omega
  have hcr : cr (ib x) 0 10 = cb (ib x) 10 := by
    have h1 := cr_cb (ib x) 10 0
    rw [Nat.zero_add] at h1
    have h2 : cb (ib x) 0 = 0 := rfl
    rw [h2, Nat.zero_add] at h1
    exact h1
  obtain ⟨q, q1, -, q3, q4⟩ := nb_ok (f := ib x) 10 0 k (by rw [hcr]; exact hk2)
  have h10 := cb_le (ib x) 10
  exact ⟨k, q, by omega, hy2.trans ek, q1, by omega, q4⟩
theorem bc_n0 {x : Int32} (n1 : 1 ≤ (nm_bc x).toInt) : px_cmp .le (nm_bc x) 0 = false ∧ decide (nm_bc x = 0) = false := by
  generalize nm_bc x = y at n1 ⊢
  have h : (0 : Int32).toInt = 0 := by decide
  constructor
  · simp only [px_cmp, decide_eq_false_iff_not, Int32.le_iff_toInt_le, h]; omega
  · simp only [decide_eq_false_iff_not]
    intro e
    rw [e, h] at n1
    omega
theorem sd_X {hX : px_H} {x : Int32} {k q : Nat} (hSX : oS hX) (hx : sm x) (h0 : px_cmp .eq x 0 = false) (k1 : k < 100) (hk : rk (rn (gI hX 0 11)) (nm_bc x) = Int32.ofNat k) (hq : nb (ib x) 0 10 k = some q) : fn_X_drawSlip x hX = some (Int32.ofNat q, wF hX 0 11 (.int (rn (gI hX 0 11)))) := by
  obtain ⟨e1, e2⟩ := bc_n0 (sd_bc hx h0).1
  have e := vl_drawSlip_L (h := wF hX 0 11 (.int (rn (gI hX 0 11)))) x 10 0 k fu (by omega) (fu_lt (by omega)) k1
  rw [hq] at e
  have eR : gI (wF hX 0 11 (.int (rn (gI hX 0 11)))) 0 11 = rn (gI hX 0 11) := gI_wF (cs := [0]) (ci := 8) rfl List.mem_cons_self hSX
  unfold fn_X_drawSlip
  simp only [sb]
  show (bif px_cmp .le (nm_bc x) 0 then _ else bif decide ((nm_bc x) = 0) then none else fn_X_drawSlip_L42 x (wF hX 0 11 (.int (rn (gI hX 0 11)))) fu (rk (gI (wF hX 0 11 (.int (rn (gI hX 0 11)))) 0 11) (nm_bc x)) (Int32.ofInt 0)) = _
  rw [e1, e2, eR, hk]
  exact e
theorem sd_M {hM : px_H} {x : Int32} (hSM : oS hM) (hx : sm x) (h0 : px_cmp .eq x 0 = false) : fn_M_draws (nm_bc x) hM = some (rk (rn (gI hM 69 37)) (nm_bc x), wF hM 69 37 (.int (rn (gI hM 69 37)))) := by
  obtain ⟨e1, e2⟩ := bc_n0 (sd_bc hx h0).1
  have eR : gI (wF hM 69 37 (.int (rn (gI hM 69 37)))) 69 37 = rn (gI hM 69 37) := gI_wF (cs := [69]) (ci := 9) rfl List.mem_cons_self hSM
  unfold fn_M_draws
  simp only [sb]
  show (bif decide ((nm_bc x) = 0) then none else some (rk (gI (wF hM 69 37 (.int (rn (gI hM 69 37)))) 69 37) (nm_bc x), wF hM 69 37 (.int (rn (gI hM 69 37))))) = _
  rw [e2, eR]
  rfl
theorem sd_N {x y : Int32} {k q : Nat} (k1 : k < 100) (hk : y = Int32.ofNat k) (hq : nb (ib x) 0 10 k = some q) (h : px_H) : fn_M_nth x y h = some (Int32.ofNat q) := by
  have e := vl_nth_L (h := h) x 10 0 k fu (by omega) (fu_lt (by omega)) k1
  rw [hq] at e
  rw [hk]
  exact e
theorem sim_draw {hX hM : px_H} {x : Int32} (hSX : oS hX) (hSM : oS hM) (hx : sm x) (h0 : px_cmp .eq x 0 = false) (hr : gI hX 0 11 = gI hM 69 37) :
    ∃ q, q < 10 ∧ ib x q = true ∧ fn_X_drawSlip x hX = some (Int32.ofNat q, wF hX 0 11 (.int (rn (gI hX 0 11)))) ∧ fn_M_draws (nm_bc x) hM = some (rk (rn (gI hX 0 11)) (nm_bc x), wF hM 69 37 (.int (rn (gI hX 0 11)))) ∧ (∀ h : px_H, fn_M_nth x (rk (rn (gI hX 0 11)) (nm_bc x)) h = some (Int32.ofNat q)) := by
  obtain ⟨k, q, k1, k2, k3, k4, k5⟩ := sd_k (R := rn (gI hX 0 11)) hx h0
  refine ⟨q, k4, k5, sd_X hSX hx h0 k1 k2 k3, ?_, fun h => sd_N k1 k2 k3 h⟩
  rw [hr]
  exact sd_M hSM hx h0
end mg_1

section mg_2
/-! a drawing is made ready: what stands fast in it -/
def WR (c k : Nat) : Bool := Nat.beq c 21 && (Nat.beq k 4 || (Nat.beq k 5 || (Nat.beq k 6 || (Nat.beq k 7 || (Nat.beq k 8 || Nat.beq k 9)))))
def V27 (c : Nat) : Bool := Nat.beq c 27
section sy_5
variable {h : px_H} {z d dn : Nat}
theorem vl_ready_L (z9 : z ≤ 10) : ∀ (m p n : Nat) (h : px_H), p + m = z → m < n → oS h → gI h 1 0 = Int32.ofNat z → ∃ h', fn_Course_ready_L96 n (Int32.ofNat p) h = some h' ∧ oS h' ∧ fz W0 V27 h h' ∧ ∀ q, aI h' 27 q = if p ≤ q ∧ q < z then bg (fun i => !px_cmp .ne (aI h 2 i) (aI h 2 q)) z else aI h 27 q := by
  intro m
  induction m with
  | zero =>
    intro p n h hm hn hS hz
    obtain ⟨n, rfl⟩ : ∃ k, n = k + 1 := ⟨n - 1, by omega⟩
    have : p = z := by omega
    subst this
    refine ⟨h, ?_, hS, fz_rf, fun q => by rw [if_neg (by omega)]⟩
    show fb_Course_ready_L96 (fn_Course_ready_L96 n) (Int32.ofNat p) h = _
    unfold fb_Course_ready_L96
    rw [hz, ge_t]
    rfl
  | succ m ih =>
    intro p n h hm hn hS hz
    obtain ⟨n, rfl⟩ : ∃ k, n = k + 1 := ⟨n - 1, by omega⟩
    show ∃ h', fb_Course_ready_L96 (fn_Course_ready_L96 n) (Int32.ofNat p) h = some h' ∧ _
    unfold fb_Course_ready_L96
    simp only [hz, ge_f (show p < z by omega) (show z < 2147483648 by omega), nm_inR p 10 (by omega) (by omega), nm_ofNat_clamp p (by omega), vl_ofHouse hz z9, Option.bind_some, cond_true, cond_false, inc1, sb]
    have hS1 : oS (uI h 27 p (bg (fun i => !px_cmp .ne (aI h 2 i) (aI h 2 p)) z)) := oS_uI (cs := [27]) (t := 4) (n := 10) rfl List.mem_cons_self hS
    have x7 : aI (uI h 27 p (bg (fun i => !px_cmp .ne (aI h 2 i) (aI h 2 p)) z)) 27 = upd (aI h 27) p (bg (fun i => !px_cmp .ne (aI h 2 i) (aI h 2 p)) z) := aI_uI (cs := [27]) (t := 4) (n := 10) rfl List.mem_cons_self hS
    have f1 : fz W0 V27 h (uI h 27 p (bg (fun i => !px_cmp .ne (aI h 2 i) (aI h 2 p)) z)) := fz_uI rfl
    generalize uI h 27 p (bg (fun i => !px_cmp .ne (aI h 2 i) (aI h 2 p)) z) = h1 at hS1 x7 f1 ⊢
    obtain ⟨h', a1, a2, a3, a4⟩ := ih (p + 1) n h1 (by omega) (by omega) hS1 ((fz_gI f1 rfl).trans hz)
    refine ⟨h', a1, a2, fz_tr f1 a3, fun q => ?_⟩
    rw [a4 q, x7, (f1.2 2 rfl).1]
    simp only [upd]
    by_cases e : q = p
    · subst e
      rw [if_neg (by omega), if_pos rfl, if_pos (by omega)]
    · rw [if_neg e]
      by_cases e2 : p + 1 ≤ q ∧ q < z
      · rw [if_pos e2, if_pos (by omega)]
      · rw [if_neg e2, if_neg (by omega)]
theorem vl_hasDrawing (hdn : gI h 1 8 = Int32.ofNat dn) (d6 : dn ≤ 6) (hd : d < dn) : fn_Town_hasDrawing (Int32.ofNat d) h = some (Int32.ofInt 1) := by
  unfold fn_Town_hasDrawing
  rw [hdn, ge_f hd (by omega), show px_cmp .lt (Int32.ofNat d) 0 = false from by
    simp only [px_cmp, decide_eq_false_iff_not, Int32.lt_iff_toInt_lt, nm_ofNat_toInt d (by omega), show (0 : Int32).toInt = 0 from by decide]; omega]
  rfl
theorem vl_ready (hS : oS h) (hz : gI h 1 0 = Int32.ofNat z) (z9 : z ≤ 10) (hdn : gI h 1 8 = Int32.ofNat dn) (d6 : dn ≤ 6) (hd : d < dn) :
    ∃ h', fn_Course_ready (Int32.ofNat d) h = some h' ∧ oS h' ∧ fz WR V27 h h' ∧ gI h' 21 4 = Int32.ofNat d ∧ gI h' 21 5 = aI h 10 d ∧ gI h' 21 6 = aI h 11 d ∧ gI h' 21 7 = bg (fun p => !px_cmp .lt (aI h 9 d) (aI h 6 p)) z ∧ gI h' 21 8 = bg (fun p => !px_cmp .ge (aI h 9 d) (aI h 3 p)) z ∧ gI h' 21 9 = (bg (fun p => !px_cmp .lt (aI h 9 d) (aI h 4 p) && !px_cmp .gt (aI h 9 d) (aI h 5 p)) z ||| gI h 21 3) ∧ ∀ q, q < z → aI h' 27 q = bg (fun i => !px_cmp .ne (aI h 2 i) (aI h 2 q)) z := by
  unfold fn_Course_ready
  simp only [vl_hasDrawing hdn d6 hd, Option.bind_some, show px_cmp .ne (Int32.ofInt 1) 0 = true from by decide, cond_true, nm_inR d 6 (by omega) (by omega), nm_ofNat_clamp d (by omega), sb]
  have st : ∀ (g : px_H) (k : Nat) (v : Int32), WR 21 k = true → bF [21] 1 k 0 = true → oS g → oS (wF g 21 k (.int v)) ∧ fz WR V27 g (wF g 21 k (.int v)) ∧ gI (wF g 21 k (.int v)) 21 k = v ∧ (∀ j, j ≠ k → gI (wF g 21 k (.int v)) 21 j = gI g 21 j) ∧ (∀ c, aI (wF g 21 k (.int v)) c = aI g c) ∧ gI (wF g 21 k (.int v)) 1 0 = gI g 1 0 := fun g k v hw hb hg => ⟨oS_wI hb List.mem_cons_self hg, fz_wF hw, gI_wF hb List.mem_cons_self hg, fun j hj => gI_wF_ne (fun e => hj e.2), fun c => aI_wF, gI_wF_ne (by omega)⟩
  obtain ⟨s1, f1, v1, o1, x1, z1⟩ := st h 4 (Int32.ofNat d) rfl rfl hS
  generalize wF h 21 4 (.int (Int32.ofNat d)) = h1 at s1 f1 v1 o1 x1 z1 ⊢
  rw [x1]
  obtain ⟨s2, f2, v2, o2, x2, z2⟩ := st h1 5 (aI h 10 d) rfl rfl s1
  generalize wF h1 21 5 (.int (aI h 10 d)) = h2 at s2 f2 v2 o2 x2 z2 ⊢
  rw [x2, x1]
  obtain ⟨s3, f3, v3, o3, x3, z3⟩ := st h2 6 (aI h 11 d) rfl rfl s2
  generalize wF h2 21 6 (.int (aI h 11 d)) = h3 at s3 f3 v3 o3 x3 z3 ⊢
  have y3 : ∀ c, aI h3 c = aI h c := fun c => (x3 c).trans ((x2 c).trans (x1 c))
  have hz3 : gI h3 1 0 = Int32.ofNat z := z3.trans (z2.trans (z1.trans hz))
  simp only [vl_deadOn hz3 z9, Option.bind_some, y3]
  obtain ⟨s4, f4, v4, o4, x4, z4⟩ := st h3 7 (bg (fun p => !px_cmp .lt (aI h 9 d) (aI h 6 p)) z) rfl rfl s3
  generalize wF h3 21 7 (.int (bg (fun p => !px_cmp .lt (aI h 9 d) (aI h 6 p)) z)) = h4 at s4 f4 v4 o4 x4 z4 ⊢
  have y4 : ∀ c, aI h4 c = aI h c := fun c => (x4 c).trans (y3 c)
  simp only [vl_indebtedOn (z4.trans hz3) z9, Option.bind_some, y4]
  obtain ⟨s5, f5, v5, o5, x5, z5⟩ := st h4 8 (bg (fun p => !px_cmp .ge (aI h 9 d) (aI h 3 p)) z) rfl rfl s4
  generalize wF h4 21 8 (.int (bg (fun p => !px_cmp .ge (aI h 9 d) (aI h 3 p)) z)) = h5 at s5 f5 v5 o5 x5 z5 ⊢
  have y5 : ∀ c, aI h5 c = aI h c := fun c => (x5 c).trans (y4 c)
  simp only [vl_awayOn (z5.trans (z4.trans hz3)) z9, Option.bind_some, y5]
  have e3 : gI h5 21 3 = gI h 21 3 := (o5 3 (by omega)).trans ((o4 3 (by omega)).trans ((o3 3 (by omega)).trans ((o2 3 (by omega)).trans (o1 3 (by omega)))))
  rw [e3]
  obtain ⟨s6, f6, v6, o6, x6, z6⟩ := st h5 9 (bg (fun p => !px_cmp .lt (aI h 9 d) (aI h 4 p) && !px_cmp .gt (aI h 9 d) (aI h 5 p)) z ||| gI h 21 3) rfl rfl s5
  generalize wF h5 21 9 (.int (bg (fun p => !px_cmp .lt (aI h 9 d) (aI h 4 p) && !px_cmp .gt (aI h 9 d) (aI h 5 p)) z ||| gI h 21 3)) = h6 at s6 f6 v6 o6 x6 z6 ⊢
  have y6 : ∀ c, aI h6 c = aI h c := fun c => (x6 c).trans (y5 c)
  obtain ⟨h', a1, a2, a3, a4⟩ := vl_ready_L z9 z 0 fu h6 (by omega) (fu_lt (by omega)) s6 (z6.trans (z5.trans (z4.trans hz3)))
  have b : ∀ k, gI h' 21 k = gI h6 21 k := fun k => fz_gI a3 rfl
  refine ⟨h', a1, a2, fz_tr f1 (fz_tr f2 (fz_tr f3 (fz_tr f4 (fz_tr f5 (fz_tr f6 (fz_mono a3 (fun _ _ _ => rfl) (fun c hc => hc))))))), ?_, ?_, ?_, ?_, ?_, ?_, fun q hq => ?_⟩
  · rw [b, o6 4 (by omega), o5 4 (by omega), o4 4 (by omega), o3 4 (by omega), o2 4 (by omega), v1]
  · rw [b, o6 5 (by omega), o5 5 (by omega), o4 5 (by omega), o3 5 (by omega), v2]
  · rw [b, o6 6 (by omega), o5 6 (by omega), o4 6 (by omega), v3]
  · rw [b, o6 7 (by omega), o5 7 (by omega), v4]
  · rw [b, o6 8 (by omega), v5]
  · rw [b, v6]
  · rw [a4 q, if_pos ⟨by omega, hq⟩, y6]
end sy_5
/-! the town, the rule -/
def TR (z dn : Nat) (hX hM : px_H) : Prop :=
  z ≤ 10 ∧ dn ≤ 6 ∧ gI hX 1 0 = Int32.ofNat z ∧ gI hM 69 3 = Int32.ofNat z ∧ gI hX 1 8 = Int32.ofNat dn ∧ gI hM 69 11 = Int32.ofNat dn ∧
  (∀ p, p < 10 → aI hX 2 p = aI hM 71 p ∧ aI hX 3 p = aI hM 72 p ∧ aI hX 6 p = aI hM 75 p ∧ awR (aI hX 4 p) (aI hX 5 p) (aI hM 73 p) (aI hM 74 p)) ∧
  (∀ b, b < 2 → aI hX 7 b = aI hM 76 b ∧ aI hX 8 b = aI hM 77 b ∧ sz z (aI hM 76 b)) ∧
  ∀ d, d < 6 → aI hX 9 d = aI hM 78 d ∧ aI hX 10 d = aI hM 79 d ∧ aI hX 11 d = aI hM 80 d ∧ 0 ≤ (aI hM 80 d).toInt ∧ ∃ b, b < 2 ∧ aI hM 79 d = Int32.ofNat b
def RR (rc r ln : Nat) (hX hM : px_H) : Prop :=
  ln ≤ 7 ∧ r < 4 ∧ gI hX rc 3 = Int32.ofNat ln ∧ aI hM 81 r = Int32.ofNat ln ∧ ∀ k, k < ln → kR (aI hX (gR hX rc 0) k) (aI hX (gR hX rc 1) k) (aI hM 83 (7 * r + k)) ∧ fR (aI hX (gR hX rc 2) k) (aI hM 84 (7 * r + k))
theorem aw_eq {f t f' t' day : Int32} (h : awR f t f' t') : (!px_cmp .lt day f && !px_cmp .gt day t) = !px_cmp .eq (sx_in day.toInt64 f'.toInt64 t'.toInt64) 0 := by
  have e : (!px_cmp .eq (sx_in day.toInt64 f'.toInt64 t'.toInt64) 0) = decide (f'.toInt ≤ day.toInt ∧ day.toInt ≤ t'.toInt) := by
    unfold sx_in
    rw [Int32.toInt_toInt64, Int32.toInt_toInt64, Int32.toInt_toInt64]
    by_cases h9 : f'.toInt ≤ day.toInt ∧ day.toInt ≤ t'.toInt
    · rw [if_pos h9, decide_eq_true h9]; decide
    · rw [if_neg h9, decide_eq_false h9]; decide
  rw [e, Bool.eq_iff_iff]
  simp only [px_cmp, Bool.and_eq_true, Bool.not_eq_true', decide_eq_false_iff_not, decide_eq_true_eq, gt_iff_lt, Int32.lt_iff_toInt_lt]
  rcases h with ⟨rfl, rfl⟩ | ⟨rfl, rfl, rfl, rfl⟩
  · omega
  · rw [show (Int32.ofInt 1).toInt = 1 from by decide, show (Int32.ofInt 0).toInt = 0 from by decide, show (Int32.ofInt (-1)).toInt = -1 from by decide]
    omega
theorem sim_ready {z dn d ln r rc : Nat} {hX hM : px_H} (hT : TR z dn hX hM) (hR : RR rc r ln hX hM) (hS : oS hX) (hrc : rc ∈ ruls) (h1 : gR hX 21 1 = rc) (hr : gI hM 69 15 = Int32.ofNat r) (habs : ∀ p, p < z → ib (gI hX 21 3) p = ib (gI hM 69 20) p) (hd : d < dn) :
    ∃ (h' : px_H) (b : Nat) (K S F kn : Nat → Int32) (ow aw dd : Int32), fn_Course_ready (Int32.ofNat d) hX = some h' ∧ oS h' ∧ fz WR V27 hX h' ∧ CE z d ln K S F kn ow aw dd h' ∧ EN z d ln r b K S F kn ow aw dd hM ∧ gI h' 21 5 = Int32.ofNat b ∧ gI h' 21 6 = aI hM 80 d := by
  obtain ⟨z9, d6, t1, t2, t3, t4, tp, tb, td⟩ := hT
  obtain ⟨l7, r4, r1, r2, r3⟩ := hR
  obtain ⟨h', a1, a2, a3, a4, a5, a6, a7, a8, a9, a10⟩ := vl_ready hS t1 z9 t3 d6 hd
  obtain ⟨dd1, dd2, dd3, dd4, b, b2, hb⟩ := td d (by omega)
  have nr : ∀ k, k < 4 → WR rc k = false := by
    intro k hk
    have : ruls.all (fun c => (List.range 4).all (fun k => !WR c k)) = true := by decide
    have := List.all_eq_true.mp (List.all_eq_true.mp this rc hrc) k (List.mem_range.mpr hk)
    simpa using this
  have g1 : gR h' 21 1 = rc := (fz_gR a3 rfl).trans h1
  have na : ∀ k, k < 3 → V27 (gR hX rc k) = false := by
    intro k hk
    have hmem : ∀ k, k < 3 → gR hX rc k ∈ [15, 16, 17, 23, 24, 25, 55, 56, 57, 59, 60, 61, 63, 64, 65] := by
      intro k hk
      match k, hk with
      | 0, _ => exact (bR_ok (cs := ruls) (ci := 3) (k := 0) (ds := [15, 16, 17, 23, 24, 25, 55, 56, 57, 59, 60, 61, 63, 64, 65]) rfl hrc hS).choose_spec.2.2
      | 1, _ => exact (bR_ok (cs := ruls) (ci := 3) (k := 1) (ds := [15, 16, 17, 23, 24, 25, 55, 56, 57, 59, 60, 61, 63, 64, 65]) rfl hrc hS).choose_spec.2.2
      | 2, _ => exact (bR_ok (cs := ruls) (ci := 3) (k := 2) (ds := [15, 16, 17, 23, 24, 25, 55, 56, 57, 59, 60, 61, 63, 64, 65]) rfl hrc hS).choose_spec.2.2
      | k + 3, h => omega
    have : [15, 16, 17, 23, 24, 25, 55, 56, 57, 59, 60, 61, 63, 64, 65].all (fun c => !V27 c) = true := by decide
    have := List.all_eq_true.mp this _ (hmem k hk)
    simpa using this
  refine ⟨h', b, aI hX (gR hX rc 0), aI hX (gR hX rc 1), aI hX (gR hX rc 2), aI h' 27, gI h' 21 8, gI h' 21 9, gI h' 21 7, a1, a2, a3, ⟨(fz_gI a3 rfl).trans t1, a4, ?_, ?_, ?_, ?_, rfl, rfl, rfl, rfl⟩, ⟨z9, by omega, l7, r4, b2, ⟨t2, hr, r2⟩, hb, r3, fun p hp => ?_⟩, by rw [a5, dd2]; exact hb, by rw [a6, dd3]⟩
  · rw [g1, fz_gI a3 (nr 3 (by omega))]; exact r1
  · rw [g1, fz_gR a3 (nr 0 (by omega)), (a3.2 _ (na 0 (by omega))).1]
  · rw [g1, fz_gR a3 (nr 1 (by omega)), (a3.2 _ (na 1 (by omega))).1]
  · rw [g1, fz_gR a3 (nr 2 (by omega)), (a3.2 _ (na 2 (by omega))).1]
  · obtain ⟨p1, p2, p3, p4⟩ := tp p (by omega)
    have hdp : decide (p < z) = true := by simp only [decide_eq_true_eq]; exact hp
    refine ⟨?_, ?_, ?_, fun q hq => ?_⟩
    · rw [a7, bg_ib _ _ _ z9, hdp, Bool.true_and, dd1, p3]
      rfl
    · rw [a8, bg_ib _ _ _ z9, hdp, Bool.true_and, dd1, p2]
    · rw [a9, ib_or, bg_ib _ _ _ z9, hdp, Bool.true_and, dd1, aw_eq p4, habs p hp, Bool.or_comm]
    · rw [a10 q hq, bg_ib _ _ _ z9, hdp, Bool.true_and, p1, (tp q (by omega)).1]
end mg_2

section mg_3
/-! run on both sides -/
theorem cb_add {f : Nat → Bool} {p : Nat} (hf : f p = false) : ∀ n : Nat, cb (fun i => f i || (true && decide (i = p))) n = cb f n + (if p < n then 1 else 0)
  | 0 => rfl
  | n + 1 => by
    have ih := cb_add hf n
    show cb (fun i => f i || (true && decide (i = p))) n + (bif (f n || (true && decide (n = p))) then 1 else 0) = cb f n + (bif f n then 1 else 0) + (if p < n + 1 then 1 else 0)
    rw [ih]
    by_cases h : n = p
    · subst h
      rw [hf, if_neg (Nat.lt_irrefl _), if_pos (Nat.lt_succ_self _)]
      simp
    · rw [show decide (n = p) = false from by simp only [decide_eq_false_iff_not]; exact h, Bool.and_false, Bool.or_false]
      by_cases h1 : p < n
      · rw [if_pos h1, if_pos (by omega)]; omega
      · rw [if_neg h1, if_neg (by omega)]; omega
theorem cb_sub {f : Nat → Bool} {p : Nat} (hf : f p = true) : ∀ n : Nat, cb (fun i => f i && !decide (i = p)) n + (if p < n then 1 else 0) = cb f n
  | 0 => rfl
  | n + 1 => by
    have ih := cb_sub hf n
    show cb (fun i => f i && !decide (i = p)) n + (bif (f n && !decide (n = p)) then 1 else 0) + (if p < n + 1 then 1 else 0) = cb f n + (bif f n then 1 else 0)
    rw [← ih]
    by_cases h : n = p
    · subst h
      rw [hf, if_neg (Nat.lt_irrefl _), if_pos (Nat.lt_succ_self _)]
      simp
    · rw [show decide (n = p) = false from by simp only [decide_eq_false_iff_not]; exact h, Bool.not_false, Bool.and_true]
      by_cases h1 : p < n
      · rw [if_pos h1, if_pos (by omega)]; omega
      · rw [if_neg h1, if_neg (by omega)]; omega
/-! the rows that are told -/
def WT (c k : Nat) : Bool := Nat.beq c 48 && Nat.beq k 1
def VT (c : Nat) : Bool := Nat.beq c 49
def WE (c k : Nat) : Bool := Nat.beq c 69 && Nat.beq k 1
def VE (c : Nat) : Bool := Nat.beq c 70
theorem vl_tell {h : px_H} {s : Nat} (hS : oS h) (hs : gI h 48 1 = Int32.ofNat s) (s13 : s < 13) (x : Int64) : ∃ h', fn_Row_tell x h = some h' ∧ oS h' ∧ fz WT VT h h' ∧ gI h' 48 1 = Int32.ofNat (s + 1) ∧ aL h' 49 = vp_updL (aL h 49) s x := by
  unfold fn_Row_tell
  simp only [hs, show (Int8.ofInt 13).toInt32 = Int32.ofNat 13 from by decide, ge_f s13 (by omega), nm_inR s 13 s13 (by omega), nm_ofNat_clamp s (by omega), cond_true, cond_false, sb]
  have hS1 : oS (uL h 49 s x) := oS_uL (cs := [49]) (t := 5) (n := 13) rfl List.mem_cons_self hS
  have x1 : aL (uL h 49 s x) 49 = vp_updL (aL h 49) s x := aL_uL (cs := [49]) (t := 5) (n := 13) rfl List.mem_cons_self hS
  have e1 : gI (uL h 49 s x) 48 1 = Int32.ofNat s := gI_uL.trans hs
  rw [e1, inc1]
  refine ⟨wF (uL h 49 s x) 48 1 (.int (Int32.ofNat (s + 1))), rfl, oS_wI (cs := [48]) (ci := 2) rfl List.mem_cons_self hS1, fz_tr (fz_uL rfl) (fz_wF rfl), gI_wF (cs := [48]) (ci := 2) rfl List.mem_cons_self hS1, aL_wF.trans x1⟩
theorem vl_enters {h : px_H} {s : Nat} (hS : oS h) (hs : gI h 69 1 = Int32.ofNat s) (s64 : s < 64) (x : Int64) : ∃ h', fn_M_enters x h = some h' ∧ oS h' ∧ fz WE VE h h' ∧ gI h' 69 1 = Int32.ofNat (s + 1) ∧ aL h' 70 = vp_updL (aL h 70) s x := by
  unfold fn_M_enters
  simp only [hs, nm_inR s 64 s64 (by omega), nm_ofNat_clamp s (by omega), cond_true, sb]
  have hS1 : oS (uL h 70 s x) := oS_uL (cs := [70]) (t := nr_row) (n := 64) rfl List.mem_cons_self hS
  have x1 : aL (uL h 70 s x) 70 = vp_updL (aL h 70) s x := aL_uL (cs := [70]) (t := nr_row) (n := 64) rfl List.mem_cons_self hS
  have e1 : gI (uL h 70 s x) 69 1 = Int32.ofNat s := gI_uL.trans hs
  rw [e1, inc1]
  refine ⟨wF (uL h 70 s x) 69 1 (.int (Int32.ofNat (s + 1))), rfl, oS_wI (cs := [69]) (ci := 9) rfl List.mem_cons_self hS1, fz_tr (fz_uL rfl) (fz_wF rfl), gI_wF (cs := [69]) (ci := 9) rfl List.mem_cons_self hS1, aL_wF.trans x1⟩
/-- the class tells what was drawn -/
theorem vl_run_t {dr many : Nat} (d10 : dr ≤ 10) (m3 : many ≤ 3) (v2 : Int32) : ∀ (m i n : Nat) (h : px_H), i + m = dr → m < n → oS h → gI h 48 1 = Int32.ofNat (many + i) → ∃ h2, oS h2 ∧ fz WT VT h h2 ∧ gI h2 48 1 = Int32.ofNat (many + dr) ∧ (∀ j, aL h2 49 j = if many + i ≤ j ∧ j < many + dr then (aI h 50 (j - many)).toInt64 else aL h 49 j) ∧ fn_X_run_L155 (Int32.ofNat dr) v2 n (Int32.ofNat i) h = ((fn_Chest_close 19 h2).bind fun q => some (v2, wF q 19 2 (.int ((gI q 19 2) + (Int32.ofInt 1))))) := by
  intro m
  induction m with
  | zero =>
    intro i n h hm hn hS hs
    obtain ⟨n, rfl⟩ : ∃ k, n = k + 1 := ⟨n - 1, by omega⟩
    have : i = dr := by omega
    subst this
    refine ⟨h, hS, fz_rf, hs, fun j => by rw [if_neg (by omega)], ?_⟩
    show fb_X_run_L155 (Int32.ofNat i) v2 (fn_X_run_L155 (Int32.ofNat i) v2 n) (Int32.ofNat i) h = _
    unfold fb_X_run_L155
    rw [ge_t]
    rfl
  | succ m ih =>
    intro i n h hm hn hS hs
    obtain ⟨n, rfl⟩ : ∃ k, n = k + 1 := ⟨n - 1, by omega⟩
    obtain ⟨h1, a1, a2, a3, a4, a5⟩ := vl_tell hS hs (by omega) (aI h 50 i).toInt64
    obtain ⟨h2, b1, b2, b3, b4, b5⟩ := ih (i + 1) n h1 (by omega) (by omega) a2 a4
    refine ⟨h2, b1, fz_tr a3 b2, b3, fun j => ?_, ?_⟩
    · rw [b4 j, a5, (a3.2 50 rfl).1]
      simp only [vp_updL]
      by_cases e : j = many + i
      · rw [if_neg (by omega), if_pos e, if_pos (by omega), show j - many = i from by omega]
      · rw [if_neg e]
        by_cases e2 : many + (i + 1) ≤ j ∧ j < many + dr
        · rw [if_pos e2, if_pos (by omega)]
        · rw [if_neg e2, if_neg (by omega)]
    · show fb_X_run_L155 (Int32.ofNat dr) v2 (fn_X_run_L155 (Int32.ofNat dr) v2 n) (Int32.ofNat i) h = _
      unfold fb_X_run_L155
      rw [ge_f (show i < dr by omega) (by omega), nm_inR i 10 (by omega) (by omega), nm_ofNat_clamp i (by omega), a1, inc1]
      exact b5
/-- the model tells them -/
theorem vl_Mrun_t {dr many : Nat} (d10 : dr ≤ 10) (m3 : many ≤ 3) : ∀ (m i n : Nat) (h : px_H), i + m = dr → m < n → oS h → gI h 69 1 = Int32.ofNat (many + i) → ∃ h2, oS h2 ∧ fz WE VE h h2 ∧ gI h2 69 1 = Int32.ofNat (many + dr) ∧ (∀ j, aL h2 70 j = if many + i ≤ j ∧ j < many + dr then (aI h 92 (j - many)).toInt64 else aL h 70 j) ∧ fn_M_run_L144 (Int32.ofNat many) (Int32.ofNat dr) n (Int32.ofNat i) h = some (Int32.ofNat many, h2) := by
  intro m
  induction m with
  | zero =>
    intro i n h hm hn hS hs
    obtain ⟨n, rfl⟩ : ∃ k, n = k + 1 := ⟨n - 1, by omega⟩
    have : i = dr := by omega
    subst this
    refine ⟨h, hS, fz_rf, hs, fun j => by rw [if_neg (by omega)], ?_⟩
    show fb_M_run_L144 (Int32.ofNat many) (Int32.ofNat i) (fn_M_run_L144 (Int32.ofNat many) (Int32.ofNat i) n) (Int32.ofNat i) h = _
    unfold fb_M_run_L144
    rw [ge_t]
    rfl
  | succ m ih =>
    intro i n h hm hn hS hs
    obtain ⟨n, rfl⟩ : ∃ k, n = k + 1 := ⟨n - 1, by omega⟩
    obtain ⟨h1, a1, a2, a3, a4, a5⟩ := vl_enters hS hs (by omega) (aI h 92 i).toInt64
    obtain ⟨h2, b1, b2, b3, b4, b5⟩ := ih (i + 1) n h1 (by omega) (by omega) a2 a4
    refine ⟨h2, b1, fz_tr a3 b2, b3, fun j => ?_, ?_⟩
    · rw [b4 j, a5, (a3.2 92 rfl).1]
      simp only [vp_updL]
      by_cases e : j = many + i
      · rw [if_neg (by omega), if_pos e, if_pos (by omega), show j - many = i from by omega]
      · rw [if_neg e]
        by_cases e2 : many + (i + 1) ≤ j ∧ j < many + dr
        · rw [if_pos e2, if_pos (by omega)]
        · rw [if_neg e2, if_neg (by omega)]
    · show fb_M_run_L144 (Int32.ofNat many) (Int32.ofNat dr) (fn_M_run_L144 (Int32.ofNat many) (Int32.ofNat dr) n) (Int32.ofNat i) h = _
      unfold fb_M_run_L144
      rw [ge_f (show i < dr by omega) (by omega), nm_inR i 10 (by omega) (by omega), nm_ofNat_clamp i (by omega), a1, inc1]
      exact b5
theorem vl_Mrun_s {dr many : Nat} (d10 : dr ≤ 10) (m3 : many ≤ 3) : ∀ (m i n : Nat) (h : px_H), i + m = many → m < n → oS h → gI h 69 1 = Int32.ofNat i → ∃ h2, oS h2 ∧ fz WE VE h h2 ∧ gI h2 69 1 = Int32.ofNat (many + dr) ∧ (∀ j, j < i → aL h2 70 j = aL h 70 j) ∧ (∀ j, i ≤ j → j < many → aL h2 70 j = (aI h 91 j).toInt64) ∧ (∀ j, j < dr → aL h2 70 (many + j) = (aI h 92 j).toInt64) ∧ fn_M_run_L117 (Int32.ofNat many) (Int32.ofNat dr) n (Int32.ofNat i) h = some (Int32.ofNat many, h2) := by
  intro m
  induction m with
  | zero =>
    intro i n h hm hn hS hs
    obtain ⟨n, rfl⟩ : ∃ k, n = k + 1 := ⟨n - 1, by omega⟩
    have : i = many := by omega
    subst this
    obtain ⟨h2, b1, b2, b3, b4, b5⟩ := vl_Mrun_t d10 m3 dr 0 fu h (by omega) (fu_lt (by omega)) hS hs
    refine ⟨h2, b1, b2, b3, fun j hj => by rw [b4 j, if_neg (by omega)], fun j h1 h2 => by omega, fun j hj => by rw [b4 (i + j), if_pos (by omega), show i + j - i = j from by omega], ?_⟩
    show fb_M_run_L117 (Int32.ofNat i) (Int32.ofNat dr) (fn_M_run_L117 (Int32.ofNat i) (Int32.ofNat dr) n) (Int32.ofNat i) h = _
    unfold fb_M_run_L117
    rw [ge_t]
    exact b5
  | succ m ih =>
    intro i n h hm hn hS hs
    obtain ⟨n, rfl⟩ : ∃ k, n = k + 1 := ⟨n - 1, by omega⟩
    obtain ⟨h1, a1, a2, a3, a4, a5⟩ := vl_enters hS hs (by omega) (aI h 91 i).toInt64
    obtain ⟨h2, b1, b2, b3, b4, b5, b6, b7⟩ := ih (i + 1) n h1 (by omega) (by omega) a2 a4
    refine ⟨h2, b1, fz_tr a3 b2, b3, fun j hj => ?_, fun j h1 h2 => ?_, fun j hj => by rw [b6 j hj, (a3.2 92 rfl).1], ?_⟩
    · rw [b4 j (by omega), a5]
      simp only [vp_updL]
      rw [if_neg (by omega)]
    · by_cases e : j = i
      · subst e
        rw [b4 j (by omega), a5]
        simp only [vp_updL, if_true]
      · rw [b5 j (by omega) h2, (a3.2 91 rfl).1]
    · show fb_M_run_L117 (Int32.ofNat many) (Int32.ofNat dr) (fn_M_run_L117 (Int32.ofNat many) (Int32.ofNat dr) n) (Int32.ofNat i) h = _
      unfold fb_M_run_L117
      rw [ge_f (show i < many by omega) (by omega), nm_inR i 3 (by omega) (by omega), nm_ofNat_clamp i (by omega), a1, inc1]
      exact b7
/-- the numbers told last are the same -/
def RW (hX hM : px_H) : Prop := ∃ s, s ≤ 13 ∧ gI hX 48 1 = Int32.ofNat s ∧ gI hM 69 1 = Int32.ofNat s ∧ ∀ i, i < s → aL hX 49 i = aL hM 70 i
section sy_6
variable {z d b ln r s : Nat} {K S F kn : Nat → Int32} {ow aw dd : Int32}
def Wa (a k : Nat) : Bool := Nat.beq a 0 && Nat.beq k 11
def V50 (a : Nat) : Bool := Nat.beq a 50
def WX (a k : Nat) : Bool := Wc 19 a k || (W3 a k || (Wa a k || WT a k))
def VX (a : Nat) : Bool := VT a || V50 a
theorem wx_1 {c k : Nat} (h : WX c k = false) : Wc 19 c k = false ∧ W3 c k = false ∧ Wa c k = false ∧ WT c k = false := by
  unfold WX at h
  simpa only [Bool.or_eq_false_iff] using h
theorem vx_1 {c : Nat} (h : VX c = false) : VT c = false ∧ V50 c = false := by
  unfold VX at h
  simpa only [Bool.or_eq_false_iff] using h
theorem CE_x {hX hX' : px_H} (hS : oS hX) (hE : CE z d ln K S F kn ow aw dd hX) (a : fz WX VX hX hX') : CE z d ln K S F kn ow aw dd hX' := by
  obtain ⟨e1, e2, e3, e4, e5, e6, e7, e8, e9, e10⟩ := hE
  have hr := rl_mem hS
  have r : gR hX' 21 1 = gR hX 21 1 := fz_gR a rfl
  have nr : ∀ k, k < 4 → WX (gR hX 21 1) k = false := by
    intro k hk
    have : ruls.all (fun c => (List.range 4).all (fun k => !WX c k)) = true := by decide
    have := List.all_eq_true.mp (List.all_eq_true.mp this _ hr) k (List.mem_range.mpr hk)
    simpa using this
  have hmem : ∀ k, k < 3 → gR hX (gR hX 21 1) k ∈ [15, 16, 17, 23, 24, 25, 55, 56, 57, 59, 60, 61, 63, 64, 65] := by
    intro k hk
    match k, hk with
    | 0, _ => exact (bR_ok (cs := ruls) (ci := 3) (k := 0) (ds := [15, 16, 17, 23, 24, 25, 55, 56, 57, 59, 60, 61, 63, 64, 65]) rfl hr hS).choose_spec.2.2
    | 1, _ => exact (bR_ok (cs := ruls) (ci := 3) (k := 1) (ds := [15, 16, 17, 23, 24, 25, 55, 56, 57, 59, 60, 61, 63, 64, 65]) rfl hr hS).choose_spec.2.2
    | 2, _ => exact (bR_ok (cs := ruls) (ci := 3) (k := 2) (ds := [15, 16, 17, 23, 24, 25, 55, 56, 57, 59, 60, 61, 63, 64, 65]) rfl hr hS).choose_spec.2.2
    | k + 3, h => omega
  have na : ∀ k, k < 3 → VX (gR hX (gR hX 21 1) k) = false := by
    intro k hk
    have : [15, 16, 17, 23, 24, 25, 55, 56, 57, 59, 60, 61, 63, 64, 65].all (fun c => !VX c) = true := by decide
    have := List.all_eq_true.mp this _ (hmem k hk)
    simpa using this
  refine ⟨(fz_gI a rfl).trans e1, (fz_gI a rfl).trans e2, ?_, ?_, ?_, ?_, (a.2 27 rfl).1.trans e7, (fz_gI a rfl).trans e8, (fz_gI a rfl).trans e9, (fz_gI a rfl).trans e10⟩
  · rw [r, fz_gI a (nr 3 (by omega))]; exact e3
  · rw [r, fz_gR a (nr 0 (by omega)), (a.2 _ (na 0 (by omega))).1]; exact e4
  · rw [r, fz_gR a (nr 1 (by omega)), (a.2 _ (na 1 (by omega))).1]; exact e5
  · rw [r, fz_gR a (nr 2 (by omega)), (a.2 _ (na 2 (by omega))).1]; exact e6
def W37 (c k : Nat) : Bool := Nat.beq c 69 && Nat.beq k 37
def V91 (c : Nat) : Bool := Nat.beq c 91
def V92 (c : Nat) : Bool := Nat.beq c 92
def WMr (c k : Nat) : Bool := WM c k || (W37 c k || (WE c k || Nat.beq c 69 && (Nat.beq k 0 || Nat.beq k 31)))
def VMr (c : Nat) : Bool := VM c || (V91 c || (V92 c || VE c))
theorem wm_1 {c k : Nat} (h : WMr c k = false) : WM c k = false ∧ W37 c k = false ∧ WE c k = false := by
  unfold WMr at h
  simp only [Bool.or_eq_false_iff] at h
  exact ⟨h.1, h.2.1, h.2.2.1⟩
theorem vm_1 {c : Nat} (h : VMr c = false) : VM c = false ∧ V91 c = false ∧ V92 c = false ∧ VE c = false := by
  unfold VMr at h
  simpa only [Bool.or_eq_false_iff] using h
theorem EN_m {hM hM' : px_H} (hN : EN z d ln r b K S F kn ow aw dd hM) (a : fz WMr VMr hM hM') : EN z d ln r b K S F kn ow aw dd hM' := by
  obtain ⟨z9, d6, l7, r4, b2, ⟨e1, e2, e3⟩, hb, hR, hP⟩ := hN
  refine ⟨z9, d6, l7, r4, b2, ⟨(fz_gI a rfl).trans e1, (fz_gI a rfl).trans e2, by rw [(a.2 81 rfl).1]; exact e3⟩, by rw [(a.2 79 rfl).1]; exact hb, fun k hk => by rw [(a.2 83 rfl).1, (a.2 84 rfl).1]; exact hR k hk, fun p hp => ?_⟩
  unfold mDead
  rw [(a.2 78 rfl).1, (a.2 75 rfl).1, (a.2 72 rfl).1, (a.2 73 rfl).1, (a.2 74 rfl).1, (a.2 71 rfl).1, fz_gI a (c := 69) (k := 20) rfl]
  exact hP p hp
/-- what holds while slips are drawn -/
def LI (z d b ln r s : Nat) (K S F kn : Nat → Int32) (ow aw dd : Int32) (many dr : Nat) (hX hM : px_H) : Prop :=
  oS hX ∧ oS hM ∧ CE z d ln K S F kn ow aw dd hX ∧ EN z d ln r b K S F kn ow aw dd hM ∧ DR z d b 19 hX hM ∧ gI hX 21 5 = Int32.ofNat b ∧ gI hX 21 6 = aI hM 80 d ∧ aI hM 80 d = Int32.ofNat s ∧ gI hX 0 11 = gI hM 69 37 ∧ gI hX 48 1 = Int32.ofNat many ∧ nm_bc (gI hM 69 33) = Int32.ofNat many ∧ gI hX 19 2 = Int32.ofNat d ∧
  (∀ i, i < many → aL hX 49 i = (aI hM 91 i).toInt64) ∧ ∀ i, i < dr → aI hX 50 i = aI hM 92 i
end sy_6
end mg_3

section mg_4
/-! the run itself -/
theorem cmp_b01 (t : Bool) : px_cmp .eq (b01 t) 0 = !t := by cases t <;> decide
theorem cmp_b01n (t : Bool) : px_cmp .ne (b01 t) 0 = t := by cases t <;> decide
theorem ofNat_inj' {a b : Nat} (ha : a < 2147483648) (hb : b < 2147483648) (h : Int32.ofNat a = Int32.ofNat b) : a = b := by
  have := congrArg Int32.toInt h
  rw [nm_ofNat_toInt a ha, nm_ofNat_toInt b hb] at this
  omega
section sy_7
variable {z d b ln r s : Nat} {K S F kn : Nat → Int32} {ow aw dd : Int32}
def RunE (z d : Nat) (mx : Nat) (hX' hM' : px_H) : Prop := mx ≤ 3 ∧ oS hX' ∧ oS hM' ∧ CL z (d + 1) 19 hX' hM' ∧ gI hM' 69 31 = Int32.ofNat (d + 1) ∧ gI hX' 19 2 = Int32.ofNat (d + 1) ∧ gI hX' 0 11 = gI hM' 69 37 ∧ RW hX' hM'
theorem fin_run {many dr : Nat} {hX hM : px_H} (m3 : many ≤ 3) (d10 : dr ≤ 10) (hL : LI z d b ln r s K S F kn ow aw dd many dr hX hM) :
    ∃ hX' hM', fn_X_run_L155 (Int32.ofNat dr) (gI hX 48 1) fu (Int32.ofInt 0) hX = some (Int32.ofNat many, hX') ∧ ((fn_M_closes (Int32.ofNat d) hM).bind fun q12 => sb (wF q12 69 1 (.int (Int32.ofInt 0))) fun h16 => fn_M_run_L117 (Int32.ofNat many) (Int32.ofNat dr) fu (Int32.ofInt 0) h16) = some (Int32.ofNat many, hM') ∧ RunE z d many hX' hM' := by
  obtain ⟨oX, oM, hE, hN, hD, e5, e6, es, er, e1, ebc, e2, hrow, hsl⟩ := hL
  obtain ⟨h2, b1, b2, b3, b4, b5⟩ := vl_run_t d10 m3 (Int32.ofNat many) dr 0 fu hX (by omega) (fu_lt (by omega)) oX e1
  have hD2 : DR z d b 19 h2 hM := DR_eq hD (fz_gL b2 rfl) (fz_gI b2 rfl) rfl rfl rfl rfl rfl
  obtain ⟨h3, g3, c1, c2, c3, c4, c5, c6, c7, c8, -⟩ := sim_close hN (c := 19) (by decide) b1 oM ((fz_gI b2 rfl).trans e5) hD2
  have n3 : gI h3 19 2 = Int32.ofNat d := (fz_gI c3 rfl).trans ((fz_gI b2 rfl).trans e2)
  have oX4 : oS (wF h3 19 2 (.int (Int32.ofNat (d + 1)))) := oS_wI (cs := [19]) (ci := 0) rfl List.mem_cons_self c2
  have oM4 : oS (wF g3 69 1 (.int (Int32.ofInt 0))) := oS_wI (cs := [69]) (ci := 9) rfl List.mem_cons_self c5
  have r0 : gI (wF g3 69 1 (.int (Int32.ofInt 0))) 69 1 = Int32.ofNat 0 := gI_wF (cs := [69]) (ci := 9) rfl List.mem_cons_self c5
  obtain ⟨g5, k1, k2, k3, -, k5, k6, k7⟩ := vl_Mrun_s d10 m3 many 0 fu _ (by omega) (fu_lt (by omega)) oM4 r0
  have w31 : gI (wF g3 69 1 (.int (Int32.ofInt 0))) 69 31 = gI g3 69 31 := gI_wF_ne (by decide)
  have w32 : gI (wF g3 69 1 (.int (Int32.ofInt 0))) 69 32 = gI g3 69 32 := gI_wF_ne (by decide)
  have w33 : gI (wF g3 69 1 (.int (Int32.ofInt 0))) 69 33 = gI g3 69 33 := gI_wF_ne (by decide)
  have w37 : gI (wF g3 69 1 (.int (Int32.ofInt 0))) 69 37 = gI g3 69 37 := gI_wF_ne (by decide)
  have wa : ∀ c, aI (wF g3 69 1 (.int (Int32.ofInt 0))) c = aI g3 c := fun c => aI_wF
  generalize hg4 : wF g3 69 1 (.int (Int32.ofInt 0)) = g4 at oM4 r0 k2 k5 k6 k7 w31 w32 w33 w37 wa
  refine ⟨wF h3 19 2 (.int (Int32.ofNat (d + 1))), g5, ?_, ?_, m3, oX4, k1, ?_, ?_, gI_wF (cs := [19]) (ci := 0) rfl List.mem_cons_self c2, ?_, many + dr, by omega, ?_, k3, fun i hi => ?_⟩
  · rw [e1]
    refine Eq.trans b5 ?_
    rw [c1]
    show some (Int32.ofNat many, wF h3 19 2 (.int ((gI h3 19 2) + (Int32.ofInt 1)))) = _
    rw [n3, inc1]
  · rw [c4]
    show fn_M_run_L117 (Int32.ofNat many) (Int32.ofNat dr) fu (Int32.ofInt 0) (wF g3 69 1 (.int (Int32.ofInt 0))) = _
    rw [hg4]
    exact k7
  · refine CL_eq c8 (gL_wF_ne (by decide)) (gI_wF_ne (by decide)) ?_ ?_ ?_ ?_ ?_
    · rw [(k2.2 88 rfl).1, wa]
    · rw [(k2.2 89 rfl).1, wa]
    · rw [(k2.2 90 rfl).1, wa]
    · rw [fz_gI k2 rfl, w32]
    · rw [fz_gI k2 rfl, w33]
  · rw [fz_gI k2 rfl, w31]; exact c7
  · rw [gI_wF_ne (by decide), fz_gI c3 rfl, fz_gI b2 rfl, er, fz_gI k2 rfl, w37, fz_gI c6 rfl]
  · rw [gI_wF_ne (by decide), fz_gI c3 rfl]; exact b3
  · rw [aL_wF, (c3.2 49 rfl).2, b4 i]
    by_cases e : i < many
    · rw [if_neg (by omega), k5 i (by omega) e, hrow i e, wa, (c6.2 91 rfl).1]
    · rw [if_pos (by omega), show many + 0 = many from rfl] at *
      have := k6 (i - many) (by omega)
      rw [show many + (i - many) = i from by omega] at this
      rw [this, hsl (i - many) (by omega), wa, (c6.2 92 rfl).1]
set_option maxRecDepth 20000 in
theorem sim_run (s3 : s ≤ 3) : ∀ (m many dr n n' : Nat) (hX hM : px_H), cb (ib (aI hM 88 b)) 10 = m → dr + m ≤ 10 → m < n → m < n' → many ≤ s → LI z d b ln r s K S F kn ow aw dd many dr hX hM →
    ∃ (mx : Nat) (hX' hM' : px_H), fn_X_run_L33 n (Int32.ofNat dr) hX = some (Int32.ofNat mx, hX') ∧ fn_M_run_L32 (Int32.ofNat d) n' (Int32.ofNat many) (Int32.ofNat dr) hM = some (Int32.ofNat mx, hM') ∧ RunE z d mx hX' hM' := by
  intro m
  induction m with
  | zero =>
    intro many dr n n' hX hM hm hdr hn hn' hms hL
    obtain ⟨n, rfl⟩ : ∃ k, n = k + 1 := ⟨n - 1, by omega⟩
    obtain ⟨n', rfl⟩ : ∃ k, n' = k + 1 := ⟨n' - 1, by omega⟩
    obtain ⟨hX', hM', f1, f2, f3⟩ := fin_run (by omega) (by omega) hL
    obtain ⟨oX, oM, hE, hN, hD, e5, e6, es, er, e1, ebc, e2, hrow, hsl⟩ := hL
    have hN0 := hN
    obtain ⟨z9, d6, l7, r4, b2, hME, hb, hR, hP⟩ := hN
    have s8 : sm (aI hM 88 b) := sz_sm z9 (hD.2.2.1 b b2).1
    have hz0 : px_cmp .eq (aI hM 88 b) 0 = true := (eq0_iff s8).mpr (fun i hi => by
      cases hb9 : ib (aI hM 88 b) i with
      | false => rfl
      | true => exact absurd (cb_pos hi hb9) (by omega))
    have hov := over_eq hD b2 e6 (by rw [ebc, es, nm_ofNat_toInt _ (by omega), nm_ofNat_toInt _ (by omega)]; omega)
    refine ⟨many, hX', hM', ?_, ?_, f3⟩
    · show fb_X_run_L33 (fn_X_run_L33 n) (Int32.ofNat dr) hX = _
      unfold fb_X_run_L33
      rw [vl_isOver e5, hov, hz0, Bool.true_or, Option.bind_some, cmp_b01n, f1]
      cases px_cmp .ge (Int32.ofNat dr) (Int8.ofInt 10).toInt32 <;> rfl
    · show fb_M_run_L32 (Int32.ofNat d) (fn_M_run_L32 (Int32.ofNat d) n') (Int32.ofNat many) (Int32.ofNat dr) hM = _
      unfold fb_M_run_L32
      rw [vl_MisOver d6 hb b2, hz0, Bool.true_or, Option.bind_some, cmp_b01n, cond_true]
      exact f2
  | succ m ih =>
    intro many dr n n' hX hM hm hdr hn hn' hms hL
    obtain ⟨n, rfl⟩ : ∃ k, n = k + 1 := ⟨n - 1, by omega⟩
    obtain ⟨n', rfl⟩ : ∃ k, n' = k + 1 := ⟨n' - 1, by omega⟩
    obtain ⟨fX, fM, f1, f2, f3⟩ := fin_run (by omega) (by omega) hL
    obtain ⟨oX, oM, hE, hN, hD, e5, e6, es, er, e1, ebc, e2, hrow, hsl⟩ := hL
    have hN0 := hN
    obtain ⟨z9, d6, l7, r4, b2, hME, hb, hR, hP⟩ := hN
    have hov := over_eq hD b2 e6 (by rw [ebc, es, nm_ofNat_toInt _ (by omega), nm_ofNat_toInt _ (by omega)]; omega)
    have s8 : sm (aI hM 88 b) := sz_sm z9 (hD.2.2.1 b b2).1
    have db := (DR_b b2 hD).1
    show ∃ (mx : Nat) (hX' hM' : px_H), fb_X_run_L33 (fn_X_run_L33 n) (Int32.ofNat dr) hX = _ ∧ fb_M_run_L32 (Int32.ofNat d) (fn_M_run_L32 (Int32.ofNat d) n') (Int32.ofNat many) (Int32.ofNat dr) hM = _ ∧ _
    unfold fb_X_run_L33 fb_M_run_L32
    rw [vl_isOver e5, hov, vl_MisOver d6 hb b2, Option.bind_some, Option.bind_some, cmp_b01n, ten, ge_f (show dr < 10 by omega) (by omega)]
    cases hO : (px_cmp .eq (aI hM 88 b) 0 || !px_cmp .ne (nm_bc (gI hM 69 33)) (aI hM 80 d)) with
    | true =>
      simp only [cond_true, cond_false]
      exact ⟨many, fX, fM, f1, f2, f3⟩
    | false =>
      simp only [Bool.or_eq_false_iff, Bool.not_eq_false'] at hO
      obtain ⟨hO1, hO2⟩ := hO
      have hlt : many < s := by
        rcases Nat.lt_or_ge many s with h | h
        · exact h
        · have : many = s := by omega
          rw [ebc, es, this] at hO2
          simp [px_cmp] at hO2
      obtain ⟨q, q10, hq, dX, dM, dN⟩ := sim_draw oX oM s8 hO1 er
      rw [cond_false, cond_false, cond_false, e5, vl_part, Option.bind_some, db, dX, Option.bind_some]
      simp only [nm_inR d 6 d6 (by omega), nm_ofNat_clamp d (by omega), hb, nm_inR b 2 b2 (by omega), nm_ofNat_clamp b (by omega), cond_true, dM, dN, Option.bind_some, nm_inR dr 10 (show dr < 10 by omega) (by omega), nm_ofNat_clamp dr (by omega)]
      generalize rn (gI hX 0 11) = R at dX dM dN ⊢
      have oX1 : oS (wF hX 0 11 (.int R)) := oS_wI (cs := [0]) (ci := 8) rfl List.mem_cons_self oX
      have fX1 : fz Wa V0 hX (wF hX 0 11 (.int R)) := fz_wF rfl
      have rX1 : gI (wF hX 0 11 (.int R)) 0 11 = R := gI_wF (cs := [0]) (ci := 8) rfl List.mem_cons_self oX
      generalize wF hX 0 11 (.int R) = X1 at oX1 fX1 rX1 ⊢
      have l1 : gL X1 19 0 = gL hX 19 0 := fz_gL fX1 rfl
      have i1 : gI X1 19 1 = gI hX 19 1 := fz_gI fX1 rfl
      have E1 := CE_x oX hE (fz_mono fX1 (fun _ _ h => (wx_1 h).2.2.1) (fun _ _ => rfl))
      obtain ⟨X2, t1, t2, t3, t4⟩ := vl_foretell oX1 E1 z9 l7 (pv (gL X1 19 0) b) (pv (gL X1 19 0) 5) (gI X1 19 1)
      have E2 := CE_fz E1 t3
      rw [show gI X1 21 5 = Int32.ofNat b from (fz_gI fX1 rfl).trans e5]
      simp only [vl_part, Option.bind_some, show fn_Chest_part 19 (Int32.ofInt 5) X1 = some (pv (gL X1 19 0) 5) from rfl, t1, sb]
      have oX3 : oS (uI X2 50 dr (Int32.ofNat q)) := oS_uI (cs := [50]) (t := 23) (n := 10) rfl List.mem_cons_self t2
      have xX3 : aI (uI X2 50 dr (Int32.ofNat q)) 50 = upd (aI X2 50) dr (Int32.ofNat q) := aI_uI (cs := [50]) (t := 23) (n := 10) rfl List.mem_cons_self t2
      have fX3 : fz W0 V50 X2 (uI X2 50 dr (Int32.ofNat q)) := fz_uI rfl
      generalize uI X2 50 dr (Int32.ofNat q) = X3 at oX3 xX3 fX3 ⊢
      have E3 : CE z d ln K S F kn ow aw dd X3 := CE_x t2 E2 (fz_mono fX3 (fun _ _ _ => rfl) (fun _ h => (vx_1 h).2))
      have l3 : gL X3 19 0 = gL hX 19 0 := (fz_gL fX3 rfl).trans ((fz_gL t3 rfl).trans l1)
      have i3 : gI X3 19 1 = gI hX 19 1 := (fz_gI fX3 rfl).trans ((fz_gI t3 rfl).trans i1)
      have oM1 : oS (wF hM 69 37 (.int R)) := oS_wI (cs := [69]) (ci := 9) rfl List.mem_cons_self oM
      have fM1 : fz W37 V0 hM (wF hM 69 37 (.int R)) := fz_wF rfl
      have rM1 : gI (wF hM 69 37 (.int R)) 69 37 = R := gI_wF (cs := [69]) (ci := 9) rfl List.mem_cons_self oM
      generalize wF hM 69 37 (.int R) = M1 at oM1 fM1 rM1 ⊢
      have oM2 : oS (uI M1 92 dr (Int32.ofNat q)) := oS_uI (cs := [92]) (t := nr_slips) (n := 10) rfl List.mem_cons_self oM1
      have xM2 : aI (uI M1 92 dr (Int32.ofNat q)) 92 = upd (aI M1 92) dr (Int32.ofNat q) := aI_uI (cs := [92]) (t := nr_slips) (n := 10) rfl List.mem_cons_self oM1
      have fM2 : fz W0 V92 M1 (uI M1 92 dr (Int32.ofNat q)) := fz_uI rfl
      generalize uI M1 92 dr (Int32.ofNat q) = M2 at oM2 xM2 fM2 ⊢
      have m88 : aI M2 88 = aI hM 88 := (fM2.2 88 rfl).1.trans (fM1.2 88 rfl).1
      have m33 : gI M2 69 33 = gI hM 69 33 := (fz_gI fM2 rfl).trans (fz_gI fM1 rfl)
      have N2 : EN z d ln r b K S F kn ow aw dd M2 := EN_m (EN_m hN0 (fz_mono fM1 (fun _ _ h => (wm_1 h).2.1) (fun _ _ => rfl))) (fz_mono fM2 (fun _ _ _ => rfl) (fun _ h => (vm_1 h).2.2.1))
      have D3 : DR z d b 19 X3 M2 := DR_eq hD l3 i3 m88 ((fM2.2 89 rfl).1.trans (fM1.2 89 rfl).1) ((fM2.2 90 rfl).1.trans (fM1.2 90 rfl).1) ((fz_gI fM2 rfl).trans (fz_gI fM1 rfl)) m33
      obtain ⟨t, X4, M3, u1, u2, u3, u4, u5, u6, u7, u8, u9, u10⟩ := sim_take N2 (c := 19) (by decide) oX3 oM2 ((fz_gI fX3 rfl).trans ((fz_gI t3 rfl).trans ((fz_gI fX1 rfl).trans e5))) E3.2.1 D3 q10 (by rw [m88]; exact hq) (by
        rw [fz_gI fX3 rfl, fz_gI fX3 rfl, fz_gI fX3 rfl, l3, i3, ← l1, ← i1]
        exact t4 q q10)
      rw [u1, u4]
      simp only [Option.bind_some, cmp_b01, inc1]
      have E4 : CE z d ln K S F kn ow aw dd X4 := CE_x oX3 E3 (fz_mono u3 (fun _ _ h => (wx_1 h).1) (fun _ _ => rfl))
      have N3 : EN z d ln r b K S F kn ow aw dd M3 := EN_m N2 (fz_mono u6 (fun _ _ h => (wm_1 h).1) (fun _ h => (vm_1 h).1))
      have hcnt : cb (ib (aI M3 88 b)) 10 = m := by
        have h1 := cb_cg (n := 10) u10
        have h2 := cb_sub hq 10
        rw [if_pos q10, hm] at h2
        rw [h1, m88]
        omega
      have w5 : gI X4 21 5 = Int32.ofNat b := (fz_gI u3 rfl).trans ((fz_gI fX3 rfl).trans ((fz_gI t3 rfl).trans ((fz_gI fX1 rfl).trans e5)))
      have w80 : aI M3 80 d = aI hM 80 d := by rw [(u6.2 80 rfl).1, (fM2.2 80 rfl).1, (fM1.2 80 rfl).1]
      have w6 : gI X4 21 6 = aI M3 80 d := by rw [w80]; exact (fz_gI u3 rfl).trans ((fz_gI fX3 rfl).trans ((fz_gI t3 rfl).trans ((fz_gI fX1 rfl).trans e6)))
      have wr : gI X4 0 11 = gI M3 69 37 := by rw [fz_gI u3 rfl, fz_gI fX3 rfl, fz_gI t3 rfl, rX1, fz_gI u6 rfl, fz_gI fM2 rfl, rM1]
      have w1 : gI X4 48 1 = Int32.ofNat many := (fz_gI u3 rfl).trans ((fz_gI fX3 rfl).trans ((fz_gI t3 rfl).trans ((fz_gI fX1 rfl).trans e1)))
      have w2 : gI X4 19 2 = Int32.ofNat d := (fz_gI u3 rfl).trans ((fz_gI fX3 rfl).trans ((fz_gI t3 rfl).trans ((fz_gI fX1 rfl).trans e2)))
      have wl : aL X4 49 = aL hX 49 := by rw [(u3.2 49 rfl).2, (fX3.2 49 rfl).2, (t3.2 49 rfl).2, (fX1.2 49 rfl).2]
      have w50 : aI X4 50 = upd (aI hX 50) dr (Int32.ofNat q) := by rw [(u3.2 50 rfl).1, xX3, (t3.2 50 rfl).1, (fX1.2 50 rfl).1]
      have w92 : aI M3 92 = upd (aI hM 92) dr (Int32.ofNat q) := by rw [(u6.2 92 rfl).1, xM2, (fM1.2 92 rfl).1]
      have w91 : aI M3 91 = aI hM 91 := by rw [(u6.2 91 rfl).1, (fM2.2 91 rfl).1, (fM1.2 91 rfl).1]
      have wsl : ∀ i, i < dr + 1 → aI X4 50 i = aI M3 92 i := by
        intro i hi
        rw [w50, w92]
        simp only [upd]
        by_cases e : i = dr
        · rw [if_pos e, if_pos e]
        · rw [if_neg e, if_neg e]; exact hsl i (by omega)
      have hsit0 : ib (gI hM 69 33) q = false := hD.2.2.2.2 q q10 hq
      have ssit : sm (gI hM 69 33) := by rw [← hD.1.2.2.2.2.2]; exact pv_sm _ _
      have hbc : nm_bc (gI M3 69 33) = Int32.ofNat (many + (bif t then 1 else 0)) := by
        rw [bc_cb u9, cb_cg u8, m33]
        rw [bc_cb ssit] at ebc
        have hle := cb_le (ib (gI hM 69 33)) 10
        have e9 := ofNat_inj' (by omega) (by omega) ebc
        cases t with
        | false =>
          rw [cb_cg (g := ib (gI hM 69 33)) (fun i _ => by simp), e9]
          rfl
        | true =>
          rw [cb_add hsit0, if_pos q10, e9]
          rfl
      cases t with
      | false =>
        simp only [Bool.not_false, cond_true]
        exact ih many (dr + 1) n n' X4 M3 hcnt (by omega) (by omega) (by omega) hms ⟨u2, u5, E4, N3, u7, w5, w6, w80.trans es, wr, w1, hbc, w2, fun i hi => by rw [wl, w91]; exact hrow i hi, wsl⟩
      | true =>
        simp only [Bool.not_true, cond_false, nm_inR many 3 (show many < 3 by omega) (by omega), nm_ofNat_clamp many (show many < 2147483648 by omega), cond_true]
        obtain ⟨X5, y1, y2, y3, y4, y5⟩ := vl_tell u2 w1 (by omega) (Int32.ofNat q).toInt64
        rw [y1, Option.bind_some]
        have oM4 : oS (uI M3 91 many (Int32.ofNat q)) := oS_uI (cs := [91]) (t := nr_sits) (n := 3) rfl List.mem_cons_self u5
        have xM4 : aI (uI M3 91 many (Int32.ofNat q)) 91 = upd (aI M3 91) many (Int32.ofNat q) := aI_uI (cs := [91]) (t := nr_sits) (n := 3) rfl List.mem_cons_self u5
        have fM4 : fz W0 V91 M3 (uI M3 91 many (Int32.ofNat q)) := fz_uI rfl
        generalize uI M3 91 many (Int32.ofNat q) = M4 at oM4 xM4 fM4 ⊢
        refine ih (many + 1) (dr + 1) n n' X5 M4 (by rw [(fM4.2 88 rfl).1]; exact hcnt) (by omega) (by omega) (by omega) (by omega) ⟨y2, oM4, CE_x u2 E4 (fz_mono y3 (fun _ _ h => (wx_1 h).2.2.2) (fun _ h => (vx_1 h).1)), EN_m N3 (fz_mono fM4 (fun _ _ _ => rfl) (fun _ h => (vm_1 h).2.1)), DR_eq u7 (fz_gL y3 rfl) (fz_gI y3 rfl) (fM4.2 88 rfl).1 (fM4.2 89 rfl).1 (fM4.2 90 rfl).1 (fz_gI fM4 rfl) (fz_gI fM4 rfl), (fz_gI y3 rfl).trans w5, by rw [fz_gI y3 rfl, (fM4.2 80 rfl).1]; exact w6, by rw [(fM4.2 80 rfl).1]; exact w80.trans es, by rw [fz_gI y3 rfl, fz_gI fM4 rfl]; exact wr, y4, by rw [fz_gI fM4 rfl]; exact hbc, (fz_gI y3 rfl).trans w2, fun i hi => ?_, fun i hi => by rw [(y3.2 50 rfl).1, (fM4.2 92 rfl).1]; exact wsl i hi⟩
        rw [y5, xM4, wl, w91]
        simp only [vp_updL, upd]
        by_cases e : i = many
        · rw [if_pos e, if_pos e]
        · rw [if_neg e, if_neg e]; exact hrow i (by omega)
end sy_7
end mg_4

section mg_5
/-! the model packs what is now, and unpacks it -/
def f1v (a b A B P S : Int32) : Int64 := ((a ||| (b <<< ((Int8.ofInt 10).toInt32 &&& 31))).toInt64 ||| ((((sx_lsl A.toInt64 (Int8.ofInt 20).toInt32) ||| (sx_lsl B.toInt64 (Int8.ofInt 30).toInt32)) ||| (sx_lsl P.toInt64 (Int8.ofInt 40).toInt32)) ||| (sx_lsl S.toInt64 (Int8.ofInt 50).toInt32)))
theorem vl_first (h : px_H) : fn_M_first h = some (f1v (aI h 88 0) (aI h 88 1) (aI h 89 0) (aI h 89 1) (gI h 69 32) (gI h 69 33)) := rfl
theorem ib_big {x : Int32} (h : sm x) (i j : Nat) : ib x (i + j) = (decide (i + j < 10) && ib x (i + j)) := by
  by_cases e : i + j < 10
  · rw [decide_eq_true e, Bool.true_and]
  · rw [h _ (by omega), Bool.and_false]
theorem f1_lb {a b A B P S : Int32} (ha : sm a) (hb : sm b) (hA : sm A) (hB : sm B) (hP : sm P) (hS : sm S) {j : Nat} (hj : j < 64) : lb (f1v a b A B P S) j = (ib a j || (!decide (j < 10) && ib b (j - 10)) || (!decide (j < 20) && ib A (j - 20)) || (!decide (j < 30) && ib B (j - 30)) || (!decide (j < 40) && ib P (j - 40)) || (!decide (j < 50) && ib S (j - 50))) := by
  unfold f1v
  rw [show (Int8.ofInt 10).toInt32 = Int32.ofNat 10 from by decide, show (Int8.ofInt 20).toInt32 = Int32.ofNat 20 from by decide, show (Int8.ofInt 30).toInt32 = Int32.ofNat 30 from by decide, show (Int8.ofInt 40).toInt32 = Int32.ofNat 40 from by decide, show (Int8.ofInt 50).toInt32 = Int32.ofNat 50 from by decide]
  have e1 : lb (a ||| (b <<< (Int32.ofNat 10 &&& 31))).toInt64 j = (ib a j || (!decide (j < 10) && ib b (j - 10))) := by
    rw [lb_i2l, decide_eq_true hj, Bool.true_and]
    by_cases h : j < 32
    · rw [if_pos h, ib_or, ib_shl _ (by omega), decide_eq_true h, Bool.true_and]
    · rw [if_neg h, ib_or, ib_shl _ (by omega), ha 31 (by omega), hb (31 - 10) (by omega), ha j (by omega), hb (j - 10) (by omega)]
      simp
  rw [lb_or, e1, lb_or, lb_or, lb_or, lb_sl _ (by omega), lb_sl _ (by omega), lb_sl _ (by omega), lb_sl _ (by omega), lb_i2l_sm hA, lb_i2l_sm hB, lb_i2l_sm hP, lb_i2l_sm hS, decide_eq_true hj]
  simp only [Bool.true_and, Bool.or_assoc]
theorem f1_pv {a b A B P S : Int32} (ha : sm a) (hb : sm b) (hA : sm A) (hB : sm B) (hP : sm P) (hS : sm S) : pv (f1v a b A B P S) 0 = a ∧ pv (f1v a b A B P S) 1 = b ∧ pv (f1v a b A B P S) 2 = A ∧ pv (f1v a b A B P S) 3 = B ∧ pv (f1v a b A B P S) 4 = P ∧ pv (f1v a b A B P S) 5 = S := by
  have T : ∀ (w : Nat) (x : Int32), w < 6 → sm x → (∀ i, i < 10 → lb (f1v a b A B P S) (10 * w + i) = ib x i) → pv (f1v a b A B P S) w = x := fun w x hw hx h => sm_ext (pv_sm _ _) hx (fun i hi => by rw [pv_ib _ hw hi, h i hi])
  refine ⟨T 0 a (by omega) ha fun i hi => ?_, T 1 b (by omega) hb fun i hi => ?_, T 2 A (by omega) hA fun i hi => ?_, T 3 B (by omega) hB fun i hi => ?_, T 4 P (by omega) hP fun i hi => ?_, T 5 S (by omega) hS fun i hi => ?_⟩
  · rw [f1_lb ha hb hA hB hP hS (by omega), show 10 * 0 + i = i from by omega, decide_eq_true (show i < 10 by omega), decide_eq_true (show i < 20 by omega), decide_eq_true (show i < 30 by omega), decide_eq_true (show i < 40 by omega), decide_eq_true (show i < 50 by omega)]
    simp
  · rw [f1_lb ha hb hA hB hP hS (by omega), ha _ (by omega), decide_eq_false (show ¬ 10 * 1 + i < 10 by omega), decide_eq_true (show 10 * 1 + i < 20 by omega), decide_eq_true (show 10 * 1 + i < 30 by omega), decide_eq_true (show 10 * 1 + i < 40 by omega), decide_eq_true (show 10 * 1 + i < 50 by omega), show 10 * 1 + i - 10 = i from by omega]
    simp
  · rw [f1_lb ha hb hA hB hP hS (by omega), ha _ (by omega), hb _ (by omega), decide_eq_false (show ¬ 10 * 2 + i < 20 by omega), decide_eq_true (show 10 * 2 + i < 30 by omega), decide_eq_true (show 10 * 2 + i < 40 by omega), decide_eq_true (show 10 * 2 + i < 50 by omega), show 10 * 2 + i - 20 = i from by omega]
    simp
  · rw [f1_lb ha hb hA hB hP hS (by omega), ha _ (by omega), hb _ (by omega), hA _ (by omega), decide_eq_false (show ¬ 10 * 3 + i < 30 by omega), decide_eq_true (show 10 * 3 + i < 40 by omega), decide_eq_true (show 10 * 3 + i < 50 by omega), show 10 * 3 + i - 30 = i from by omega]
    simp
  · rw [f1_lb ha hb hA hB hP hS (by omega), ha _ (by omega), hb _ (by omega), hA _ (by omega), hB _ (by omega), decide_eq_false (show ¬ 10 * 4 + i < 40 by omega), decide_eq_true (show 10 * 4 + i < 50 by omega), show 10 * 4 + i - 40 = i from by omega]
    simp
  · rw [f1_lb ha hb hA hB hP hS (by omega), ha _ (by omega), hb _ (by omega), hA _ (by omega), hB _ (by omega), hP _ (by omega), decide_eq_false (show ¬ 10 * 5 + i < 50 by omega), show 10 * 5 + i - 50 = i from by omega]
    simp
theorem up_pv (x : Int64) {w : Nat} (hw : w < 6) : ((sx_lsr x (Int32.ofNat (10 * w))) &&& (Int64.ofInt 1023)).toInt32 = pv x w := by
  refine ib_ext (fun i hi => ?_)
  rw [ib_l2i, lb_and, lb_1023, decide_eq_true hi, Bool.true_and]
  by_cases h : i < 10
  · rw [decide_eq_true h, Bool.and_true, pv_ib _ hw h, lb_sr _ (by omega), decide_eq_false (show ¬ 64 ≤ i by omega), if_pos (show 10 * w + i < 64 by omega)]
    simp
  · rw [decide_eq_false h, Bool.and_false, pv_sm _ _ i (by omega)]
theorem up_pv0 (x : Int64) : (x &&& (Int64.ofInt 1023)).toInt32 = pv x 0 := by
  refine ib_ext (fun i hi => ?_)
  rw [ib_l2i, lb_and, lb_1023, decide_eq_true hi, Bool.true_and]
  by_cases h : i < 10
  · rw [decide_eq_true h, Bool.and_true, pv_ib _ (by omega) h, show 10 * 0 + i = i from by omega]
  · rw [decide_eq_false h, Bool.and_false, pv_sm _ _ i (by omega)]
/-! three bits a person, the last one lowest -/
def sc (f : Nat → Int32) : Nat → Int64
  | 0 => Int64.ofNat 0
  | k + 1 => (sx_lsl (sc f k) (Int32.ofInt 3)) ||| (f k).toInt64
def rs (x : Int64) : Nat → Int64
  | 0 => x
  | m + 1 => sx_lsr (rs x m) (Int32.ofInt 3)
def uq (x : Int64) (p : Nat) : Int32 := ((rs x (9 - p)) &&& (Int64.ofInt 7)).toInt32
theorem lb_i2l_s3 {x : Int32} (h : s3 x) (i : Nat) : lb x.toInt64 i = ib x i := lb_i2l_sm (fun i hi => h i (by omega)) i
theorem sc_lb {f : Nat → Int32} (hf : ∀ p, p < 10 → s3 (f p)) : ∀ (k p i : Nat), k ≤ 10 → p < k → i < 3 → lb (sc f k) (3 * (k - 1 - p) + i) = ib (f p) i
  | 0, p, i, _, hp, _ => absurd hp (Nat.not_lt_zero p)
  | k + 1, p, i, hk, hp, hi => by
    show lb ((sx_lsl (sc f k) (Int32.ofInt 3)) ||| (f k).toInt64) _ = _
    rw [show Int32.ofInt 3 = Int32.ofNat 3 from by decide, lb_or, lb_sl _ (by omega), lb_i2l_s3 (hf k (by omega)), decide_eq_true (show 3 * (k + 1 - 1 - p) + i < 64 by omega), Bool.true_and]
    by_cases e : p = k
    · subst e
      rw [show 3 * (p + 1 - 1 - p) + i = i from by omega, decide_eq_true hi]
      simp
    · have ih := sc_lb hf k p i (by omega) (by omega) hi
      rw [decide_eq_false (show ¬ 3 * (k + 1 - 1 - p) + i < 3 by omega), hf k (by omega) _ (show 3 ≤ 3 * (k + 1 - 1 - p) + i by omega), show 3 * (k + 1 - 1 - p) + i - 3 = 3 * (k - 1 - p) + i from by omega, ih]
      simp
theorem rs_lb (x : Int64) : ∀ (m j : Nat), 3 * m + j < 64 → lb (rs x m) j = lb x (3 * m + j)
  | 0, j, _ => by rw [show 3 * 0 + j = j from by omega]; rfl
  | m + 1, j, h => by
    show lb (sx_lsr (rs x m) (Int32.ofInt 3)) j = _
    rw [show Int32.ofInt 3 = Int32.ofNat 3 from by decide, lb_sr _ (by omega), decide_eq_false (show ¬ 64 ≤ j by omega), if_pos (show 3 + j < 64 by omega), rs_lb x m (3 + j) (by omega), show 3 * m + (3 + j) = 3 * (m + 1) + j from by omega]
    simp
theorem lb_7 (i : Nat) : lb (Int64.ofInt 7) i = decide (i < 3) := by
  by_cases h : i < 64
  · exact (lb_c h).2.2.2.2
  · rw [lb_ge _ (by omega)]
    symm
    simp only [decide_eq_false_iff_not]
    omega
theorem uq_s3 (x : Int64) (p : Nat) : s3 (uq x p) := by
  intro i hi
  unfold uq
  rw [ib_l2i, lb_and, lb_7, decide_eq_false (show ¬ i < 3 by omega)]
  simp
theorem uq_ib (x : Int64) {p i : Nat} (hi : i < 3) : ib (uq x p) i = lb x (3 * (9 - p) + i) := by
  unfold uq
  rw [ib_l2i, lb_and, lb_7, decide_eq_true hi, decide_eq_true (show i < 32 by omega), rs_lb _ _ _ (by omega)]
  simp
theorem uq_sc {f : Nat → Int32} (hf : ∀ p, p < 10 → s3 (f p)) {p : Nat} (hp : p < 10) : uq (sc f 10) p = f p := s3_ext (uq_s3 _ _) (hf p hp) (fun i hi => by
  rw [uq_ib _ hi]
  have := sc_lb hf 10 p i (by omega) hp hi
  rw [show 10 - 1 - p = 9 - p from by omega] at this
  exact this)
section sy_8
variable {h : px_H}
theorem vl_second (h : px_H) : fn_M_second h = some (sc (aI h 90) 10) := by
  have step : ∀ (m p n : Nat), p + m = 10 → m < n → fn_M_second_L4 h n (sc (aI h 90) p) (Int32.ofNat p) = some (sc (aI h 90) 10) := by
    intro m
    induction m with
    | zero =>
      intro p n hm hn
      obtain ⟨n, rfl⟩ : ∃ k, n = k + 1 := ⟨n - 1, by omega⟩
      have : p = 10 := by omega
      subst this
      show fb_M_second_L4 h (fn_M_second_L4 h n) _ (Int32.ofNat 10) = _
      unfold fb_M_second_L4
      rw [ten, ge_t]
      rfl
    | succ m ih =>
      intro p n hm hn
      obtain ⟨n, rfl⟩ : ∃ k, n = k + 1 := ⟨n - 1, by omega⟩
      have e := ih (p + 1) n (by omega) (by omega)
      show fb_M_second_L4 h (fn_M_second_L4 h n) _ (Int32.ofNat p) = _
      unfold fb_M_second_L4
      rw [ten, ge_f (show p < 10 by omega) (by omega), nm_inR p 10 (by omega) (by omega), nm_ofNat_clamp p (by omega), inc1]
      exact e
  exact step 10 0 fu (by omega) (fu_lt (by omega))
def V90 (c : Nat) : Bool := Nat.beq c 90
theorem vl_unpacks_L (x : Int64) : ∀ (m n : Nat) (h : px_H), m ≤ 9 → m + 1 < n → oS h → ∃ h', fn_M_unpacks_L90 n (rs x (9 - m)) (Int32.ofNat m) h = some h' ∧ oS h' ∧ fz W0 V90 h h' ∧ ∀ p, aI h' 90 p = if p ≤ m then uq x p else aI h 90 p := by
  intro m
  induction m with
  | zero =>
    intro n h hm hn hS
    obtain ⟨n, rfl⟩ : ∃ k, n = k + 2 := ⟨n - 2, by omega⟩
    have hS1 : oS (uI h 90 0 (((rs x (9 - 0)) &&& (Int64.ofInt 7)).toInt32)) := oS_uI (cs := [90]) (t := nr_satLast) (n := 10) rfl List.mem_cons_self hS
    refine ⟨uI h 90 0 (((rs x (9 - 0)) &&& (Int64.ofInt 7)).toInt32), ?_, hS1, fz_uI rfl, fun p => ?_⟩
    · generalize rs x (9 - 0) = y
      show fb_M_unpacks_L90 (fn_M_unpacks_L90 (n + 1)) y (Int32.ofNat 0) h = _
      unfold fb_M_unpacks_L90
      rw [show px_cmp .lt (Int32.ofNat 0) 0 = false from by decide, nm_inR 0 10 (by omega) (by omega), nm_ofNat_clamp 0 (by omega), show Int32.ofNat 0 + Int32.ofInt (-1) = Int32.ofInt (-1) from by decide, cond_false, cond_true]
      unfold sb
      generalize uI h 90 0 ((y &&& (Int64.ofInt 7)).toInt32) = h1
      generalize sx_lsr y (Int32.ofInt 3) = y2
      show fb_M_unpacks_L90 (fn_M_unpacks_L90 n) y2 (Int32.ofInt (-1)) h1 = _
      unfold fb_M_unpacks_L90
      rw [show px_cmp .lt (Int32.ofInt (-1)) 0 = true from by decide, cond_true]
    · rw [aI_uI (cs := [90]) (t := nr_satLast) (n := 10) rfl List.mem_cons_self hS]
      simp only [upd]
      by_cases e : p = 0
      · rw [if_pos e, if_pos (by omega), e]; rfl
      · rw [if_neg e, if_neg (by omega)]
  | succ m ih =>
    intro n h hm hn hS
    obtain ⟨n, rfl⟩ : ∃ k, n = k + 1 := ⟨n - 1, by omega⟩
    have hS1 : oS (uI h 90 (m + 1) (((rs x (9 - (m + 1))) &&& (Int64.ofInt 7)).toInt32)) := oS_uI (cs := [90]) (t := nr_satLast) (n := 10) rfl List.mem_cons_self hS
    have x0 : aI (uI h 90 (m + 1) (((rs x (9 - (m + 1))) &&& (Int64.ofInt 7)).toInt32)) 90 = upd (aI h 90) (m + 1) (((rs x (9 - (m + 1))) &&& (Int64.ofInt 7)).toInt32) := aI_uI (cs := [90]) (t := nr_satLast) (n := 10) rfl List.mem_cons_self hS
    have f1 : fz W0 V90 h (uI h 90 (m + 1) (((rs x (9 - (m + 1))) &&& (Int64.ofInt 7)).toInt32)) := fz_uI rfl
    show ∃ h', fb_M_unpacks_L90 (fn_M_unpacks_L90 n) (rs x (9 - (m + 1))) (Int32.ofNat (m + 1)) h = some h' ∧ _
    unfold fb_M_unpacks_L90
    rw [show px_cmp .lt (Int32.ofNat (m + 1)) 0 = false from by
      simp only [px_cmp, decide_eq_false_iff_not, Int32.lt_iff_toInt_lt, nm_ofNat_toInt (m + 1) (by omega), show (0 : Int32).toInt = 0 from by decide]; omega, nm_inR (m + 1) 10 (by omega) (by omega), nm_ofNat_clamp (m + 1) (by omega), dec1 (by omega) (by omega)]
    simp only [cond_false, cond_true, sb]
    generalize uI h 90 (m + 1) (((rs x (9 - (m + 1))) &&& (Int64.ofInt 7)).toInt32) = h1 at hS1 x0 f1 ⊢
    obtain ⟨h', a1, a2, a3, a4⟩ := ih n h1 (by omega) (by omega) hS1
    refine ⟨h', ?_, a2, fz_tr f1 a3, fun p => ?_⟩
    · rw [show m + 1 - 1 = m from by omega]
      rw [show 9 - m = 9 - (m + 1) + 1 from by omega] at a1
      exact a1
    · rw [a4 p, x0]
      simp only [upd]
      by_cases e : p ≤ m
      · rw [if_pos e, if_pos (by omega)]
      · rw [if_neg e]
        by_cases e2 : p = m + 1
        · rw [if_pos e2, if_pos (by omega), e2]; rfl
        · rw [if_neg e2, if_neg (by omega)]
theorem vl_unpacks (hS : oS h) (x y : Int64) : ∃ h', fn_M_unpacks x y h = some h' ∧ oS h' ∧ fz WM VM h h' ∧ (aI h' 88 0 = pv x 0 ∧ aI h' 88 1 = pv x 1 ∧ aI h' 89 0 = pv x 2 ∧ aI h' 89 1 = pv x 3 ∧ gI h' 69 32 = pv x 4 ∧ gI h' 69 33 = pv x 5) ∧ ∀ p, p < 10 → aI h' 90 p = uq y p := by
  unfold fn_M_unpacks
  simp only [sb, show (Int32.ofInt 0).toNatClampNeg = 0 from rfl, show (Int32.ofInt 1).toNatClampNeg = 1 from rfl, up_pv0, show ((sx_lsr x (Int8.ofInt 10).toInt32) &&& (Int64.ofInt 1023)).toInt32 = pv x 1 from up_pv x (w := 1) (by omega), show ((sx_lsr x (Int8.ofInt 20).toInt32) &&& (Int64.ofInt 1023)).toInt32 = pv x 2 from up_pv x (w := 2) (by omega), show ((sx_lsr x (Int8.ofInt 30).toInt32) &&& (Int64.ofInt 1023)).toInt32 = pv x 3 from up_pv x (w := 3) (by omega), show ((sx_lsr x (Int8.ofInt 40).toInt32) &&& (Int64.ofInt 1023)).toInt32 = pv x 4 from up_pv x (w := 4) (by omega), show ((sx_lsr x (Int8.ofInt 50).toInt32) &&& (Int64.ofInt 1023)).toInt32 = pv x 5 from up_pv x (w := 5) (by omega)]
  have s1 : oS (uI h 88 0 (pv x 0)) := oS_uI (cs := [88]) (t := nr_inBag) (n := 2) rfl List.mem_cons_self hS
  have e1 : aI (uI h 88 0 (pv x 0)) 88 = upd (aI h 88) 0 (pv x 0) := aI_uI (cs := [88]) (t := nr_inBag) (n := 2) rfl List.mem_cons_self hS
  have f1 : fz WM VM h (uI h 88 0 (pv x 0)) := fz_uI rfl
  generalize uI h 88 0 (pv x 0) = h1 at s1 e1 f1 ⊢
  have s2 : oS (uI h1 88 1 (pv x 1)) := oS_uI (cs := [88]) (t := nr_inBag) (n := 2) rfl List.mem_cons_self s1
  have e2 : aI (uI h1 88 1 (pv x 1)) 88 = upd (upd (aI h 88) 0 (pv x 0)) 1 (pv x 1) := by rw [aI_uI (cs := [88]) (t := nr_inBag) (n := 2) rfl List.mem_cons_self s1, e1]
  have f2 : fz WM VM h (uI h1 88 1 (pv x 1)) := fz_tr f1 (fz_uI rfl)
  generalize uI h1 88 1 (pv x 1) = h2 at s2 e2 f2 ⊢
  have s3 : oS (uI h2 89 0 (pv x 2)) := oS_uI (cs := [89]) (t := nr_aside) (n := 2) rfl List.mem_cons_self s2
  have e3 : aI (uI h2 89 0 (pv x 2)) 89 = upd (aI h2 89) 0 (pv x 2) := aI_uI (cs := [89]) (t := nr_aside) (n := 2) rfl List.mem_cons_self s2
  have g3 : aI (uI h2 89 0 (pv x 2)) 88 = upd (upd (aI h 88) 0 (pv x 0)) 1 (pv x 1) := (aI_uI_ne (by decide)).trans e2
  have f3 : fz WM VM h (uI h2 89 0 (pv x 2)) := fz_tr f2 (fz_uI rfl)
  generalize uI h2 89 0 (pv x 2) = h3 at s3 e3 g3 f3 ⊢
  have s4 : oS (uI h3 89 1 (pv x 3)) := oS_uI (cs := [89]) (t := nr_aside) (n := 2) rfl List.mem_cons_self s3
  have e4 : aI (uI h3 89 1 (pv x 3)) 89 = upd (upd (aI h2 89) 0 (pv x 2)) 1 (pv x 3) := by rw [aI_uI (cs := [89]) (t := nr_aside) (n := 2) rfl List.mem_cons_self s3, e3]
  have g4 : aI (uI h3 89 1 (pv x 3)) 88 = upd (upd (aI h 88) 0 (pv x 0)) 1 (pv x 1) := (aI_uI_ne (by decide)).trans g3
  have f4 : fz WM VM h (uI h3 89 1 (pv x 3)) := fz_tr f3 (fz_uI rfl)
  generalize uI h3 89 1 (pv x 3) = h4 at s4 e4 g4 f4 ⊢
  have s5 : oS (wF h4 69 32 (.int (pv x 4))) := oS_wI (cs := [69]) (ci := 9) rfl List.mem_cons_self s4
  have e5 : gI (wF h4 69 32 (.int (pv x 4))) 69 32 = pv x 4 := gI_wF (cs := [69]) (ci := 9) rfl List.mem_cons_self s4
  have g5 : ∀ c, aI (wF h4 69 32 (.int (pv x 4))) c = aI h4 c := fun c => aI_wF
  have f5 : fz WM VM h (wF h4 69 32 (.int (pv x 4))) := fz_tr f4 (fz_wF rfl)
  generalize wF h4 69 32 (.int (pv x 4)) = h5 at s5 e5 g5 f5 ⊢
  have s6 : oS (wF h5 69 33 (.int (pv x 5))) := oS_wI (cs := [69]) (ci := 9) rfl List.mem_cons_self s5
  have e6 : gI (wF h5 69 33 (.int (pv x 5))) 69 33 = pv x 5 := gI_wF (cs := [69]) (ci := 9) rfl List.mem_cons_self s5
  have e7 : gI (wF h5 69 33 (.int (pv x 5))) 69 32 = pv x 4 := (gI_wF_ne (by decide)).trans e5
  have g6 : ∀ c, aI (wF h5 69 33 (.int (pv x 5))) c = aI h4 c := fun c => aI_wF.trans (g5 c)
  have f6 : fz WM VM h (wF h5 69 33 (.int (pv x 5))) := fz_tr f5 (fz_wF rfl)
  generalize wF h5 69 33 (.int (pv x 5)) = h6 at s6 e6 e7 g6 f6 ⊢
  obtain ⟨h', a1, a2, a3, a4⟩ := vl_unpacks_L y 9 fu h6 (by omega) (fu_lt (by omega)) s6
  have k8 : aI h' 88 = upd (upd (aI h 88) 0 (pv x 0)) 1 (pv x 1) := by rw [(a3.2 88 rfl).1, g6, g4]
  have k9 : aI h' 89 = upd (upd (aI h2 89) 0 (pv x 2)) 1 (pv x 3) := by rw [(a3.2 89 rfl).1, g6, e4]
  refine ⟨h', a1, a2, fz_tr f6 (fz_mono a3 (fun _ _ _ => rfl) (fun c hc => ?_)), ⟨?_, ?_, ?_, ?_, (fz_gI a3 rfl).trans e7, (fz_gI a3 rfl).trans e6⟩, fun p hp => ?_⟩
  · unfold VM at hc
    simp only [Bool.or_eq_false_iff] at hc
    exact hc.2.2
  · rw [k8]; rfl
  · rw [k8]; rfl
  · rw [k9]; rfl
  · rw [k9]; rfl
  · rw [a4 p, if_pos (by omega)]
end sy_8
end mg_5

section mg_6
/-! slips that are told, on both sides -/
def slp (T : Int64) (k : Nat) : Int32 := (sx_lus T ((Int32.ofInt 4) * Int32.ofNat k)).toInt32 &&& (Int8.ofInt 15).toInt32
theorem mul4_t : (List.range 10).all (fun w => decide ((Int32.ofInt 4) * Int32.ofNat w = Int32.ofNat (4 * w))) = true := by decide +kernel
theorem mul4 {w : Nat} (h : w < 10) : (Int32.ofInt 4) * Int32.ofNat w = Int32.ofNat (4 * w) := of_decide_eq_true (List.all_eq_true.mp mul4_t w (List.mem_range.mpr h))
theorem c15_t : (List.range 32).all (fun i => decide (ib (Int8.ofInt 15).toInt32 i = decide (i < 4))) = true := by decide +kernel
theorem c15l_t : (List.range 64).all (fun i => decide (lb (Int64.ofInt 15) i = decide (i < 4))) = true := by decide +kernel
theorem slp_M (T : Int64) {k : Nat} (hk : k < 10) : ((sx_lsr T ((Int32.ofInt 4) * Int32.ofNat k)) &&& (Int64.ofInt 15)).toInt32 = slp T k := by
  refine ib_ext (fun i hi => ?_)
  unfold slp
  rw [mul4 hk, ib_l2i, lb_and, ib_and, ib_l2i, lb_us _ (by omega), of_decide_eq_true (List.all_eq_true.mp c15_t i (List.mem_range.mpr hi)), of_decide_eq_true (List.all_eq_true.mp c15l_t i (List.mem_range.mpr (by omega))), decide_eq_true hi, Bool.true_and, Bool.true_and, lb_sr _ (by omega), decide_eq_false (show ¬ 64 ≤ i by omega)]
  by_cases h : i < 4
  · rw [if_pos (show 4 * k + i < 64 by omega)]
    simp
  · rw [decide_eq_false h, Bool.and_false, Bool.and_false]
theorem slp_lt (T : Int64) (k : Nat) : ∃ v : Nat, v < 16 ∧ slp T k = Int32.ofNat v := by
  have e : (slp T k).toBitVec.toNat < 2 ^ 4 := by
    refine Nat.lt_pow_two_of_testBit _ (fun i hi => ?_)
    show ib (slp T k) i = false
    unfold slp
    rw [ib_and]
    by_cases h : i < 32
    · rw [of_decide_eq_true (List.all_eq_true.mp c15_t i (List.mem_range.mpr h)), decide_eq_false (show ¬ i < 4 by omega), Bool.and_false]
    · rw [ib_ge (Int8.ofInt 15).toInt32 (by omega), Bool.and_false]
  refine ⟨(slp T k).toBitVec.toNat, e, ?_⟩
  apply Int32.toBitVec_inj.mp
  show (slp T k).toBitVec = BitVec.ofNat 32 (slp T k).toBitVec.toNat
  rw [BitVec.ofNat_toNat, BitVec.setWidth_eq]
section sy_9
variable {z d b ln r s : Nat} {K S F kn : Nat → Int32} {ow aw dd : Int32}
/-- all slips told are such -/
def okS (T : Int64) (nn : Nat) : Prop := ∀ k, k < nn → ∃ p, p < 10 ∧ slp T k = Int32.ofNat p
theorem vl_areSlips_L (T : Int64) {nn : Nat} (n10 : nn ≤ 10) (h : px_H) : ∀ (m k n : Nat), k + m = nn → m < n → ∃ t : Bool, fn_X_areSlips_L14 T (Int32.ofNat nn) h n (Int32.ofNat k) = some (b01 t) ∧ (t = true ↔ ∀ j, k ≤ j → j < nn → ∃ p, p < 10 ∧ slp T j = Int32.ofNat p) := by
  intro m
  induction m with
  | zero =>
    intro k n hm hn
    obtain ⟨n, rfl⟩ : ∃ k, n = k + 1 := ⟨n - 1, by omega⟩
    have : k = nn := by omega
    subst this
    refine ⟨true, ?_, fun _ j h1 h2 => by omega, fun _ => rfl⟩
    show fb_X_areSlips_L14 T (Int32.ofNat k) h (fn_X_areSlips_L14 T (Int32.ofNat k) h n) (Int32.ofNat k) = _
    unfold fb_X_areSlips_L14
    rw [ge_t]
    rfl
  | succ m ih =>
    intro k n hm hn
    obtain ⟨n, rfl⟩ : ∃ k, n = k + 1 := ⟨n - 1, by omega⟩
    obtain ⟨t, t1, t2⟩ := ih (k + 1) n (by omega) (by omega)
    show ∃ t : Bool, fb_X_areSlips_L14 T (Int32.ofNat nn) h (fn_X_areSlips_L14 T (Int32.ofNat nn) h n) (Int32.ofNat k) = some (b01 t) ∧ _
    unfold fb_X_areSlips_L14
    rw [ge_f (show k < nn by omega) (by omega), show fn_X_slipAt T (Int32.ofNat k) h = some (slp T k) from rfl, Option.bind_some, inc1, ten]
    obtain ⟨v, v16, hv⟩ := slp_lt T k
    have hc : px_cmp .lt (slp T k) (Int32.ofNat 10) = decide (v < 10) := by
      rw [hv]
      simp only [px_cmp, decide_eq_decide, Int32.lt_iff_toInt_lt, nm_ofNat_toInt v (by omega), nm_ofNat_toInt 10 (by omega)]
      omega
    rw [hc]
    by_cases h10 : v < 10
    · rw [decide_eq_true h10]
      refine ⟨t, t1, ?_⟩
      rw [t2]
      constructor
      · intro h9 j h1 h2
        by_cases e : j = k
        · rw [e]; exact ⟨v, h10, hv⟩
        · exact h9 j (by omega) h2
      · intro h9 j h1 h2; exact h9 j (by omega) h2
    · rw [decide_eq_false h10]
      refine ⟨false, rfl, ?_⟩
      constructor
      · intro h9; cases h9
      · intro h9
        obtain ⟨p, p10, hp⟩ := h9 k (by omega) (by omega)
        rw [hv] at hp
        have := ofNat_inj' (by omega) (by omega) hp
        omega
/-- what holds while they are laid -/
def LF (z d b ln r s : Nat) (K S F kn : Nat → Int32) (ow aw dd : Int32) (hX hM : px_H) : Prop :=
  oS hX ∧ oS hM ∧ CE z d ln K S F kn ow aw dd hX ∧ EN z d ln r b K S F kn ow aw dd hM ∧ DR z d b 20 hX hM ∧ gI hX 21 5 = Int32.ofNat b ∧ gI hX 21 6 = aI hM 80 d ∧ aI hM 80 d = Int32.ofNat s ∧ (nm_bc (gI hM 69 33)).toInt ≤ (aI hM 80 d).toInt
theorem CE_20 {hX hX' : px_H} (hS : oS hX) (hE : CE z d ln K S F kn ow aw dd hX) (a : fz (Wc 20) V0 hX hX') : CE z d ln K S F kn ow aw dd hX' := CE_c hS (by decide) hE a
def WF2 (a k : Nat) : Bool := Wc 20 a k || W3 a k
theorem sim_follow (s3 : s ≤ 3) (T : Int64) {nn : Nat} (n10 : nn ≤ 10) (hT : okS T nn) : ∀ (m k n n' : Nat) (hX hM : px_H), k + m = nn → m < n → m < n' → LF z d b ln r s K S F kn ow aw dd hX hM →
    ∃ (j : Nat) (hX' hM' : px_H), j ≤ nn ∧ fn_X_follow_L29 T (Int32.ofNat nn) n (Int32.ofNat k) hX = some (Int32.ofNat j, hX') ∧ fn_M_goesBy_L15 T (Int32.ofNat nn) (Int32.ofNat d) n' (Int32.ofNat k) hM = some (Int32.ofNat j, hM') ∧ LF z d b ln r s K S F kn ow aw dd hX' hM' ∧ fz WF2 V0 hX hX' ∧ fz WM VM hM hM' := by
  intro m
  induction m with
  | zero =>
    intro k n n' hX hM hm hn hn' hL
    obtain ⟨n, rfl⟩ : ∃ k, n = k + 1 := ⟨n - 1, by omega⟩
    obtain ⟨n', rfl⟩ : ∃ k, n' = k + 1 := ⟨n' - 1, by omega⟩
    have : k = nn := by omega
    subst this
    refine ⟨k, hX, hM, Nat.le_refl k, ?_, ?_, hL, fz_rf, fz_rf⟩
    · show fb_X_follow_L29 T (Int32.ofNat k) (fn_X_follow_L29 T (Int32.ofNat k) n) (Int32.ofNat k) hX = _
      unfold fb_X_follow_L29
      rw [ge_t]
      rfl
    · show fb_M_goesBy_L15 T (Int32.ofNat k) (Int32.ofNat d) (fn_M_goesBy_L15 T (Int32.ofNat k) (Int32.ofNat d) n') (Int32.ofNat k) hM = _
      unfold fb_M_goesBy_L15
      rw [ge_t]
      rfl
  | succ m ih =>
    intro k n n' hX hM hm hn hn' hL
    obtain ⟨n, rfl⟩ : ∃ k, n = k + 1 := ⟨n - 1, by omega⟩
    obtain ⟨n', rfl⟩ : ∃ k, n' = k + 1 := ⟨n' - 1, by omega⟩
    have hL0 := hL
    obtain ⟨oX, oM, hE, hN, hD, e5, e6, es, hle⟩ := hL
    have hN0 := hN
    obtain ⟨z9, d6, l7, r4, b2, hME, hb, hR, hP⟩ := hN
    have hov := over_eq hD b2 e6 hle
    have db := (DR_b b2 hD).1
    obtain ⟨p, p10, hp⟩ := hT k (by omega)
    show ∃ (j : Nat) (hX' hM' : px_H), j ≤ nn ∧ fb_X_follow_L29 T (Int32.ofNat nn) (fn_X_follow_L29 T (Int32.ofNat nn) n) (Int32.ofNat k) hX = _ ∧ fb_M_goesBy_L15 T (Int32.ofNat nn) (Int32.ofNat d) (fn_M_goesBy_L15 T (Int32.ofNat nn) (Int32.ofNat d) n') (Int32.ofNat k) hM = _ ∧ _
    unfold fb_X_follow_L29 fb_M_goesBy_L15
    rw [ge_f (show k < nn by omega) (by omega), show fn_X_slipAt T (Int32.ofNat k) hX = some (slp T k) from rfl, Option.bind_some, slp_M T (show k < 10 by omega), hp, vl_isOver e5, hov, vl_MisOver d6 hb b2, Option.bind_some, Option.bind_some, cmp_b01n, ten, ge_f (show p < 10 by omega) (by omega), cond_false, cond_false, cond_false, e5, vl_part, Option.bind_some, db, hb_ne _ (show p < 32 by omega), nm_inR d 6 d6 (by omega), nm_ofNat_clamp d (by omega), hb, nm_inR b 2 b2 (by omega), nm_ofNat_clamp b (by omega), cond_true, cond_true, has_ne _ (show p < 32 by omega)]
    cases hO : (px_cmp .eq (aI hM 88 b) 0 || !px_cmp .ne (nm_bc (gI hM 69 33)) (aI hM 80 d)) with
    | true => exact ⟨k, hX, hM, by omega, rfl, rfl, hL0, fz_rf, fz_rf⟩
    | false =>
      rw [cond_false, cond_false]
      cases hin : ib (aI hM 88 b) p with
      | false => exact ⟨k, hX, hM, by omega, rfl, rfl, hL0, fz_rf, fz_rf⟩
      | true =>
        rw [cond_true, cond_true]
        simp only [Bool.or_eq_false_iff, Bool.not_eq_false'] at hO
        obtain ⟨X2, t1, t2, t3, t4⟩ := vl_foretell oX hE z9 l7 (aI hM 88 b) (pv (gL hX 20 0) 5) (gI hX 20 1)
        rw [Option.bind_some, show fn_Chest_part 20 (Int32.ofInt 5) hX = some (pv (gL hX 20 0) 5) from rfl, Option.bind_some, t1, Option.bind_some]
        have E2 := CE_fz hE t3
        have l2 : gL X2 20 0 = gL hX 20 0 := fz_gL t3 rfl
        have i2 : gI X2 20 1 = gI hX 20 1 := fz_gI t3 rfl
        have D2 : DR z d b 20 X2 hM := DR_eq hD l2 i2 rfl rfl rfl rfl rfl
        obtain ⟨t, X4, M3, u1, u2, u3, u4, u5, u6, u7, u8, u9, u10⟩ := sim_take hN0 (c := 20) (by decide) t2 oM ((fz_gI t3 rfl).trans e5) E2.2.1 D2 p10 hin (by
          rw [l2, i2, db]
          exact t4 p p10)
        rw [u1, u4, Option.bind_some, Option.bind_some, inc1]
        have ssit : sm (gI hM 69 33) := by rw [← hD.1.2.2.2.2.2]; exact pv_sm _ _
        have w80 : aI M3 80 d = aI hM 80 d := by rw [(u6.2 80 rfl).1]
        have hst := bc_step ssit u9 u8
        have hne : (nm_bc (gI hM 69 33)).toInt ≠ (aI hM 80 d).toInt := by
          intro e
          have := Int32.toInt_inj.mp e
          have h9 := hO.2
          rw [this] at h9
          simp [px_cmp] at h9
        obtain ⟨j, hX', hM', j1, j2, j3, j4, j5, j6⟩ := ih (k + 1) n n' X4 M3 (by omega) (by omega) (by omega) ⟨u2, u5, CE_20 t2 E2 u3, EN_m hN0 (fz_mono u6 (fun _ _ h => (wm_1 h).1) (fun _ h => (vm_1 h).1)), u7, (fz_gI u3 rfl).trans ((fz_gI t3 rfl).trans e5), by rw [w80]; exact (fz_gI u3 rfl).trans ((fz_gI t3 rfl).trans e6), w80.trans es, by rw [w80]; omega⟩
        refine ⟨j, hX', hM', j1, j2, j3, j4, fz_tr (fz_mono t3 (fun c k h => ?_) (fun _ _ => rfl)) (fz_tr (fz_mono u3 (fun c k h => ?_) (fun _ _ => rfl)) j5), fz_tr u6 j6⟩
        · unfold WF2 at h
          simp only [Bool.or_eq_false_iff] at h
          exact h.2
        · unfold WF2 at h
          simp only [Bool.or_eq_false_iff] at h
          exact h.1
end sy_9
end mg_6

section mg_7
/-! two calls, one on each side -/
def agX (h h' : px_H) : Prop := ∀ c, c < 69 → (∀ k, ac_fv h' c k = ac_fv h c k) ∧ aI h' c = aI h c ∧ aL h' c = aL h c ∧ aR h' c = aR h c
def agM (h h' : px_H) : Prop := (∀ k, ac_fv h' 69 k = ac_fv h 69 k) ∧ ∀ c, 70 ≤ c → c < 105 → aI h' c = aI h c ∧ aL h' c = aL h c
theorem agX_rf (h : px_H) : agX h h := fun _ _ => ⟨fun _ => rfl, rfl, rfl, rfl⟩
theorem agM_rf (h : px_H) : agM h h := ⟨fun _ => rfl, fun _ _ _ => ⟨rfl, rfl⟩⟩
section sy_A
variable {hp hp' : px_H} {ws : List (Nat × Nat)} {wa : List Nat}
/-- a cell that nothing is written to -/
theorem fr_cell (hS : oS hp) {c : Nat} (hc : c < 106) (h : px_fr ws wa hp hp') (hw : ∀ k, (c, k) ∉ ws) (ha : c ∉ wa) : (∀ k, ac_fv hp' c k = ac_fv hp c k) ∧ aI hp' c = aI hp c ∧ aL hp' c = aL hp c ∧ aR hp' c = aR hp c := by
  have hlen : c < hp.length := by
    rw [← hS.1, List.length_map]
    have : nm_GH.length = 106 := by decide +kernel
    omega
  have hx := List.getElem?_eq_getElem hlen
  cases hy : hp[c] with
  | inl q =>
    rw [hy] at hx
    have h2 := h.1 c q ha hx
    refine ⟨fun k => ?_, ?_, ?_, ?_⟩
    · unfold ac_fv; rw [hx, h2]
    · unfold aI; rw [hx, h2]
    · unfold aL; rw [hx, h2]
    · funext j; unfold aR; rw [hx, h2]
  | inr q =>
    obtain ⟨ci, vs⟩ := q
    rw [hy] at hx
    obtain ⟨vs', h2, h3, h4⟩ := h.2 c ci vs hx
    refine ⟨fun k => ?_, ?_, ?_, ?_⟩
    · unfold ac_fv; rw [hx, h2]; exact h4 k (hw k)
    · unfold aI; rw [hx, h2]
    · unfold aL; rw [hx, h2]
    · funext j; unfold aR; rw [hx, h2]
def isX (ws : List (Nat × Nat)) (wa : List Nat) : Bool := ws.all (fun q => Nat.blt q.1 69) && wa.all (fun c => Nat.blt c 69)
def isM (ws : List (Nat × Nat)) (wa : List Nat) : Bool := ws.all (fun q => Nat.ble 69 q.1) && wa.all (fun c => Nat.ble 69 c)
theorem agM_of (hS : oS hp) (h : px_fr ws wa hp hp') (hx : isX ws wa = true) : agM hp hp' := by
  simp only [isX, Bool.and_eq_true] at hx
  have n1 : ∀ c k, 69 ≤ c → (c, k) ∉ ws := fun c k hc hm => by
    have := List.all_eq_true.mp hx.1 _ hm
    simp only [Nat.blt_eq] at this
    omega
  have n2 : ∀ c, 69 ≤ c → c ∉ wa := fun c hc hm => by
    have := List.all_eq_true.mp hx.2 _ hm
    simp only [Nat.blt_eq] at this
    omega
  refine ⟨(fr_cell hS (by omega) h (fun k => n1 69 k (by omega)) (n2 69 (by omega))).1, fun c h1 h2 => ?_⟩
  have := fr_cell hS (show c < 106 by omega) h (fun k => n1 c k (by omega)) (n2 c (by omega))
  exact ⟨this.2.1, this.2.2.1⟩
theorem agX_of (hS : oS hp) (h : px_fr ws wa hp hp') (hx : isM ws wa = true) : agX hp hp' := by
  simp only [isM, Bool.and_eq_true] at hx
  have n1 : ∀ c k, c < 69 → (c, k) ∉ ws := fun c k hc hm => by
    have := List.all_eq_true.mp hx.1 _ hm
    simp only [Nat.ble_eq] at this
    omega
  have n2 : ∀ c, c < 69 → c ∉ wa := fun c hc hm => by
    have := List.all_eq_true.mp hx.2 _ hm
    simp only [Nat.ble_eq] at this
    omega
  intro c hc
  exact fr_cell hS (by omega) h (fun k => n1 c k hc) (n2 c hc)
theorem agX_gI (h : agX hp hp') {c k : Nat} (hc : c < 69) : gI hp' c k = gI hp c k := by unfold gI; rw [(h c hc).1]
theorem agX_gL (h : agX hp hp') {c k : Nat} (hc : c < 69) : gL hp' c k = gL hp c k := by unfold gL; rw [(h c hc).1]
theorem agX_aI (h : agX hp hp') {c : Nat} (hc : c < 69) : aI hp' c = aI hp c := (h c hc).2.1
theorem agX_aL (h : agX hp hp') {c : Nat} (hc : c < 69) : aL hp' c = aL hp c := (h c hc).2.2.1
theorem agX_aR (h : agX hp hp') {c : Nat} (hc : c < 69) : aR hp' c = aR hp c := (h c hc).2.2.2
theorem agM_gI (h : agM hp hp') {k : Nat} : gI hp' 69 k = gI hp 69 k := by unfold gI; rw [h.1]
theorem agM_gL (h : agM hp hp') {k : Nat} : gL hp' 69 k = gL hp 69 k := by unfold gL; rw [h.1]
theorem agM_aI (h : agM hp hp') {c : Nat} (h1 : 70 ≤ c) (h2 : c < 105) : aI hp' c = aI hp c := (h.2 c h1 h2).1
theorem agM_aL (h : agM hp hp') {c : Nat} (h1 : 70 ≤ c) (h2 : c < 105) : aL hp' c = aL hp c := (h.2 c h1 h2).2
end sy_A
/-! all that is held against one another between calls -/
/-- what was kept under a number -/
def KQ (z i nx : Nat) (hX hM : px_H) : Prop :=
  (pv (gL hX (66 + i) 0) 0 = pv (aL hM 101 i) 0 ∧ pv (gL hX (66 + i) 0) 1 = pv (aL hM 101 i) 1 ∧ pv (gL hX (66 + i) 0) 2 = pv (aL hM 101 i) 2 ∧ pv (gL hX (66 + i) 0) 3 = pv (aL hM 101 i) 3 ∧ pv (gL hX (66 + i) 0) 4 = Int32.ofInt 0 ∧ pv (aL hM 101 i) 4 = Int32.ofInt 0 ∧ pv (aL hM 101 i) 5 = Int32.ofInt 0) ∧
  (∀ p, p < 10 → sq (gI hX (66 + i) 1) p = uq (aL hM 102 i) p ∧ ∃ v : Nat, v ≤ nx ∧ uq (aL hM 102 i) p = Int32.ofNat v) ∧ (∀ w, w < 4 → sz z (pv (aL hM 101 i) w)) ∧ nx ≤ 6 ∧ gI hX (66 + i) 2 = Int32.ofNat nx ∧ aI hM 103 i = Int32.ofNat nx ∧ aI hX 52 i = aI hM 104 i
def KP (z : Nat) (hX hM : px_H) : Prop := sm (gI hX 0 14) ∧ ∀ i, i < 3 → ib (gI hX 0 14) i = (!px_cmp .eq (aI hM 100 i) 0) ∧ (ib (gI hX 0 14) i = true → ∃ nx, KQ z i nx hX hM)
def RR0 (ln : Nat) (hX hM : px_H) : Prop := ln ≤ 7 ∧ gI hX 14 3 = Int32.ofNat ln ∧ aI hM 81 0 = Int32.ofNat ln ∧ ∀ k, k < ln → kR (aI hX 15 k) (aI hX 16 k) (aI hM 83 k) ∧ fR (aI hX 17 k) (aI hM 84 k)
def RLz (z dn nx ln : Nat) (hX hM : px_H) : Prop :=
  TR z dn hX hM ∧ (∀ p, z ≤ p → p < 10 → aI hX 3 p = Int32.ofInt 0) ∧ RR0 ln hX hM ∧ CL z nx 19 hX hM ∧ (nx ≤ 6 ∧ gI hX 19 2 = Int32.ofNat nx ∧ gI hM 69 31 = Int32.ofNat nx) ∧ gI hX 0 11 = gI hM 69 37 ∧ (gI hM 69 15 = Int32.ofInt 0 ∧ gI hM 69 20 = Int32.ofInt 0) ∧ KP z hX hM
def RL (hX hM : px_H) : Prop := ∃ z dn nx ln, RLz z dn nx ln hX hM
section sy_B
variable {z dn nx ln : Nat} {hX hM hX' hM' : px_H}
theorem TR_ag (a : agX hX hX') (b : agM hM hM') (h : TR z dn hX hM) : TR z dn hX' hM' := by
  unfold TR
  rw [agX_gI a (by omega), agX_gI a (by omega), agM_gI b, agM_gI b, agX_aI a (c := 2) (by omega), agX_aI a (c := 3) (by omega), agX_aI a (c := 4) (by omega), agX_aI a (c := 5) (by omega), agX_aI a (c := 6) (by omega), agX_aI a (c := 7) (by omega), agX_aI a (c := 8) (by omega), agX_aI a (c := 9) (by omega), agX_aI a (c := 10) (by omega), agX_aI a (c := 11) (by omega), agM_aI b (c := 71) (by omega) (by omega), agM_aI b (c := 72) (by omega) (by omega), agM_aI b (c := 73) (by omega) (by omega), agM_aI b (c := 74) (by omega) (by omega), agM_aI b (c := 75) (by omega) (by omega), agM_aI b (c := 76) (by omega) (by omega), agM_aI b (c := 77) (by omega) (by omega), agM_aI b (c := 78) (by omega) (by omega), agM_aI b (c := 79) (by omega) (by omega), agM_aI b (c := 80) (by omega) (by omega)]
  exact h
theorem CL_ag (a : agX hX hX') (b : agM hM hM') (h : CL z nx 19 hX hM) : CL z nx 19 hX' hM' := CL_eq h (agX_gL a (by omega)) (agX_gI a (by omega)) (agM_aI b (by omega) (by omega)) (agM_aI b (by omega) (by omega)) (agM_aI b (by omega) (by omega)) (agM_gI b) (agM_gI b)
theorem RR0_ag (a : agX hX hX') (b : agM hM hM') (h : RR0 ln hX hM) : RR0 ln hX' hM' := by
  unfold RR0
  rw [agX_gI a (by omega), agX_aI a (c := 15) (by omega), agX_aI a (c := 16) (by omega), agX_aI a (c := 17) (by omega), agM_aI b (c := 81) (by omega) (by omega), agM_aI b (c := 83) (by omega) (by omega), agM_aI b (c := 84) (by omega) (by omega)]
  exact h
theorem KQ_ag {i : Nat} (hi : i < 3) (a : agX hX hX') (b : agM hM hM') (h : KQ z i nx hX hM) : KQ z i nx hX' hM' := by
  unfold KQ
  rw [agX_gL a (show 66 + i < 69 by omega), agX_gI a (show 66 + i < 69 by omega), agX_gI a (show 66 + i < 69 by omega), agX_aI a (c := 52) (by omega), agM_aL b (c := 101) (by omega) (by omega), agM_aL b (c := 102) (by omega) (by omega), agM_aI b (c := 103) (by omega) (by omega), agM_aI b (c := 104) (by omega) (by omega)]
  exact h
theorem KP_ag (a : agX hX hX') (b : agM hM hM') (h : KP z hX hM) : KP z hX' hM' := by
  obtain ⟨h2, h3⟩ := h
  refine ⟨by rw [agX_gI a (by omega)]; exact h2, fun i hi => ?_⟩
  rw [agX_gI a (by omega), agM_aI b (by omega) (by omega)]
  refine ⟨(h3 i hi).1, fun e => ?_⟩
  obtain ⟨nx, hk⟩ := (h3 i hi).2 e
  exact ⟨nx, KQ_ag hi a b hk⟩
theorem RLz_ag (a : agX hX hX') (b : agM hM hM') (h : RLz z dn nx ln hX hM) : RLz z dn nx ln hX' hM' := by
  obtain ⟨h1, h2, h3, h4, ⟨h5, h6, h7⟩, h8, ⟨h9, h10⟩, h11⟩ := h
  exact ⟨TR_ag a b h1, fun p hp hq => by rw [agX_aI a (by omega)]; exact h2 p hp hq, RR0_ag a b h3, CL_ag a b h4, ⟨h5, by rw [agX_gI a (by omega)]; exact h6, by rw [agM_gI b]; exact h7⟩, by rw [agX_gI a (by omega), agM_gI b]; exact h8, ⟨by rw [agM_gI b]; exact h9, by rw [agM_gI b]; exact h10⟩, KP_ag a b h11⟩
theorem RL_ag (a : agX hX hX') (b : agM hM hM') (h : RL hX hM) : RL hX' hM' := by
  obtain ⟨z, dn, nx, ln, h⟩ := h
  exact ⟨z, dn, nx, ln, RLz_ag a b h⟩
end sy_B
/-- from functions that go alike to calls that do -/
theorem two_of {R : px_H → px_H → Prop} (Rag : ∀ {a b a' b' : px_H}, agX a a' → agM b b' → R a b → R a' b') {κX κM : ac_K} (kX : nm_ok κX) (kM : nm_ok κM) (pX : κX.2.2.1 = []) (pM : κM.2.2.1 = []) (iX : isX κX.2.2.2.2.1 κX.2.2.2.2.2 = true) (iM : isM κM.2.2.2.2.1 κM.2.2.2.2.2 = true) {avX avM : List Value} (fX : px_H → Option (Int32 × px_H)) (fM : px_H → Option (Int32 × px_H))
    (xX : ∀ (h : px_H) (q : Int32 × px_H), oS h → fX h = some q → px_C nm_T nm_P κX.1 avX h (some (.int q.1)) q.2) (xM : ∀ (h : px_H) (q : Int32 × px_H), oS h → fM h = some q → px_C nm_T nm_P κM.1 avM h (some (.int q.1)) q.2) {cmp : Bool} {hp : px_H} (hG : ab_h nm_GH hp) (aX : ac_argv κX.2.1 avX) (aM : ac_argv κM.2.1 avM) (hR : R hp hp)
    (sim : ∀ hM : px_H, ab_h nm_GH hM → R hp hM → ∃ (v w : Int32) (hX' hM' : px_H), fX hp = some (v, hX') ∧ fM hM = some (w, hM') ∧ (cmp = true → v = w) ∧ R hX' hM') :
    ∃ (v v' : Int32) (hp1 hp2 : px_H), px_C nm_T nm_P κX.1 avX hp (some (.int v)) hp1 ∧ ab_h nm_GH hp1 ∧ px_C nm_T nm_P κM.1 avM hp1 (some (.int v')) hp2 ∧ ab_h nm_GH hp2 ∧ (cmp = true → v = v') ∧ R hp2 hp2 := by
  have hS := oS_of hG
  obtain ⟨v, w, h1, -, s1, -, -, -⟩ := sim hp hG hR
  have c1 := xX hp _ hS s1
  obtain ⟨r, g1, o, m1, m2, m3, m4, -, -, m7⟩ := kX avX hp hG aX (fun i hi => by rw [pX] at hi; cases hi)
  obtain ⟨-, e⟩ := px_C_fun c1 m2
  simp only at e
  rw [← e] at m3 m7
  have a1 : agM hp h1 := agM_of hS m7 iX
  obtain ⟨v2, w2, h1', h2, s3, s4, s5, s6⟩ := sim h1 m3 (Rag (agX_rf hp) a1 hR)
  rw [s1] at s3
  cases s3
  have c2 := xM h1 _ (oS_of m3) s4
  obtain ⟨r', g2, o', n1, n2, n3, n4, -, -, n7⟩ := kM avM h1 m3 aM (fun i hi => by rw [pM] at hi; cases hi)
  obtain ⟨-, e2⟩ := px_C_fun c2 n2
  simp only at e2
  rw [← e2] at n3 n7
  have a2 : agX h1 h2 := agX_of (oS_of m3) n7 iM
  exact ⟨v, w2, h1, h2, c1, m3, c2, n3, s5, Rag a2 (agM_rf h2) s6⟩
/-- frames of calls as frames of functions -/
theorem fz_fr {hp hp' : px_H} {ws : List (Nat × Nat)} {wa : List Nat} (hS : oS hp) (hS' : oS hp') (h : px_fr ws wa hp hp') : fz (fun c k => ac_has ws c k) (fun c => ac_in c wa) hp hp' := by
  have hl : ∀ c : Nat, hp[c]? = none → hp'[c]? = none := by
    intro c hc
    rw [List.getElem?_eq_none_iff] at hc ⊢
    rw [← hS'.1, hS.1]
    exact hc
  refine ⟨fun c k hw => ?_, fun c hv => ?_⟩
  · cases hx : hp[c]? with
    | none => unfold ac_fv; rw [hx, hl c hx]
    | some x =>
      cases x with
      | inl q =>
        have e1 : ac_fv hp c k = none := by unfold ac_fv; rw [hx]
        rw [e1]
        have h8 := List.getElem?_eq_some_iff.mp hx
        have hlt : c < nm_GH.length := by
          have := hS.1
          rw [List.length_map] at this
          rw [this]
          exact h8.1
        obtain ⟨y, hy, hc⟩ := oS_at hS' (List.getElem?_eq_getElem hlt)
        obtain ⟨y2, hy2, hc2⟩ := oS_at hS (List.getElem?_eq_getElem hlt)
        rw [hx] at hy2
        cases hy2
        unfold ac_fv
        rw [hy]
        cases y with
        | inl q2 => rfl
        | inr q2 =>
          exfalso
          cases hg : nm_GH[c] with
          | inl g => rw [hg] at hc2; exact hc2.elim
          | inr g => rw [hg] at hc; exact hc.elim
      | inr q =>
        obtain ⟨ci, vs⟩ := q
        obtain ⟨vs', h2, h3, h4⟩ := h.2 c ci vs hx
        unfold ac_fv
        rw [hx, h2]
        refine h4 k (fun hm => ?_)
        have : ac_has ws c k = true := List.any_eq_true.mpr ⟨(c, k), hm, by simp only [Nat.beq_refl, Bool.and_true]⟩
        have hw : ac_has ws c k = false := hw
        rw [this] at hw
        cases hw
  · cases hx : hp[c]? with
    | none => unfold aI aL; rw [hx, hl c hx]; exact ⟨rfl, rfl⟩
    | some x =>
      cases x with
      | inl q =>
        have h2 := h.1 c q (ac_in_no hv) hx
        unfold aI aL
        rw [hx, h2]
        exact ⟨rfl, rfl⟩
      | inr q =>
        obtain ⟨ci, vs⟩ := q
        obtain ⟨vs', h2, -, -⟩ := h.2 c ci vs hx
        unfold aI aL
        rw [hx, h2]
        exact ⟨rfl, rfl⟩
theorem two_of2 {R : px_H → px_H → Prop} (Rag : ∀ {a b a' b' : px_H}, agX a a' → agM b b' → R a b → R a' b') {P : px_H → px_H → px_H → Prop} {κX κM : ac_K} (kX : nm_ok κX) (kM : nm_ok κM) (pX : κX.2.2.1 = []) (pM : κM.2.2.1 = []) (iX : isX κX.2.2.2.2.1 κX.2.2.2.2.2 = true) (iM : isM κM.2.2.2.2.1 κM.2.2.2.2.2 = true) {avX avM : List Value} (fX : px_H → Option (Int32 × px_H)) (fM : px_H → Option (Int32 × px_H))
    (xX : ∀ (h : px_H) (q : Int32 × px_H), oS h → fX h = some q → px_C nm_T nm_P κX.1 avX h (some (.int q.1)) q.2) (xM : ∀ (h : px_H) (q : Int32 × px_H), oS h → fM h = some q → px_C nm_T nm_P κM.1 avM h (some (.int q.1)) q.2) {cmp : Bool} {hp : px_H} (hG : ab_h nm_GH hp) (aX : ac_argv κX.2.1 avX) (aM : ac_argv κM.2.1 avM) (hR : R hp hp)
    (sim : ∀ hM : px_H, ab_h nm_GH hM → R hp hM → ∃ (v w : Int32) (hX' hM' : px_H), fX hp = some (v, hX') ∧ fM hM = some (w, hM') ∧ (cmp = true → v = w) ∧ P hM hX' hM')
    (fin : ∀ hM hX' hM' : px_H, oS hX' → oS hM' → R hp hM → P hM hX' hM' → fz (fun c k => ac_has κX.2.2.2.2.1 c k) (fun c => ac_in c κX.2.2.2.2.2) hp hX' → fz (fun c k => ac_has κM.2.2.2.2.1 c k) (fun c => ac_in c κM.2.2.2.2.2) hM hM' → R hX' hM') :
    ∃ (v v' : Int32) (hp1 hp2 : px_H), px_C nm_T nm_P κX.1 avX hp (some (.int v)) hp1 ∧ ab_h nm_GH hp1 ∧ px_C nm_T nm_P κM.1 avM hp1 (some (.int v')) hp2 ∧ ab_h nm_GH hp2 ∧ (cmp = true → v = v') ∧ R hp2 hp2 := by
  have hS := oS_of hG
  obtain ⟨v, w, h1, -, s1, -, -, -⟩ := sim hp hG hR
  have c1 := xX hp _ hS s1
  obtain ⟨r, g1, o, m1, m2, m3, m4, -, -, m7⟩ := kX avX hp hG aX (fun i hi => by rw [pX] at hi; cases hi)
  obtain ⟨-, e⟩ := px_C_fun c1 m2
  simp only at e
  rw [← e] at m3 m7
  have a1 : agM hp h1 := agM_of hS m7 iX
  have hR1 := Rag (agX_rf hp) a1 hR
  obtain ⟨v2, w2, h1', h2, s3, s4, s5, s6⟩ := sim h1 m3 hR1
  rw [s1] at s3
  cases s3
  have c2 := xM h1 _ (oS_of m3) s4
  obtain ⟨r', g2, o', n1, n2, n3, n4, -, -, n7⟩ := kM avM h1 m3 aM (fun i hi => by rw [pM] at hi; cases hi)
  obtain ⟨-, e2⟩ := px_C_fun c2 n2
  simp only at e2
  rw [← e2] at n3 n7
  have a2 : agX h1 h2 := agX_of (oS_of m3) n7 iM
  exact ⟨v, w2, h1, h2, c1, m3, c2, n3, s5, Rag a2 (agM_rf h2) (fin h1 h1 h2 (oS_of m3) (oS_of n3) hR1 s6 (fz_fr hS (oS_of m3) m7) (fz_fr (oS_of m3) (oS_of n3) n7))⟩
end mg_7

section mg_8
/-! what frames leave as it was -/
def nX (W : Nat → Nat → Bool) (V : Nat → Bool) (fs : List (Nat × Nat)) (as : List Nat) : Bool := fs.all (fun q => !W q.1 q.2) && as.all (fun c => !V c)
section sy_C
variable {W W' : Nat → Nat → Bool} {V V' : Nat → Bool} {hX hX' hM hM' : px_H} {z dn nx ln : Nat}
theorem nX_f {fs : List (Nat × Nat)} {as : List Nat} (h : nX W V fs as = true) {c k : Nat} (hm : (c, k) ∈ fs) : W c k = false := by
  simp only [nX, Bool.and_eq_true] at h
  have := List.all_eq_true.mp h.1 _ hm
  simpa using this
theorem nX_a {fs : List (Nat × Nat)} {as : List Nat} (h : nX W V fs as = true) {c : Nat} (hm : c ∈ as) : V c = false := by
  simp only [nX, Bool.and_eq_true] at h
  have := List.all_eq_true.mp h.2 _ hm
  simpa using this
theorem TR_k (a : fz W V hX hX') (b : fz W' V' hM hM') (ha : nX W V [(1, 0), (1, 8)] [2, 3, 4, 5, 6, 7, 8, 9, 10, 11] = true) (hb : nX W' V' [(69, 3), (69, 11)] [71, 72, 73, 74, 75, 76, 77, 78, 79, 80] = true) (h : TR z dn hX hM) : TR z dn hX' hM' := by
  unfold TR
  rw [fz_gI a (c := 1) (k := 0) (nX_f ha (by decide)), fz_gI a (c := 1) (k := 8) (nX_f ha (by decide)), fz_gI b (c := 69) (k := 3) (nX_f hb (by decide)), fz_gI b (c := 69) (k := 11) (nX_f hb (by decide)), (a.2 2 (nX_a ha (by decide))).1, (a.2 3 (nX_a ha (by decide))).1, (a.2 4 (nX_a ha (by decide))).1, (a.2 5 (nX_a ha (by decide))).1, (a.2 6 (nX_a ha (by decide))).1, (a.2 7 (nX_a ha (by decide))).1, (a.2 8 (nX_a ha (by decide))).1, (a.2 9 (nX_a ha (by decide))).1, (a.2 10 (nX_a ha (by decide))).1, (a.2 11 (nX_a ha (by decide))).1, (b.2 71 (nX_a hb (by decide))).1, (b.2 72 (nX_a hb (by decide))).1, (b.2 73 (nX_a hb (by decide))).1, (b.2 74 (nX_a hb (by decide))).1, (b.2 75 (nX_a hb (by decide))).1, (b.2 76 (nX_a hb (by decide))).1, (b.2 77 (nX_a hb (by decide))).1, (b.2 78 (nX_a hb (by decide))).1, (b.2 79 (nX_a hb (by decide))).1, (b.2 80 (nX_a hb (by decide))).1]
  exact h
theorem RR0_k (a : fz W V hX hX') (b : fz W' V' hM hM') (ha : nX W V [(14, 3)] [15, 16, 17] = true) (hb : nX W' V' [] [81, 83, 84] = true) (h : RR0 ln hX hM) : RR0 ln hX' hM' := by
  unfold RR0
  rw [fz_gI a (c := 14) (k := 3) (nX_f ha (by decide)), (a.2 15 (nX_a ha (by decide))).1, (a.2 16 (nX_a ha (by decide))).1, (a.2 17 (nX_a ha (by decide))).1, (b.2 81 (nX_a hb (by decide))).1, (b.2 83 (nX_a hb (by decide))).1, (b.2 84 (nX_a hb (by decide))).1]
  exact h
theorem CL_k (a : fz W V hX hX') (b : fz W' V' hM hM') (ha : nX W V [(19, 0), (19, 1)] [] = true) (hb : nX W' V' [(69, 32), (69, 33)] [88, 89, 90] = true) (h : CL z nx 19 hX hM) : CL z nx 19 hX' hM' :=
  CL_eq h (fz_gL a (nX_f ha (by decide))) (fz_gI a (nX_f ha (by decide))) (b.2 88 (nX_a hb (by decide))).1 (b.2 89 (nX_a hb (by decide))).1 (b.2 90 (nX_a hb (by decide))).1 (fz_gI b (nX_f hb (by decide))) (fz_gI b (nX_f hb (by decide)))
theorem KP_k (a : fz W V hX hX') (b : fz W' V' hM hM') (ha : nX W V [(0, 14), (66, 0), (66, 1), (66, 2), (67, 0), (67, 1), (67, 2), (68, 0), (68, 1), (68, 2)] [52] = true) (hb : nX W' V' [] [100, 101, 102, 103, 104] = true) (h : KP z hX hM) : KP z hX' hM' := by
  have g : ∀ i, i < 3 → gL hX' (66 + i) 0 = gL hX (66 + i) 0 ∧ gI hX' (66 + i) 1 = gI hX (66 + i) 1 ∧ gI hX' (66 + i) 2 = gI hX (66 + i) 2 := by
    intro i hi
    match i, hi with
    | 0, _ => exact ⟨fz_gL a (nX_f ha (by decide)), fz_gI a (nX_f ha (by decide)), fz_gI a (nX_f ha (by decide))⟩
    | 1, _ => exact ⟨fz_gL a (nX_f ha (by decide)), fz_gI a (nX_f ha (by decide)), fz_gI a (nX_f ha (by decide))⟩
    | 2, _ => exact ⟨fz_gL a (nX_f ha (by decide)), fz_gI a (nX_f ha (by decide)), fz_gI a (nX_f ha (by decide))⟩
    | i + 3, h => omega
  obtain ⟨h2, h3⟩ := h
  unfold KP
  rw [fz_gI a (c := 0) (k := 14) (nX_f ha (by decide)), (b.2 100 (nX_a hb (by decide))).1]
  refine ⟨h2, fun i hi => ⟨(h3 i hi).1, fun e => ?_⟩⟩
  obtain ⟨nx, hk⟩ := (h3 i hi).2 e
  refine ⟨nx, ?_⟩
  unfold KQ
  rw [(g i hi).1, (g i hi).2.1, (g i hi).2.2, (a.2 52 (nX_a ha (by decide))).1, (b.2 101 (nX_a hb (by decide))).2, (b.2 102 (nX_a hb (by decide))).2, (b.2 103 (nX_a hb (by decide))).1, (b.2 104 (nX_a hb (by decide))).1]
  exact hk
/-- all of it, where nothing of it is written -/
theorem RLz_k (a : fz W V hX hX') (b : fz W' V' hM hM') (ha : nX W V [(1, 0), (1, 8), (14, 3), (19, 0), (19, 1), (19, 2), (0, 11), (0, 14), (66, 0), (66, 1), (66, 2), (67, 0), (67, 1), (67, 2), (68, 0), (68, 1), (68, 2)] [2, 3, 4, 5, 6, 7, 8, 9, 10, 11, 15, 16, 17, 52] = true) (hb : nX W' V' [(69, 3), (69, 11), (69, 15), (69, 20), (69, 31), (69, 32), (69, 33), (69, 37)] [71, 72, 73, 74, 75, 76, 77, 78, 79, 80, 81, 83, 84, 88, 89, 90, 100, 101, 102, 103, 104] = true) (h : RLz z dn nx ln hX hM) : RLz z dn nx ln hX' hM' := by
  have sX : ∀ {fs' : List (Nat × Nat)} {as' : List Nat}, (∀ q ∈ fs', q ∈ [(1, 0), (1, 8), (14, 3), (19, 0), (19, 1), (19, 2), (0, 11), (0, 14), (66, 0), (66, 1), (66, 2), (67, 0), (67, 1), (67, 2), (68, 0), (68, 1), (68, 2)]) → (∀ c ∈ as', c ∈ [2, 3, 4, 5, 6, 7, 8, 9, 10, 11, 15, 16, 17, 52]) → nX W V fs' as' = true := fun h1 h2 => by
    simp only [nX, Bool.and_eq_true]
    exact ⟨List.all_eq_true.mpr (fun q hq => by rw [nX_f ha (h1 q hq)]; rfl), List.all_eq_true.mpr (fun c hc => by rw [nX_a ha (h2 c hc)]; rfl)⟩
  have sM : ∀ {fs' : List (Nat × Nat)} {as' : List Nat}, (∀ q ∈ fs', q ∈ [(69, 3), (69, 11), (69, 15), (69, 20), (69, 31), (69, 32), (69, 33), (69, 37)]) → (∀ c ∈ as', c ∈ [71, 72, 73, 74, 75, 76, 77, 78, 79, 80, 81, 83, 84, 88, 89, 90, 100, 101, 102, 103, 104]) → nX W' V' fs' as' = true := fun h1 h2 => by
    simp only [nX, Bool.and_eq_true]
    exact ⟨List.all_eq_true.mpr (fun q hq => by rw [nX_f hb (h1 q hq)]; rfl), List.all_eq_true.mpr (fun c hc => by rw [nX_a hb (h2 c hc)]; rfl)⟩
  obtain ⟨h1, h2, h3, h4, ⟨h5, h6, h7⟩, h8, ⟨h9, h10⟩, h11⟩ := h
  refine ⟨TR_k a b (sX (by decide) (by decide)) (sM (by decide) (by decide)) h1, fun p hp hq => by rw [(a.2 3 (nX_a ha (by decide))).1]; exact h2 p hp hq, RR0_k a b (sX (by decide) (by decide)) (sM (by decide) (by decide)) h3, CL_k a b (sX (by decide) (by decide)) (sM (by decide) (by decide)) h4, ⟨h5, by rw [fz_gI a (nX_f ha (by decide))]; exact h6, by rw [fz_gI b (nX_f hb (by decide))]; exact h7⟩, ?_, ⟨by rw [fz_gI b (nX_f hb (by decide))]; exact h9, by rw [fz_gI b (nX_f hb (by decide))]; exact h10⟩, KP_k a b (sX (by decide) (by decide)) (sM (by decide) (by decide)) h11⟩
  rw [fz_gI a (nX_f ha (by decide)), fz_gI b (c := 69) (k := 37) (nX_f hb (by decide))]
  exact h8
end sy_C
def Wt (c k : Nat) : Bool := Nat.beq c 69 && Nat.beq k 0
/-- the model first says that nothing was thrown -/
theorem vl_thr {h : px_H} (hS : oS h) : oS (wF h 69 0 (.int (Int32.ofInt 0))) ∧ fz Wt V0 h (wF h 69 0 (.int (Int32.ofInt 0))) := ⟨oS_wI (cs := [69]) (ci := 9) rfl List.mem_cons_self hS, fz_wF rfl⟩
/-! guards -/
theorem b01_in (x : Int64) (a b : Int64) : sx_in x a b = b01 (decide (a.toInt ≤ x.toInt ∧ x.toInt ≤ b.toInt)) := by
  unfold sx_in
  by_cases h : a.toInt ≤ x.toInt ∧ x.toInt ≤ b.toInt
  · rw [if_pos h, decide_eq_true h]; rfl
  · rw [if_neg h, decide_eq_false h]; rfl
theorem zr_b01 (t : Bool) : px_zr .boolean (b01 t) = true := by cases t <;> decide
theorem lt0 (x : Int32) : px_cmp .lt x 0 = decide (x.toInt < 0) := by
  simp only [px_cmp, Int32.lt_iff_toInt_lt, show (0 : Int32).toInt = 0 from by decide]
theorem cmp_ge (x y : Int32) : px_cmp .ge x y = decide (y.toInt ≤ x.toInt) := by simp only [px_cmp, Int32.le_iff_toInt_le]
theorem cmp_lt (x y : Int32) : px_cmp .lt x y = decide (x.toInt < y.toInt) := by simp only [px_cmp, Int32.lt_iff_toInt_lt]
theorem cmp_le (x y : Int32) : px_cmp .le x y = decide (x.toInt ≤ y.toInt) := by simp only [px_cmp, Int32.le_iff_toInt_le]
theorem i64c : (Int64.ofNat 0).toInt = 0 ∧ (Int64.ofNat 1).toInt = 1 ∧ (Int64.ofInt 2).toInt = 2 ∧ (Int64.ofInt 5).toInt = 5 ∧ (Int64.ofInt 10).toInt = 10 ∧ (Int64.ofInt 999).toInt = 999 ∧ (Int64.ofInt 1000).toInt = 1000 ∧ (Int64.ofNat 3).toInt = 3 := by decide
/-- two tests in a row -/
theorem two_t {a b c : Bool} (h : c = (!a && !b)) : (bif a then some (Int32.ofInt 0) else bif b then some (Int32.ofInt 0) else some (Int32.ofInt 1)) = some (b01 c) := by
  subst h
  cases a <;> cases b <;> rfl
theorem nat_of {a : Int32} {n : Nat} (h0 : 0 ≤ a.toInt) (h1 : a.toInt < n) : ∃ p, p < n ∧ a = Int32.ofNat p := by
  refine ⟨a.toInt.toNat, by omega, ?_⟩
  have h2 := (ab_i32 a).2
  simp only [ab_topi] at h2
  rw [← Int32.toInt_inj, nm_ofNat_toInt _ (by omega)]
  omega
def inN (a : Int32) (n : Nat) : Bool := decide (0 ≤ a.toInt ∧ a.toInt < n)
theorem inN_t {a : Int32} {n : Nat} (h : inN a n = true) : ∃ p, p < n ∧ a = Int32.ofNat p := by
  have := of_decide_eq_true h
  exact nat_of this.1 this.2
section sy_D
variable {h : px_H} {z : Nat}
theorem gd_hasPerson (hz : gI h 1 0 = Int32.ofNat z) (z9 : z ≤ 10) (a : Int32) : fn_Town_hasPerson a h = some (b01 (inN a z)) := by
  unfold fn_Town_hasPerson
  rw [hz, lt0, cmp_ge, nm_ofNat_toInt z (by omega)]
  refine two_t ?_
  unfold inN
  rw [← decide_not, ← decide_not, ← Bool.decide_and]
  simp only [decide_eq_decide]
  omega
theorem gd_isBag (a : Int32) : fn_X_isBag a h = some (b01 (inN a 2)) := by
  unfold fn_X_isBag
  rw [lt0, cmp_ge, show (Int32.ofInt 2).toInt = 2 from by decide]
  refine two_t ?_
  unfold inN
  rw [← decide_not, ← decide_not, ← Bool.decide_and]
  simp only [decide_eq_decide]
  omega
theorem gd_isDay (a : Int32) : fn_X_isDay a h = some (b01 (inN a 1000)) := by
  unfold fn_X_isDay
  rw [lt0, cmp_ge, show (Int16.ofInt 1000).toInt32.toInt = 1000 from by decide]
  refine two_t ?_
  unfold inN
  rw [← decide_not, ← decide_not, ← Bool.decide_and]
  simp only [decide_eq_decide]
  omega
theorem sub1_toInt {z : Nat} (z9 : z ≤ 10) : (Int32.ofNat z - Int32.ofInt 1).toInt64.toInt = (z : Int) - 1 := by
  rw [Int32.toInt_toInt64, Int32.toInt_sub, nm_ofNat_toInt z (by omega), show (Int32.ofInt 1).toInt = 1 from by decide]
  rw [Int.bmod_eq_of_le] <;> omega
theorem gd_isPerson (hz : gI h 69 3 = Int32.ofNat z) (z9 : z ≤ 10) (a : Int32) : fn_M_isPerson a h = some (b01 (inN a z)) := by
  have e : sx_in a.toInt64 (Int64.ofNat 0) ((gI h 69 3) - (Int32.ofInt 1)).toInt64 = b01 (inN a z) := by
    rw [hz, b01_in, sub1_toInt z9, Int32.toInt_toInt64, i64c.1]
    unfold inN
    congr 1
    simp only [decide_eq_decide]
    omega
  unfold fn_M_isPerson
  rw [e, zr_b01]
  rfl
theorem gd_MisBag (a : Int32) : fn_M_isBag a h = some (b01 (inN a 2)) := by
  have e : sx_in a.toInt64 (Int64.ofNat 0) (Int64.ofNat 1) = b01 (inN a 2) := by
    rw [b01_in, Int32.toInt_toInt64, i64c.1, i64c.2.1]
    unfold inN
    congr 1
    simp only [decide_eq_decide]
    omega
  unfold fn_M_isBag
  rw [e, zr_b01]
  rfl
theorem in_999 (a : Int32) : sx_in a.toInt64 (Int64.ofNat 0) (Int64.ofInt 999) = b01 (inN a 1000) := by
  rw [b01_in, Int32.toInt_toInt64, i64c.1, i64c.2.2.2.2.2.1]
  unfold inN
  congr 1
  simp only [decide_eq_decide]
  omega
theorem p2_t : (List.range 11).all (fun z => decide (((Int32.ofInt 1) <<< (Int32.ofNat z &&& 31)).toInt = (2 : Int) ^ z) && decide ((((Int32.ofInt 1) <<< (Int32.ofNat z &&& 31)) - (Int32.ofInt 1)).toInt = (2 : Int) ^ z - 1)) = true := by decide +kernel
theorem p2 {z : Nat} (h : z ≤ 10) : ((Int32.ofInt 1) <<< (Int32.ofNat z &&& 31)).toInt = (2 : Int) ^ z ∧ (((Int32.ofInt 1) <<< (Int32.ofNat z &&& 31)) - (Int32.ofInt 1)).toInt = (2 : Int) ^ z - 1 := by
  have := List.all_eq_true.mp p2_t z (List.mem_range.mpr (by omega))
  simpa only [Bool.and_eq_true, decide_eq_true_eq] using this
def inS (a : Int32) (z : Nat) : Bool := decide (0 ≤ a.toInt ∧ a.toInt < (2 : Int) ^ z)
theorem gd_hasAll (hz : gI h 1 0 = Int32.ofNat z) (z9 : z ≤ 10) (a : Int32) : fn_Town_hasAll a h = some (b01 (inS a z)) := by
  unfold fn_Town_hasAll
  rw [hz, lt0, cmp_ge, (p2 z9).1]
  refine two_t ?_
  unfold inS
  rw [← decide_not, ← decide_not, ← Bool.decide_and]
  simp only [decide_eq_decide]
  omega
theorem gd_isSet (hz : gI h 69 3 = Int32.ofNat z) (z9 : z ≤ 10) (a : Int32) : fn_M_isSet a h = some (b01 (inS a z)) := by
  have e : sx_in a.toInt64 (Int64.ofNat 0) (((Int32.ofInt 1) <<< ((gI h 69 3) &&& 31)) - (Int32.ofInt 1)).toInt64 = b01 (inS a z) := by
    rw [hz, b01_in, Int32.toInt_toInt64, Int32.toInt_toInt64, (p2 z9).2, i64c.1]
    unfold inS
    congr 1
    simp only [decide_eq_decide]
    omega
  unfold fn_M_isSet
  rw [e, zr_b01]
  rfl
theorem inS_sz {a : Int32} (h : inS a z = true) : sz z a := by
  have h := of_decide_eq_true h
  intro i hi
  unfold ib
  rw [← BitVec.testBit_toNat]
  have e : a.toBitVec.toNat < 2 ^ z := by
    have h2 : a.toInt = a.toBitVec.toInt := rfl
    rw [h2, BitVec.toInt_eq_toNat_cond] at h
    have h3 : ((2 ^ z : Nat) : Int) = (2 : Int) ^ z := by rw [Int.natCast_pow]; rfl
    obtain ⟨h4, h5⟩ := h
    split at h4
    · rename_i h6
      rw [if_pos h6] at h5
      omega
    · omega
  exact Nat.testBit_lt_two_pow (Nat.lt_of_lt_of_le e (Nat.pow_le_pow_right (by decide) hi))
end sy_D
end mg_8

section mg_9
/-! the calls, pair by pair -/
section sy_E
variable {z dn nx ln : Nat} {hX hM : px_H}
theorem sim_seed (oX : oS hX) (oM : oS hM) (hR : RLz z dn nx ln hX hM) (a : Int32) : ∃ (v : Int32) (hX' hM' : px_H), fn_X_seed a hX = some (v, hX') ∧ fn_M_seed a hM = some (v, hM') ∧ RLz z dn nx ln hX' hM' := by
  obtain ⟨o1, f1⟩ := vl_thr oM
  have f2 : fz (fun c k => Nat.beq c 69 && (Nat.beq k 0 || Nat.beq k 37)) V0 hM (wF (wF hM 69 0 (.int (Int32.ofInt 0))) 69 37 (.int a)) := fz_tr (fz_wF rfl) (fz_wF rfl)
  have g2 : gI (wF (wF hM 69 0 (.int (Int32.ofInt 0))) 69 37 (.int a)) 69 37 = a := gI_wF (cs := [69]) (ci := 9) rfl List.mem_cons_self o1
  have fX : fz Wa V0 hX (wF hX 0 11 (.int a)) := fz_wF rfl
  have gX : gI (wF hX 0 11 (.int a)) 0 11 = a := gI_wF (cs := [0]) (ci := 8) rfl List.mem_cons_self oX
  obtain ⟨h1, h2, h3, h4, ⟨h5, h6, h7⟩, h8, ⟨h9, h10⟩, h11⟩ := hR
  refine ⟨gI hX 0 11, wF hX 0 11 (.int a), wF (wF hM 69 0 (.int (Int32.ofInt 0))) 69 37 (.int a), rfl, ?_, TR_k fX f2 (by decide) (by decide) h1, fun p hp hq => by rw [(fX.2 3 rfl).1]; exact h2 p hp hq, RR0_k fX f2 (by decide) (by decide) h3, CL_k fX f2 (by decide) (by decide) h4, ⟨h5, (fz_gI fX rfl).trans h6, (fz_gI f2 rfl).trans h7⟩, gX.trans g2.symm, ⟨(fz_gI f2 rfl).trans h9, (fz_gI f2 rfl).trans h10⟩, KP_k fX f2 (by decide) (by decide) h11⟩
  unfold fn_M_seed
  simp only [sb]
  rw [show gI (wF hM 69 0 (.int (Int32.ofInt 0))) 69 37 = gI hM 69 37 from fz_gI f1 rfl, ← h8]
theorem RLz_thr (hR : RLz z dn nx ln hX hM) (oM : oS hM) : RLz z dn nx ln hX (wF hM 69 0 (.int (Int32.ofInt 0))) := RLz_k (W := W0) (V := V0) fz_rf (vl_thr oM).2 (by decide) (by decide) hR
theorem sim_bag (oM : oS hM) (hR : RLz z dn nx ln hX hM) (a1 a2 : Int32) : ∃ (v : Int32) (hM' : px_H), fn_X_bag a1 a2 hX = some v ∧ fn_M_bag a1 a2 hM = some (v, hM') ∧ RLz z dn nx ln hX hM' := by
  have hR1 := RLz_thr hR oM
  unfold fn_X_bag fn_M_bag
  simp only [sb]
  generalize wF hM 69 0 (.int (Int32.ofInt 0)) = h1 at hR1 ⊢
  have hC := hR1.2.2.2.1
  rw [gd_isBag, gd_MisBag, Option.bind_some, Option.bind_some, cmp_b01]
  cases hb : inN a1 2 with
  | false => exact ⟨_, h1, rfl, rfl, hR1⟩
  | true =>
    obtain ⟨b, b2, rfl⟩ := inN_t hb
    obtain ⟨c1, c2⟩ := CL_b b2 hC
    have e2 : sx_in a2.toInt64 (Int64.ofNat 0) (Int64.ofNat 1) = b01 (decide (0 ≤ a2.toInt ∧ a2.toInt ≤ 1)) := by rw [b01_in, Int32.toInt_toInt64, i64c.1, i64c.2.1]
    simp only [Bool.not_true, cond_false, e2, cmp_b01, lt0, cmp_le, show (Int32.ofInt 1).toInt = 1 from by decide, n2b b2, vl_part, Option.bind_some, nm_inR b 2 b2 (by omega), nm_ofNat_clamp b (by omega), cond_true, c1, c2]
    by_cases h0 : a2.toInt < 0
    · rw [decide_eq_true h0, decide_eq_false (show ¬ (0 ≤ a2.toInt ∧ a2.toInt ≤ 1) by omega)]
      exact ⟨_, h1, rfl, rfl, hR1⟩
    · by_cases h9 : a2.toInt ≤ 1
      · rw [decide_eq_false h0, decide_eq_true h9, decide_eq_true (show 0 ≤ a2.toInt ∧ a2.toInt ≤ 1 by omega)]
        simp only [Bool.not_true, cond_false, cond_true]
        cases px_cmp .ne a2 0
        · exact ⟨_, h1, rfl, rfl, hR1⟩
        · exact ⟨_, h1, rfl, rfl, hR1⟩
      · rw [decide_eq_false h0, decide_eq_false h9, decide_eq_false (show ¬ (0 ≤ a2.toInt ∧ a2.toInt ≤ 1) by omega)]
        exact ⟨_, h1, rfl, rfl, hR1⟩
theorem sat_v {v : Nat} (h : v ≤ 6) : px_cmp .ge (Int32.ofNat v - Int32.ofInt 1) 0 = px_cmp .ne (Int32.ofNat v) 0 := by
  have : (List.range 7).all (fun v => decide (px_cmp .ge (Int32.ofNat v - Int32.ofInt 1) 0 = px_cmp .ne (Int32.ofNat v) 0)) = true := by decide +kernel
  exact of_decide_eq_true (List.all_eq_true.mp this v (List.mem_range.mpr (by omega)))
theorem sim_sat (oM : oS hM) (hR : RLz z dn nx ln hX hM) (a1 : Int32) : ∃ (v : Int32) (hM' : px_H), fn_X_sat a1 hX = some v ∧ fn_M_sat a1 hM = some (v, hM') ∧ RLz z dn nx ln hX hM' := by
  have hR1 := RLz_thr hR oM
  unfold fn_X_sat fn_M_sat
  simp only [sb]
  generalize wF hM 69 0 (.int (Int32.ofInt 0)) = h1 at hR1 ⊢
  have hC := hR1.2.2.2.1
  have hT := hR1.1
  have n6 := hR1.2.2.2.2.1.1
  rw [gd_hasPerson hT.2.2.1 hT.1, gd_isPerson hT.2.2.2.1 hT.1, Option.bind_some, Option.bind_some, cmp_b01n]
  cases hb : inN a1 z with
  | false => exact ⟨_, h1, rfl, rfl, hR1⟩
  | true =>
    obtain ⟨p, pz, rfl⟩ := inN_t hb
    have p10 : p < 10 := by have := hT.1; omega
    obtain ⟨s1, v, v1, v2⟩ := hC.2.1 p p10
    have e : fn_X_lastIn (gI hX 19 1) (Int32.ofNat p) hX = some (Int32.ofNat v - Int32.ofInt 1) := by
      show some (sq (gI hX 19 1) p - Int32.ofInt 1) = _
      rw [s1, v2]
    simp only [cond_true, e, Option.bind_some, sat_v (show v ≤ 6 by omega), nm_inR p 10 p10 (by omega), nm_ofNat_clamp p (by omega), v2]
    cases px_cmp .ne (Int32.ofNat v) 0
    · exact ⟨_, h1, rfl, rfl, hR1⟩
    · exact ⟨_, h1, rfl, rfl, hR1⟩
/-! the next drawing is made ready -/
def WS (c k : Nat) : Bool := Nat.beq c 21
def VS (c : Nat) : Bool := Nat.beq c 26 || Nat.beq c 27
theorem vl_set (oX : oS hX) (a2 a3 a4 : Int32) : ∃ h', fn_Course_set 14 a2 a3 a4 hX = some h' ∧ oS h' ∧ fz WS VS hX h' ∧ gR h' 21 1 = 14 ∧ aI h' 26 0 = a2 ∧ aI h' 26 1 = a3 ∧ gI h' 21 3 = a4 := by
  unfold fn_Course_set
  simp only [sb, show (Int32.ofInt 0).toNatClampNeg = 0 from rfl, show (Int32.ofInt 1).toNatClampNeg = 1 from rfl]
  have s1 : oS (wF hX 21 1 (.ref 14)) := oS_wR (ci := 1) rfl oX
  have g1 : gR (wF hX 21 1 (.ref 14)) 21 1 = 14 := gR_wF (cs := [21]) (ci := 1) rfl List.mem_cons_self oX
  have f1 : fz WS VS hX (wF hX 21 1 (.ref 14)) := fz_wF rfl
  generalize wF hX 21 1 (.ref 14) = h1 at s1 g1 f1 ⊢
  have s2 : oS (uI h1 26 0 a2) := oS_uI (cs := [26]) (t := 3) (n := 2) rfl List.mem_cons_self s1
  have e2 : aI (uI h1 26 0 a2) 26 = upd (aI h1 26) 0 a2 := aI_uI (cs := [26]) (t := 3) (n := 2) rfl List.mem_cons_self s1
  have g2 : gR (uI h1 26 0 a2) 21 1 = 14 := gR_uI.trans g1
  have f2 : fz WS VS hX (uI h1 26 0 a2) := fz_tr f1 (fz_uI rfl)
  generalize uI h1 26 0 a2 = h2 at s2 e2 g2 f2 ⊢
  have s3 : oS (uI h2 26 1 a3) := oS_uI (cs := [26]) (t := 3) (n := 2) rfl List.mem_cons_self s2
  have e3 : aI (uI h2 26 1 a3) 26 = upd (upd (aI h1 26) 0 a2) 1 a3 := by rw [aI_uI (cs := [26]) (t := 3) (n := 2) rfl List.mem_cons_self s2, e2]
  have g3 : gR (uI h2 26 1 a3) 21 1 = 14 := gR_uI.trans g2
  have f3 : fz WS VS hX (uI h2 26 1 a3) := fz_tr f2 (fz_uI rfl)
  generalize uI h2 26 1 a3 = h3 at s3 e3 g3 f3 ⊢
  refine ⟨wF h3 21 3 (.int a4), rfl, oS_wI (cs := [21]) (ci := 1) rfl List.mem_cons_self s3, fz_tr f3 (fz_wF rfl), (gR_wF_ne (by decide)).trans g3, ?_, ?_, gI_wF (cs := [21]) (ci := 1) rfl List.mem_cons_self s3⟩
  · rw [aI_wF, e3]; rfl
  · rw [aI_wF, e3]; rfl
theorem RR_of (oX : oS hX) (h : RR0 ln hX hM) : RR 14 0 ln hX hM := by
  obtain ⟨l7, r1, r2, r3⟩ := h
  have g : gR hX 14 0 = 15 ∧ gR hX 14 1 = 16 ∧ gR hX 14 2 = 17 := by
    refine ⟨?_, ?_, ?_⟩
    · exact List.mem_singleton.mp (bR_ok (cs := [14]) (ci := 3) (k := 0) (ds := [15]) rfl List.mem_cons_self oX).choose_spec.2.2
    · exact List.mem_singleton.mp (bR_ok (cs := [14]) (ci := 3) (k := 1) (ds := [16]) rfl List.mem_cons_self oX).choose_spec.2.2
    · exact List.mem_singleton.mp (bR_ok (cs := [14]) (ci := 3) (k := 2) (ds := [17]) rfl List.mem_cons_self oX).choose_spec.2.2
  refine ⟨l7, by omega, r1, r2, fun k hk => ?_⟩
  rw [g.1, g.2.1, g.2.2, show 7 * 0 + k = k from by omega]
  exact r3 k hk
/-- what the class makes ready, in the model's words -/
theorem sim_readyNow (oX : oS hX) (hR : RLz z dn nx ln hX hM) (hd : nx < dn) :
    ∃ (h' : px_H) (b : Nat) (K S F kn : Nat → Int32) (ow aw dd : Int32), fn_X_readyNow hX = some h' ∧ oS h' ∧ fz WS VS hX h' ∧ CE z nx ln K S F kn ow aw dd h' ∧ EN z nx ln 0 b K S F kn ow aw dd hM ∧ gI h' 21 5 = Int32.ofNat b ∧ gI h' 21 6 = aI hM 80 nx ∧ aI h' 26 b = aI hM 76 b ∧ sz z (aI hM 76 b) ∧ aI h' 8 b = aI hM 77 b := by
  have hR0 := hR
  obtain ⟨h1, h2, h3, h4, ⟨h5, h6, h7⟩, h8, ⟨h9, h10⟩, h11⟩ := hR
  obtain ⟨hs, s1, s2, s3, s4, s5, s6, s7⟩ := vl_set oX (aI hX 7 0) (aI hX 7 1) (Int32.ofInt 0)
  have T1 : TR z dn hs hM := TR_k s3 (fz_rf (W := W0) (V := V0)) (by decide) (by decide) h1
  have Q1 : RR0 ln hs hM := RR0_k s3 (fz_rf (W := W0) (V := V0)) (by decide) (by decide) h3
  obtain ⟨h', b, K, S, F, kn, ow, aw, dd, a1, a2, a3, a4, a5, a6, a7⟩ := sim_ready T1 (RR_of s2 Q1) s2 (by decide) s4 h9 (fun p _ => by rw [s7, h10]) hd
  have b2 : b < 2 := a5.2.2.2.2.1
  refine ⟨h', b, K, S, F, kn, ow, aw, dd, ?_, a2, fz_tr s3 (fz_mono a3 (fun c k hc => ?_) (fun c hc => ?_)), a4, a5, a6, a7, ?_, (h1.2.2.2.2.2.2.2.1 b b2).2.2, ?_⟩
  · unfold fn_X_readyNow
    rw [show (Int32.ofInt 0).toNatClampNeg = 0 from rfl, show (Int32.ofInt 1).toNatClampNeg = 1 from rfl, s1, Option.bind_some, show gI hs 19 2 = Int32.ofNat nx from (fz_gI s3 rfl).trans h6, a1]
    rfl
  · unfold WS at hc
    unfold WR
    rw [hc, Bool.false_and]
  · unfold VS at hc
    simp only [Bool.or_eq_false_iff] at hc
    exact hc.2
  · rw [(a3.2 26 rfl).1]
    match b, b2 with
    | 0, _ => exact s5.trans (h1.2.2.2.2.2.2.2.1 0 (by omega)).1
    | 1, _ => exact s6.trans (h1.2.2.2.2.2.2.2.1 1 (by omega)).1
    | b + 2, h => omega
  · rw [(a3.2 8 rfl).1, (s3.2 8 rfl).1]
    exact (h1.2.2.2.2.2.2.2.1 b b2).2.1
theorem left_eq (hR : RLz z dn nx ln hX hM) : fn_X_isDrawingLeft hX = some (b01 (decide (nx < dn))) ∧ px_cmp .lt (gI hM 69 31) (gI hM 69 11) = decide (nx < dn) := by
  obtain ⟨h1, h2, h3, h4, ⟨h5, h6, h7⟩, -⟩ := hR
  have d6 := h1.2.1
  constructor
  · unfold fn_X_isDrawingLeft
    rw [h6, h1.2.2.2.2.1, cmp_ge, nm_ofNat_toInt nx (by omega), nm_ofNat_toInt dn (by omega)]
    by_cases h : nx < dn
    · rw [decide_eq_true h, decide_eq_false (by omega)]; rfl
    · rw [decide_eq_false h, decide_eq_true (by omega)]; rfl
  · rw [h7, h1.2.2.2.2.2.1, cmp_lt, nm_ofNat_toInt nx (by omega), nm_ofNat_toInt dn (by omega)]
    simp only [decide_eq_decide]
    omega
theorem sim_bars (oX : oS hX) (oM : oS hM) (hR : RLz z dn nx ln hX hM) (a1 : Int32) : ∃ (v : Int32) (hX' hM' : px_H), fn_X_bars a1 hX = some (v, hX') ∧ fn_M_bars a1 hM = some (v, hM') ∧ RLz z dn nx ln hX' hM' := by
  have hR1 := RLz_thr hR oM
  unfold fn_X_bars fn_M_bars
  simp only [sb]
  generalize wF hM 69 0 (.int (Int32.ofInt 0)) = h1 at hR1 ⊢
  have hT := hR1.1
  rw [gd_hasPerson hT.2.2.1 hT.1, gd_isPerson hT.2.2.2.1 hT.1, Option.bind_some, Option.bind_some, cmp_b01]
  cases hb : inN a1 z with
  | false => exact ⟨_, hX, h1, rfl, rfl, hR1⟩
  | true =>
    obtain ⟨p, pz, rfl⟩ := inN_t hb
    have p10 : p < 10 := by have := hT.1; omega
    obtain ⟨l1, l2⟩ := left_eq hR1
    rw [l1, l2, Option.bind_some, cmp_b01n]
    simp only [Bool.not_true, cond_false]
    by_cases hd : nx < dn
    · rw [decide_eq_true hd]
      simp only [cond_true]
      obtain ⟨h', b, K, S, F, kn, ow, aw, dd, a1, a2, a3, a4, a5, a6, a7, a8, a9, a10⟩ := sim_readyNow oX hR1 hd
      have hR2 : RLz z dn nx ln h' h1 := RLz_k a3 (fz_rf (W := W0) (V := V0)) (by decide) (by decide) hR1
      have hN := a5
      obtain ⟨z9, d6, l7, r4, b2, hE, hbg, hRl, hP⟩ := a5
      obtain ⟨s1, v, v1, v2⟩ := hR2.2.2.2.1.2.1 p p10
      have m3 : gI h1 69 33 = Int32.ofInt 0 := hR2.2.2.2.1.1.2.2.2.2.2.2
      rw [a1, Option.bind_some, hb_eq _ (show p < 32 by omega), a4.2.2.2.2.2.2.2.2.2, (hP p pz).1, hR1.2.2.2.2.1.2.2, vl_isDead p10 d6, Option.bind_some, cmp_b01, vl_lineAgainst a4 z9 l7 _ p10, line_eq hN (sit := Int32.ofInt 0) (s := gI h' 19 1) pz (fun q _ => by rw [m3]) s1 v2 (by omega), vl_MbarredBy hE z9 r4 l7 p10 d6, Option.bind_some, Option.bind_some]
      show ∃ (v : Int32) (hX' hM' : px_H), (bif !mDead h1 p nx then _ else _) = _ ∧ (bif !mDead h1 p nx then _ else _) = _ ∧ _
      cases mDead h1 p nx
      · simp only [Bool.not_false, cond_true]
        cases px_cmp .ge (fr_ (mLine h1 z 0 ln p nx)) 0
        · exact ⟨_, h', h1, rfl, rfl, hR2⟩
        · exact ⟨_, h', h1, rfl, rfl, hR2⟩
      · exact ⟨_, h', h1, rfl, rfl, hR2⟩
    · rw [decide_eq_false hd]
      exact ⟨_, hX, h1, rfl, rfl, hR1⟩
end sy_E
end mg_9

section mg_10
/-! run, hold, judge, begin: the calls -/
theorem seats_b {hM : px_H} (hG : ab_h nm_GH hM) {d : Nat} (hd : d < 6) : ∃ s, s ≤ 3 ∧ aI hM 80 d = Int32.ofNat s := by
  obtain ⟨g, hx, hb⟩ := ac_arrI hG (c := 80) (t := nr_seatsOf) (n := 6) (by omega) rfl
  have e : aI hM 80 = g := by unfold aI; rw [hx]
  rw [e]
  obtain ⟨p, p3, hp⟩ := nat_of (n := 4) (hb d hd).1 (by have := (hb d hd).2; omega)
  exact ⟨p, by omega, hp⟩
section sy_F
variable {z dn nx ln : Nat} {hX hM : px_H}
/-- what a drawing that was done leaves -/
def RP (z nx : Nat) (hX' hM' : px_H) : Prop := CL z (nx + 1) 19 hX' hM' ∧ gI hM' 69 31 = Int32.ofNat (nx + 1) ∧ gI hX' 19 2 = Int32.ofNat (nx + 1) ∧ gI hX' 0 11 = gI hM' 69 37
theorem fz_VO {h h' : px_H} (a : fz WM VO h h') : fz WMr VMr h h' := fz_mono a (fun _ _ h => (wm_1 h).1) (fun c hc => by
  have := (vm_1 hc).1
  unfold VM at this
  unfold VO
  simp only [Bool.or_eq_false_iff] at this ⊢
  exact ⟨this.1, this.2.1⟩)
theorem bc_0 : nm_bc (Int32.ofInt 0) = Int32.ofNat 0 := by decide +kernel
theorem sim_Run (oX : oS hX) (hG : ab_h nm_GH hM) (hR : RLz z dn nx ln hX hM) : ∃ (v : Int32) (hX' hM' : px_H), fn_X_run hX = some (v, hX') ∧ fn_M_run hM = some (v, hM') ∧ ((nx < dn ∧ RP z nx hX' hM' ∧ RW hX' hM') ∨ (RLz z dn nx ln hX' hM' ∧ hX' = hX ∧ hM' = wF hM 69 0 (.int (Int32.ofInt 0)))) := by
  have oM := oS_of hG
  have hR1 := RLz_thr hR oM
  obtain ⟨o1, f1⟩ := vl_thr oM
  have hs80 : ∀ d, d < 6 → ∃ s, s ≤ 3 ∧ aI (wF hM 69 0 (.int (Int32.ofInt 0))) 80 d = Int32.ofNat s := fun d hd => by rw [aI_wF]; exact seats_b hG hd
  unfold fn_X_run fn_M_run
  simp only [sb]
  obtain ⟨l1, l2⟩ := left_eq hR1
  rw [l1, l2, Option.bind_some, cmp_b01n]
  by_cases hd : nx < dn
  · rw [decide_eq_true hd]
    simp only [cond_true]
    generalize wF hM 69 0 (.int (Int32.ofInt 0)) = m1 at hR1 o1 f1 hs80 ⊢
    obtain ⟨x1, b, K, S, F, kn, ow, aw, dd, a1, a2, a3, a4, a5, a6, a7, a8, a9, a10⟩ := sim_readyNow oX hR1 hd
    have d6 : nx < 6 := a5.2.1
    obtain ⟨s, s3, hs⟩ := hs80 nx d6
    have hR2 : RLz z dn nx ln x1 m1 := RLz_k a3 (fz_rf (W := W0) (V := V0)) (by decide) (by decide) hR1
    obtain ⟨x2, m2, b1, b2, b3, b4, b5, b6, b7, b8⟩ := sim_open a5 (c := 19) (by decide) a2 o1 a4 a6 hR2.2.2.2.1 (Nat.le_refl nx) a8 a9 a10
    rw [a1, Option.bind_some, b1, Option.bind_some, hR1.2.2.2.2.1.2.2, b4, Option.bind_some]
    have o3 : oS (wF x2 48 1 (.int (Int32.ofInt 0))) := oS_wI (cs := [48]) (ci := 2) rfl List.mem_cons_self b2
    have f3 : fz WT VT x2 (wF x2 48 1 (.int (Int32.ofInt 0))) := fz_wF rfl
    have g3 : gI (wF x2 48 1 (.int (Int32.ofInt 0))) 48 1 = Int32.ofNat 0 := gI_wF (cs := [48]) (ci := 2) rfl List.mem_cons_self b2
    rw [show fn_Row_clear x2 = some (wF x2 48 1 (.int (Int32.ofInt 0))) from rfl, Option.bind_some]
    generalize wF x2 48 1 (.int (Int32.ofInt 0)) = x3 at o3 f3 g3 ⊢
    have E2 := CE_c a2 (c := 19) (by decide) a4 b3
    have E3 := CE_x b2 E2 (fz_mono f3 (fun _ _ h => (wx_1 h).2.2.2) (fun _ h => (vx_1 h).1))
    have w80 : aI m2 80 = aI m1 80 := (b6.2 80 rfl).1
    have hL : LI z nx b ln 0 s K S F kn ow aw dd 0 0 x3 m2 := by
      refine ⟨o3, b5, E3, EN_m a5 (fz_VO b6), DR_eq b8 (fz_gL f3 rfl) (fz_gI f3 rfl) rfl rfl rfl rfl rfl, (fz_gI f3 rfl).trans ((fz_gI b3 rfl).trans a6), ?_, by rw [w80]; exact hs, ?_, g3, by rw [b7]; exact bc_0, ?_, fun i hi => by omega, fun i hi => by omega⟩
      · rw [w80]; exact (fz_gI f3 rfl).trans ((fz_gI b3 rfl).trans a7)
      · rw [fz_gI f3 rfl, fz_gI b3 rfl, fz_gI b6 rfl]; exact hR2.2.2.2.2.2.1
      · rw [fz_gI f3 rfl, fz_gI b3 rfl]; exact hR2.2.2.2.2.1.2.1
    obtain ⟨mx, hX', hM', r1, r2, r3⟩ := sim_run s3 (cb (ib (aI m2 88 b)) 10) 0 0 fu fu x3 m2 rfl (by have := cb_le (ib (aI m2 88 b)) 10; omega) (fu_lt (by have := cb_le (ib (aI m2 88 b)) 10; omega)) (fu_lt (by have := cb_le (ib (aI m2 88 b)) 10; omega)) (by omega) hL
    exact ⟨Int32.ofNat mx, hX', hM', r1, r2, Or.inl ⟨hd, ⟨r3.2.2.2.1, r3.2.2.2.2.1, r3.2.2.2.2.2.1, r3.2.2.2.2.2.2.1⟩, r3.2.2.2.2.2.2.2⟩⟩
  · rw [decide_eq_false hd]
    exact ⟨_, hX, _, rfl, rfl, Or.inr ⟨hR1, rfl, rfl⟩⟩
/-! begin -/
theorem vl_asBefore_L (h : px_H) : ∀ (m p n : Nat) (h : px_H), p + m = 10 → m < n → oS h → ∃ h', fn_M_isAsBefore_L34 n (Int32.ofNat p) h = some h' ∧ oS h' ∧ fz (fun c k => Nat.beq c 69 && (Nat.beq k 31 || (Nat.beq k 32 || Nat.beq k 33))) V90 h h' ∧ gI h' 69 31 = Int32.ofInt 0 ∧ gI h' 69 32 = Int32.ofInt 0 ∧ gI h' 69 33 = Int32.ofInt 0 ∧ ∀ q, aI h' 90 q = if p ≤ q ∧ q < 10 then Int32.ofInt 0 else aI h 90 q := by
  intro m
  induction m with
  | zero =>
    intro p n h hm hn hS
    obtain ⟨n, rfl⟩ : ∃ k, n = k + 1 := ⟨n - 1, by omega⟩
    have : p = 10 := by omega
    subst this
    show ∃ h', fb_M_isAsBefore_L34 (fn_M_isAsBefore_L34 n) (Int32.ofNat 10) h = some h' ∧ _
    unfold fb_M_isAsBefore_L34
    rw [ten, ge_t]
    simp only [cond_true, sb]
    have s1 : oS (wF h 69 32 (.int (Int32.ofInt 0))) := oS_wI (cs := [69]) (ci := 9) rfl List.mem_cons_self hS
    have e1 : gI (wF h 69 32 (.int (Int32.ofInt 0))) 69 32 = Int32.ofInt 0 := gI_wF (cs := [69]) (ci := 9) rfl List.mem_cons_self hS
    have f1 : fz (fun c k => Nat.beq c 69 && (Nat.beq k 31 || (Nat.beq k 32 || Nat.beq k 33))) V90 h (wF h 69 32 (.int (Int32.ofInt 0))) := fz_wF rfl
    have x1 : aI (wF h 69 32 (.int (Int32.ofInt 0))) 90 = aI h 90 := aI_wF
    generalize wF h 69 32 (.int (Int32.ofInt 0)) = h1 at s1 e1 f1 x1 ⊢
    have s2 : oS (wF h1 69 33 (.int (Int32.ofInt 0))) := oS_wI (cs := [69]) (ci := 9) rfl List.mem_cons_self s1
    have e2 : gI (wF h1 69 33 (.int (Int32.ofInt 0))) 69 33 = Int32.ofInt 0 := gI_wF (cs := [69]) (ci := 9) rfl List.mem_cons_self s1
    have e3 : gI (wF h1 69 33 (.int (Int32.ofInt 0))) 69 32 = Int32.ofInt 0 := (gI_wF_ne (by decide)).trans e1
    have f2 : fz (fun c k => Nat.beq c 69 && (Nat.beq k 31 || (Nat.beq k 32 || Nat.beq k 33))) V90 h (wF h1 69 33 (.int (Int32.ofInt 0))) := fz_tr f1 (fz_wF rfl)
    have x2 : aI (wF h1 69 33 (.int (Int32.ofInt 0))) 90 = aI h 90 := aI_wF.trans x1
    generalize wF h1 69 33 (.int (Int32.ofInt 0)) = h2 at s2 e2 e3 f2 x2 ⊢
    refine ⟨wF h2 69 31 (.int (Int32.ofInt 0)), rfl, oS_wI (cs := [69]) (ci := 9) rfl List.mem_cons_self s2, fz_tr f2 (fz_wF rfl), gI_wF (cs := [69]) (ci := 9) rfl List.mem_cons_self s2, (gI_wF_ne (by decide)).trans e3, (gI_wF_ne (by decide)).trans e2, fun q => ?_⟩
    rw [aI_wF, x2, if_neg (by omega)]
  | succ m ih =>
    intro p n h hm hn hS
    obtain ⟨n, rfl⟩ : ∃ k, n = k + 1 := ⟨n - 1, by omega⟩
    show ∃ h', fb_M_isAsBefore_L34 (fn_M_isAsBefore_L34 n) (Int32.ofNat p) h = some h' ∧ _
    unfold fb_M_isAsBefore_L34
    rw [ten, ge_f (show p < 10 by omega) (by omega), nm_inR p 10 (by omega) (by omega), nm_ofNat_clamp p (by omega), inc1]
    simp only [cond_true, cond_false, sb]
    have s1 : oS (uI h 90 p (Int32.ofInt 0)) := oS_uI (cs := [90]) (t := nr_satLast) (n := 10) rfl List.mem_cons_self hS
    have x1 : aI (uI h 90 p (Int32.ofInt 0)) 90 = upd (aI h 90) p (Int32.ofInt 0) := aI_uI (cs := [90]) (t := nr_satLast) (n := 10) rfl List.mem_cons_self hS
    have f1 : fz (fun c k => Nat.beq c 69 && (Nat.beq k 31 || (Nat.beq k 32 || Nat.beq k 33))) V90 h (uI h 90 p (Int32.ofInt 0)) := fz_uI rfl
    generalize uI h 90 p (Int32.ofInt 0) = h1 at s1 x1 f1 ⊢
    obtain ⟨h', a1, a2, a3, a4, a5, a6, a7⟩ := ih (p + 1) n h1 (by omega) (by omega) s1
    refine ⟨h', a1, a2, fz_tr f1 a3, a4, a5, a6, fun q => ?_⟩
    rw [a7 q, x1]
    simp only [upd]
    by_cases e : q = p
    · rw [if_neg (by omega), if_pos e, if_pos (by omega)]
    · rw [if_neg e]
      by_cases e2 : p + 1 ≤ q ∧ q < 10
      · rw [if_pos e2, if_pos (by omega)]
      · rw [if_neg e2, if_neg (by omega)]
def V8 (c : Nat) : Bool := Nat.beq c 88 || (Nat.beq c 89 || Nat.beq c 90)
def W3n (c k : Nat) : Bool := Nat.beq c 69 && (Nat.beq k 31 || (Nat.beq k 32 || Nat.beq k 33))
theorem vl_asBefore (hS : oS hM) : ∃ h', fn_M_isAsBefore hM = some h' ∧ oS h' ∧ fz W3n V8 hM h' ∧ gI h' 69 31 = Int32.ofInt 0 ∧ gI h' 69 32 = Int32.ofInt 0 ∧ gI h' 69 33 = Int32.ofInt 0 ∧ (∀ q, q < 10 → aI h' 90 q = Int32.ofInt 0) ∧ aI h' 88 0 = aI hM 76 0 ∧ aI h' 88 1 = aI hM 76 1 ∧ aI h' 89 0 = Int32.ofInt 0 ∧ aI h' 89 1 = Int32.ofInt 0 := by
  have st : ∀ (h : px_H) (b : Nat), b < 2 → oS h → oS (uI (uI h 88 b (aI h 76 b)) 89 b (Int32.ofInt 0)) ∧ fz W3n V8 h (uI (uI h 88 b (aI h 76 b)) 89 b (Int32.ofInt 0)) ∧ aI (uI (uI h 88 b (aI h 76 b)) 89 b (Int32.ofInt 0)) 88 = upd (aI h 88) b (aI h 76 b) ∧ aI (uI (uI h 88 b (aI h 76 b)) 89 b (Int32.ofInt 0)) 89 = upd (aI h 89) b (Int32.ofInt 0) := by
    intro h b hb hS
    have s1 : oS (uI h 88 b (aI h 76 b)) := oS_uI (cs := [88]) (t := nr_inBag) (n := 2) rfl List.mem_cons_self hS
    refine ⟨oS_uI (cs := [89]) (t := nr_aside) (n := 2) rfl List.mem_cons_self s1, fz_tr (fz_uI rfl) (fz_uI rfl), ?_, ?_⟩
    · rw [aI_uI_ne (by decide), aI_uI (cs := [88]) (t := nr_inBag) (n := 2) rfl List.mem_cons_self hS]
    · rw [aI_uI (cs := [89]) (t := nr_aside) (n := 2) rfl List.mem_cons_self s1, aI_uI_ne (by decide)]
  obtain ⟨n, hn⟩ : ∃ n, fu = n + 3 := ⟨fu - 3, by have := fu_ge; omega⟩
  obtain ⟨o1, f1, x1, y1⟩ := st hM 0 (by omega) hS
  have e76 : aI (uI (uI hM 88 0 (aI hM 76 0)) 89 0 (Int32.ofInt 0)) 76 = aI hM 76 := (f1.2 76 rfl).1
  generalize hh1 : uI (uI hM 88 0 (aI hM 76 0)) 89 0 (Int32.ofInt 0) = h1 at o1 f1 x1 y1 e76
  obtain ⟨o2, f2, x2, y2⟩ := st h1 1 (by omega) o1
  rw [e76] at o2 f2 x2 y2
  generalize hh2 : uI (uI h1 88 1 (aI hM 76 1)) 89 1 (Int32.ofInt 0) = h2 at o2 f2 x2 y2
  obtain ⟨h', a1, a2, a3, a4, a5, a6, a7⟩ := vl_asBefore_L h2 10 0 fu h2 (by omega) (fu_lt (by omega)) o2
  refine ⟨h', ?_, a2, fz_tr f1 (fz_tr f2 (fz_mono a3 (fun c k h => h) (fun c hc => ?_))), a4, a5, a6, fun q hq => by rw [a7 q, if_pos ⟨by omega, hq⟩], ?_, ?_, ?_, ?_⟩
  · unfold fn_M_isAsBefore
    rw [hn]
    show fb_M_isAsBefore_L2 (fn_M_isAsBefore_L2 (n + 2)) (Int32.ofNat 0) hM = _
    unfold fb_M_isAsBefore_L2
    rw [show Int32.ofInt 2 = Int32.ofNat 2 from by decide, ge_f (show 0 < 2 by omega) (by omega), nm_inR 0 2 (by omega) (by omega), nm_ofNat_clamp 0 (by omega), inc1]
    show fn_M_isAsBefore_L2 (n + 2) (Int32.ofNat 1) (uI (uI hM 88 0 (aI hM 76 0)) 89 0 (Int32.ofInt 0)) = _
    rw [hh1]
    show fb_M_isAsBefore_L2 (fn_M_isAsBefore_L2 (n + 1)) (Int32.ofNat 1) h1 = _
    unfold fb_M_isAsBefore_L2
    rw [show Int32.ofInt 2 = Int32.ofNat 2 from by decide, ge_f (show 1 < 2 by omega) (by omega), nm_inR 1 2 (by omega) (by omega), nm_ofNat_clamp 1 (by omega), inc1, e76]
    show fn_M_isAsBefore_L2 (n + 1) (Int32.ofNat 2) (uI (uI h1 88 1 (aI hM 76 1)) 89 1 (Int32.ofInt 0)) = _
    rw [hh2]
    show fb_M_isAsBefore_L2 (fn_M_isAsBefore_L2 n) (Int32.ofNat 2) h2 = _
    unfold fb_M_isAsBefore_L2
    rw [show Int32.ofInt 2 = Int32.ofNat 2 from by decide, ge_t, cond_true]
    exact a1
  · unfold V8 at hc
    simp only [Bool.or_eq_false_iff] at hc
    exact hc.2.2
  · rw [(a3.2 88 rfl).1, x2, x1]; rfl
  · rw [(a3.2 88 rfl).1, x2]; rfl
  · rw [(a3.2 89 rfl).1, y2, y1]; rfl
  · rw [(a3.2 89 rfl).1, y2]; rfl
theorem pv_0 {w : Nat} (hw : w < 6) : pv (Int64.ofNat 0) w = Int32.ofInt 0 := sm_ext (pv_sm _ _) sm_z (fun i hi => by rw [pv_ib _ hw hi, ib_z]; exact (lb_c (show 10 * w + i < 64 by omega)).1)
theorem sq_0 {p : Nat} (hp : p < 10) : sq (Int32.ofInt 0) p = Int32.ofInt 0 := s3_ext (sq_s3 _ _) (fun i _ => ib_z i) (fun i hi => by rw [sq_ib _ hp hi, ib_z, ib_z])
theorem vl_startAnew {c : Nat} (oX : oS hX) (hc : c ∈ chs) {a1 a2 : Int32} (s1 : sm a1) (s2 : sm a2) : ∃ h', fn_Chest_startAnew c a1 a2 hX = some h' ∧ oS h' ∧ fz (fun a k => Nat.beq a c) V0 hX h' ∧ gI h' c 1 = Int32.ofInt 0 ∧ gI h' c 2 = Int32.ofInt 0 ∧ pv (gL h' c 0) 0 = a1 ∧ pv (gL h' c 0) 1 = a2 ∧ ∀ w, 2 ≤ w → w < 6 → pv (gL h' c 0) w = Int32.ofInt 0 := by
  unfold fn_Chest_startAnew
  simp only [sb]
  have wcc : Nat.beq c c = true := Nat.beq_refl c
  have o1 : oS (wF hX c 0 (.long (Int64.ofNat 0))) := oS_wL (cs := chs) (ci := 0) rfl hc oX
  have e1 : gL (wF hX c 0 (.long (Int64.ofNat 0))) c 0 = Int64.ofNat 0 := gL_wF (cs := chs) (ci := 0) rfl hc oX
  have f1 : fz (fun a k => Nat.beq a c) V0 hX (wF hX c 0 (.long (Int64.ofNat 0))) := fz_wF wcc
  generalize wF hX c 0 (.long (Int64.ofNat 0)) = h1 at o1 e1 f1 ⊢
  have o2 : oS (wF h1 c 1 (.int (Int32.ofInt 0))) := oS_wI (cs := chs) (ci := 0) rfl hc o1
  have e2 : gL (wF h1 c 1 (.int (Int32.ofInt 0))) c 0 = Int64.ofNat 0 := (gL_wF_ne (by omega)).trans e1
  have g2 : gI (wF h1 c 1 (.int (Int32.ofInt 0))) c 1 = Int32.ofInt 0 := gI_wF (cs := chs) (ci := 0) rfl hc o1
  have f2 : fz (fun a k => Nat.beq a c) V0 hX (wF h1 c 1 (.int (Int32.ofInt 0))) := fz_tr f1 (fz_wF wcc)
  generalize wF h1 c 1 (.int (Int32.ofInt 0)) = h2 at o2 e2 g2 f2 ⊢
  have o3 : oS (wF h2 c 2 (.int (Int32.ofInt 0))) := oS_wI (cs := chs) (ci := 0) rfl hc o2
  have e3 : gL (wF h2 c 2 (.int (Int32.ofInt 0))) c 0 = Int64.ofNat 0 := (gL_wF_ne (by omega)).trans e2
  have g3 : gI (wF h2 c 2 (.int (Int32.ofInt 0))) c 1 = Int32.ofInt 0 := (gI_wF_ne (by omega)).trans g2
  have k3 : gI (wF h2 c 2 (.int (Int32.ofInt 0))) c 2 = Int32.ofInt 0 := gI_wF (cs := chs) (ci := 0) rfl hc o2
  have f3 : fz (fun a k => Nat.beq a c) V0 hX (wF h2 c 2 (.int (Int32.ofInt 0))) := fz_tr f2 (fz_wF wcc)
  generalize wF h2 c 2 (.int (Int32.ofInt 0)) = h3 at o3 e3 g3 k3 f3 ⊢
  obtain ⟨h4, a1', a2', a3, a4, a5⟩ := vl_setPart o3 hc (w := 0) (by omega) s1
  obtain ⟨h5, c1, c2, c3, c4, c5⟩ := vl_setPart a2' hc (w := 1) (by omega) s2
  have wm : ∀ a k, (fun a (_ : Nat) => Nat.beq a c) a k = false → Wc c a k = false := fun a k h => by
    unfold Wc
    simp only at h
    rw [h, Bool.false_and]
  have nk : Wc c c 2 = false := wc_k 2 rfl
  refine ⟨h5, ?_, c2, fz_tr f3 (fz_tr (fz_mono a3 wm (fun _ h => h)) (fz_mono c3 wm (fun _ h => h))), c4.trans (a4.trans g3), ?_, ?_, ?_, fun w h2 h6 => ?_⟩
  · rw [show fn_Chest_setPart c (Int32.ofInt 0) a1 h3 = some h4 from a1', Option.bind_some, show fn_Chest_setPart c (Int32.ofInt 1) a2 h4 = some h5 from c1]
    rfl
  · rw [fz_gI c3 nk, fz_gI a3 nk]; exact k3
  · rw [c5 0 (by omega), if_neg (by omega), a5 0 (by omega), if_pos rfl]
  · rw [c5 1 (by omega), if_pos rfl]
  · rw [c5 w h6, if_neg (by omega), a5 w h6, if_neg (by omega), e3, pv_0 h6]
theorem sim_begin (oX : oS hX) (oM : oS hM) (hR : RLz z dn nx ln hX hM) : ∃ (v : Int32) (hX' hM' : px_H), fn_X_begin hX = some (v, hX') ∧ fn_M_begin hM = some (v, hM') ∧ RLz z dn 0 ln hX' hM' := by
  have hR1 := RLz_thr hR oM
  obtain ⟨o1, -⟩ := vl_thr oM
  unfold fn_X_begin fn_M_begin
  simp only [sb]
  generalize wF hM 69 0 (.int (Int32.ofInt 0)) = m1 at hR1 o1 ⊢
  obtain ⟨h1, h2, h3, h4, ⟨h5, h6, h7⟩, h8, ⟨h9, h10⟩, h11⟩ := hR1
  have z9 := h1.1
  obtain ⟨p0, -, q0⟩ := h1.2.2.2.2.2.2.2.1 0 (by omega)
  obtain ⟨p1, -, q1⟩ := h1.2.2.2.2.2.2.2.1 1 (by omega)
  obtain ⟨x1, a1, a2, a3, a4, a5, a6, a7, a8⟩ := vl_startAnew oX (c := 19) (by decide) (a1 := aI hX 7 0) (a2 := aI hX 7 1) (by rw [p0]; exact sz_sm z9 q0) (by rw [p1]; exact sz_sm z9 q1)
  obtain ⟨m2, b1, b2, b3, b4, b5, b6, b7, b8, b9, b10, b11⟩ := vl_asBefore o1
  refine ⟨gI hX 19 2, x1, m2, ?_, ?_, TR_k a3 b3 (by decide) (by decide) h1, fun p hp hq => by rw [(a3.2 3 rfl).1]; exact h2 p hp hq, RR0_k a3 b3 (by decide) (by decide) h3, ⟨⟨a6.trans (p0.trans b8.symm), a7.trans (p1.trans b9.symm), (a8 2 (by omega) (by omega)).trans b10.symm, (a8 3 (by omega) (by omega)).trans b11.symm, a8 4 (by omega) (by omega), b5, b6⟩, fun p hp => ?_, fun j hj => ?_⟩, ⟨by omega, a5, b4⟩, ?_, ⟨(fz_gI b3 rfl).trans h9, (fz_gI b3 rfl).trans h10⟩, KP_k a3 b3 (by decide) (by decide) h11⟩
  · rw [show (Int32.ofInt 0).toNatClampNeg = 0 from rfl, show (Int32.ofInt 1).toNatClampNeg = 1 from rfl, a1]
    rfl
  · rw [b1, h7, h6]
    rfl
  · rw [a4, b7 p hp, sq_0 hp]
    exact ⟨rfl, 0, by omega, rfl⟩
  · match j, hj with
    | 0, _ => exact ⟨by rw [b8]; exact q0, by rw [b10]; exact fun i _ => ib_z i⟩
    | 1, _ => exact ⟨by rw [b9]; exact q1, by rw [b11]; exact fun i _ => ib_z i⟩
    | j + 2, h => omega
  · rw [fz_gI a3 rfl, fz_gI b3 rfl]; exact h8
end sy_F
end mg_10

section mg_11
/-! what the model remembers and comes back to -/
def Wrm (c k : Nat) : Bool := Nat.beq c 69 && (Nat.beq k 34 || (Nat.beq k 35 || Nat.beq k 36))
theorem vl_remembers {h : px_H} (hS : oS h) : ∃ h', fn_M_remembers h = some h' ∧ oS h' ∧ fz Wrm V0 h h' ∧ gL h' 69 34 = f1v (aI h 88 0) (aI h 88 1) (aI h 89 0) (aI h 89 1) (gI h 69 32) (gI h 69 33) ∧ gL h' 69 35 = sc (aI h 90) 10 ∧ gI h' 69 36 = gI h 69 31 := by
  unfold fn_M_remembers
  rw [vl_first, Option.bind_some]
  simp only [sb]
  generalize f1v (aI h 88 0) (aI h 88 1) (aI h 89 0) (aI h 89 1) (gI h 69 32) (gI h 69 33) = x
  have s1 : oS (wF h 69 34 (.long x)) := oS_wL (cs := [69]) (ci := 9) rfl List.mem_cons_self hS
  have e1 : gL (wF h 69 34 (.long x)) 69 34 = x := gL_wF (cs := [69]) (ci := 9) rfl List.mem_cons_self hS
  have f1 : fz Wrm V0 h (wF h 69 34 (.long x)) := fz_wF rfl
  have x1 : aI (wF h 69 34 (.long x)) 90 = aI h 90 := aI_wF
  generalize wF h 69 34 (.long x) = h1 at s1 e1 f1 x1 ⊢
  rw [vl_second, Option.bind_some, x1]
  generalize sc (aI h 90) 10 = y
  have s2 : oS (wF h1 69 35 (.long y)) := oS_wL (cs := [69]) (ci := 9) rfl List.mem_cons_self s1
  have e2 : gL (wF h1 69 35 (.long y)) 69 35 = y := gL_wF (cs := [69]) (ci := 9) rfl List.mem_cons_self s1
  have e3 : gL (wF h1 69 35 (.long y)) 69 34 = x := (gL_wF_ne (by decide)).trans e1
  have f2 : fz Wrm V0 h (wF h1 69 35 (.long y)) := fz_tr f1 (fz_wF rfl)
  generalize wF h1 69 35 (.long y) = h2 at s2 e2 e3 f2 ⊢
  refine ⟨wF h2 69 36 (.int (gI h2 69 31)), rfl, oS_wI (cs := [69]) (ci := 9) rfl List.mem_cons_self s2, fz_tr f2 (fz_wF rfl), (gL_wF_ne (by decide)).trans e3, (gL_wF_ne (by decide)).trans e2, ?_⟩
  rw [gI_wF (cs := [69]) (ci := 9) rfl List.mem_cons_self s2]
  exact fz_gI f2 rfl
theorem vl_comesBack {h : px_H} (hS : oS h) : ∃ h', fn_M_comesBack h = some h' ∧ oS h' ∧ fz W3n VM h h' ∧ (aI h' 88 0 = pv (gL h 69 34) 0 ∧ aI h' 88 1 = pv (gL h 69 34) 1 ∧ aI h' 89 0 = pv (gL h 69 34) 2 ∧ aI h' 89 1 = pv (gL h 69 34) 3 ∧ gI h' 69 32 = pv (gL h 69 34) 4 ∧ gI h' 69 33 = pv (gL h 69 34) 5) ∧ (∀ p, p < 10 → aI h' 90 p = uq (gL h 69 35) p) ∧ gI h' 69 31 = gI h 69 36 := by
  obtain ⟨h1, a1, a2, a3, ⟨b1, b2, b3, b4, b5, b6⟩, a5⟩ := vl_unpacks hS (gL h 69 34) (gL h 69 35)
  have e36 : gI h1 69 36 = gI h 69 36 := fz_gI a3 rfl
  have f1 : fz W3n VM h h1 := fz_mono a3 (fun c k hc => by
    unfold W3n at hc
    unfold WM
    cases h69 : Nat.beq c 69
    · rfl
    · rw [h69, Bool.true_and] at hc
      simp only [Bool.or_eq_false_iff] at hc
      rw [Bool.true_and, hc.2.1, hc.2.2]
      rfl) (fun _ h => h)
  refine ⟨wF h1 69 31 (.int (gI h 69 36)), ?_, oS_wI (cs := [69]) (ci := 9) rfl List.mem_cons_self a2, fz_tr f1 (fz_wF rfl), ⟨?_, ?_, ?_, ?_, ?_, ?_⟩, fun p hp => ?_, gI_wF (cs := [69]) (ci := 9) rfl List.mem_cons_self a2⟩
  · unfold fn_M_comesBack
    rw [a1, Option.bind_some]
    simp only [sb]
    rw [e36]
  · rw [aI_wF]; exact b1
  · rw [aI_wF]; exact b2
  · rw [aI_wF]; exact b3
  · rw [aI_wF]; exact b4
  · rw [gI_wF_ne (by decide)]; exact b5
  · rw [gI_wF_ne (by decide)]; exact b6
  · rw [aI_wF]; exact a5 p hp
/-- the chest stands as before -/
def SM (h h' : px_H) : Prop := (aI h' 88 0 = aI h 88 0 ∧ aI h' 88 1 = aI h 88 1 ∧ aI h' 89 0 = aI h 89 0 ∧ aI h' 89 1 = aI h 89 1 ∧ gI h' 69 32 = gI h 69 32 ∧ gI h' 69 33 = gI h 69 33) ∧ (∀ p, p < 10 → aI h' 90 p = aI h 90 p) ∧ gI h' 69 31 = gI h 69 31
theorem restore {h h5 h9 : px_H} (s : sm (aI h 88 0) ∧ sm (aI h 88 1) ∧ sm (aI h 89 0) ∧ sm (aI h 89 1) ∧ sm (gI h 69 32) ∧ sm (gI h 69 33)) (s3' : ∀ p, p < 10 → s3 (aI h 90 p)) (e1 : gL h5 69 34 = f1v (aI h 88 0) (aI h 88 1) (aI h 89 0) (aI h 89 1) (gI h 69 32) (gI h 69 33)) (e2 : gL h5 69 35 = sc (aI h 90) 10) (e3 : gI h5 69 36 = gI h 69 31) (k1 : gL h9 69 34 = gL h5 69 34) (k2 : gL h9 69 35 = gL h5 69 35) (k3 : gI h9 69 36 = gI h5 69 36) (o9 : oS h9) :
    ∃ h', fn_M_comesBack h9 = some h' ∧ oS h' ∧ fz W3n VM h9 h' ∧ SM h h' := by
  obtain ⟨h', a1, a2, a3, ⟨b1, b2, b3, b4, b5, b6⟩, a5, a6⟩ := vl_comesBack o9
  obtain ⟨p0, p1, p2', p3, p4, p5⟩ := f1_pv s.1 s.2.1 s.2.2.1 s.2.2.2.1 s.2.2.2.2.1 s.2.2.2.2.2
  rw [k1, e1] at b1 b2 b3 b4 b5 b6
  refine ⟨h', a1, a2, a3, ⟨b1.trans p0, b2.trans p1, b3.trans p2', b4.trans p3, b5.trans p4, b6.trans p5⟩, fun p hp => ?_, ?_⟩
  · rw [a5 p hp, k2, e2]
    exact uq_sc s3' hp
  · rw [a6, k3, e3]
section sy_G
variable {z dn nx ln : Nat} {hX hM : px_H}
theorem CL_sm {hM' : px_H} (s : SM hM hM') (h : CL z nx 19 hX hM) : CL z nx 19 hX hM' := by
  obtain ⟨⟨q0, q1, q2, q3, q4, m2, m3⟩, hs, hz⟩ := h
  obtain ⟨⟨a0, a1, a2, a3, a4, a5⟩, a6, a7⟩ := s
  refine ⟨⟨q0.trans a0.symm, q1.trans a1.symm, q2.trans a2.symm, q3.trans a3.symm, q4, a4.trans m2, a5.trans m3⟩, fun p hp => by rw [a6 p hp]; exact hs p hp, fun j hj => ?_⟩
  match j, hj with
  | 0, _ => rw [a0, a2]; exact hz 0 (by omega)
  | 1, _ => rw [a1, a3]; exact hz 1 (by omega)
  | j + 2, h => omega
theorem CL_sms (z9 : z ≤ 10) (h : CL z nx 19 hX hM) (n6 : nx ≤ 6) : (sm (aI hM 88 0) ∧ sm (aI hM 88 1) ∧ sm (aI hM 89 0) ∧ sm (aI hM 89 1) ∧ sm (gI hM 69 32) ∧ sm (gI hM 69 33)) ∧ ∀ p, p < 10 → s3 (aI hM 90 p) := by
  obtain ⟨⟨q0, q1, q2, q3, q4, m2, m3⟩, hs, hz⟩ := h
  refine ⟨⟨sz_sm z9 (hz 0 (by omega)).1, sz_sm z9 (hz 1 (by omega)).1, sz_sm z9 (hz 0 (by omega)).2, sz_sm z9 (hz 1 (by omega)).2, by rw [m2]; exact sm_z, by rw [m3]; exact sm_z⟩, fun p hp => ?_⟩
  obtain ⟨-, v, v1, v2⟩ := hs p hp
  rw [v2]
  exact s3_of (by omega)
/-- slips that are told, in the model alone -/
def MI (z r ln d b : Nat) (h : px_H) : Prop := oS h ∧ ME z r ln h ∧ z ≤ 10 ∧ r < 4 ∧ ln ≤ 7 ∧ d < 6 ∧ aI h 79 d = Int32.ofNat b ∧ b < 2 ∧ sm (aI h 88 b) ∧ sm (aI h 89 b) ∧ sm (gI h 69 32) ∧ sm (gI h 69 33)
theorem ME_wm {r : Nat} {h h' : px_H} (a : fz WM VM h h') (hE : ME z r ln h) : ME z r ln h' := ⟨(fz_gI a rfl).trans hE.1, (fz_gI a rfl).trans hE.2.1, by rw [(a.2 81 rfl).1]; exact hE.2.2⟩
theorem vl_goesBy_L (T : Int64) {nn r d b : Nat} (n10 : nn ≤ 10) : ∀ (m k n : Nat) (h : px_H), k + m = nn → m < n → MI z r ln d b h → ∃ (j : Nat) (h' : px_H), j ≤ nn ∧ fn_M_goesBy_L15 T (Int32.ofNat nn) (Int32.ofNat d) n (Int32.ofNat k) h = some (Int32.ofNat j, h') ∧ oS h' ∧ fz WM VM h h' ∧ (j = nn → ∀ i, k ≤ i → i < nn → ∃ p, p < 10 ∧ slp T i = Int32.ofNat p) := by
  intro m
  induction m with
  | zero =>
    intro k n h hm hn hI
    obtain ⟨n, rfl⟩ : ∃ k, n = k + 1 := ⟨n - 1, by omega⟩
    have : k = nn := by omega
    subst this
    refine ⟨k, h, Nat.le_refl k, ?_, hI.1, fz_rf, fun _ i h1 h2 => by omega⟩
    show fb_M_goesBy_L15 T (Int32.ofNat k) (Int32.ofNat d) (fn_M_goesBy_L15 T (Int32.ofNat k) (Int32.ofNat d) n) (Int32.ofNat k) h = _
    unfold fb_M_goesBy_L15
    rw [ge_t]
    rfl
  | succ m ih =>
    intro k n h hm hn hI
    obtain ⟨n, rfl⟩ : ∃ k, n = k + 1 := ⟨n - 1, by omega⟩
    obtain ⟨oM, hE, z9, r4, l7, d6, hb, b2, s8, s9, s2, s3⟩ := hI
    obtain ⟨p, p16, hp⟩ := slp_lt T k
    show ∃ (j : Nat) (h' : px_H), j ≤ nn ∧ fb_M_goesBy_L15 T (Int32.ofNat nn) (Int32.ofNat d) (fn_M_goesBy_L15 T (Int32.ofNat nn) (Int32.ofNat d) n) (Int32.ofNat k) h = _ ∧ _
    unfold fb_M_goesBy_L15
    rw [ge_f (show k < nn by omega) (by omega), slp_M T (show k < 10 by omega), hp, vl_MisOver d6 hb b2, Option.bind_some, cmp_b01n, cond_false, ten]
    cases (px_cmp .eq (aI h 88 b) 0 || !px_cmp .ne (nm_bc (gI h 69 33)) (aI h 80 d)) with
    | true => exact ⟨k, h, by omega, rfl, oM, fz_rf, fun e => by omega⟩
    | false =>
      rw [cond_false]
      by_cases p10 : p < 10
      · rw [ge_f p10 (by omega), cond_false, nm_inR d 6 d6 (by omega), nm_ofNat_clamp d (by omega), hb, nm_inR b 2 b2 (by omega), nm_ofNat_clamp b (by omega), cond_true, cond_true, has_ne _ (show p < 32 by omega)]
        cases ib (aI h 88 b) p with
        | false => exact ⟨k, h, by omega, rfl, oM, fz_rf, fun e => by omega⟩
        | true =>
          rw [cond_true]
          obtain ⟨h3, c1, c2, c3, c4, c5, c6, c7, c8, c9, c10⟩ := vl_takes oM hE z9 r4 l7 d6 p10 hb b2 s8 s9 s2 s3
          rw [c1, Option.bind_some, inc1]
          obtain ⟨j, h', j1, j2, j3, j4, j5⟩ := ih (k + 1) n h3 (by omega) (by omega) ⟨c2, ME_wm c3 hE, z9, r4, l7, d6, by rw [(c3.2 79 rfl).1]; exact hb, b2, c5, c6, c7, c8⟩
          refine ⟨j, h', j1, j2, j3, fz_tr c3 j4, fun e i h1 h2 => ?_⟩
          by_cases e2 : i = k
          · rw [e2]; exact ⟨p, p10, hp⟩
          · exact j5 e i (by omega) h2
      · have hge : px_cmp .ge (Int32.ofNat p) (Int32.ofNat 10) = true := by
          rw [cmp_ge, nm_ofNat_toInt p (by omega), nm_ofNat_toInt 10 (by omega)]
          simp only [decide_eq_true_eq]
          omega
        rw [hge]
        exact ⟨k, h, by omega, rfl, oM, fz_rf, fun e => by omega⟩
/-- the model's slips from the beginning on -/
theorem vl_goesBy (T : Int64) {nn : Nat} (n10 : nn ≤ 10) (oM : oS hM) (hR : RLz z dn nx ln hX hM) (hd : nx < dn) {m1 : px_H} (o1 : oS m1) (f1 : fz Wrm V0 hM m1) : ∃ (j : Nat) (h' : px_H), j ≤ nn ∧ fn_M_goesBy T (Int32.ofNat nn) m1 = some (Int32.ofNat j, h') ∧ oS h' ∧ fz WM VM m1 h' ∧ (j = nn → okS T nn) := by
  obtain ⟨h1, h2, h3, h4, ⟨h5, h6, h7⟩, h8, ⟨h9, h10⟩, h11⟩ := hR
  have z9 := h1.1
  have d6 : nx < 6 := by have := h1.2.1; omega
  obtain ⟨-, -, -, -, b, b2, hb⟩ := h1.2.2.2.2.2.2.2.2 nx d6
  have hz := h4.2.2 b b2
  have k79 : aI m1 79 = aI hM 79 := (f1.2 79 rfl).1
  have k88 : aI m1 88 = aI hM 88 := (f1.2 88 rfl).1
  have k89 : aI m1 89 = aI hM 89 := (f1.2 89 rfl).1
  have k76 : aI m1 76 = aI hM 76 := (f1.2 76 rfl).1
  have hME : ME z 0 ln m1 := ⟨(fz_gI f1 rfl).trans h1.2.2.2.1, (fz_gI f1 rfl).trans h9, by rw [(f1.2 81 rfl).1]; exact h3.2.2.1⟩
  have k33 : gI m1 69 33 = Int32.ofInt 0 := (fz_gI f1 rfl).trans h4.1.2.2.2.2.2.2
  obtain ⟨m2, c1, c2, c3, c4, c5, c6, c7, c8, c9⟩ := vl_Mopens o1 hME z9 (by omega) h3.1 d6 (by rw [k79]; exact hb) b2 k33 (by rw [k88]; exact sz_sm z9 hz.1) (by rw [k89]; exact sz_sm z9 hz.2) (by rw [k76]; exact sz_sm z9 (h1.2.2.2.2.2.2.2.1 b b2).2.2)
  have c3' : fz WM VM m1 m2 := fz_mono c3 (fun _ _ h => h) (fun c hc => by
    unfold VM at hc
    unfold VO
    simp only [Bool.or_eq_false_iff] at hc ⊢
    exact ⟨hc.1, hc.2.1⟩)
  obtain ⟨j, h', j1, j2, j3, j4, j5⟩ := vl_goesBy_L (z := z) (ln := ln) T (r := 0) (d := nx) (b := b) n10 nn 0 fu m2 (by omega) (fu_lt (by omega)) ⟨c2, ME_wm c3' hME, z9, by omega, h3.1, d6, by rw [(c3.2 79 rfl).1, k79]; exact hb, b2, c7, c8, by rw [c4]; exact sm_z, by rw [c5]; exact sm_z⟩
  refine ⟨j, h', j1, ?_, j3, fz_tr c3' j4, fun e k hk => j5 e k (by omega) hk⟩
  unfold fn_M_goesBy
  rw [show gI m1 69 31 = Int32.ofNat nx from (fz_gI f1 rfl).trans h7, c1, Option.bind_some]
  exact j2
end sy_G
end mg_11

section mg_12
/-! judge and hold -/
theorem vl_copy {hX : px_H} {c e : Nat} (oX : oS hX) (hc : c ∈ chs) (he : e ≠ c) : ∃ h', fn_Chest_copy c e hX = some h' ∧ oS h' ∧ fz (fun a _ => Nat.beq a c) V0 hX h' ∧ gL h' c 0 = gL hX e 0 ∧ gI h' c 1 = gI hX e 1 ∧ gI h' c 2 = gI hX e 2 := by
  unfold fn_Chest_copy
  simp only [sb]
  have wcc : Nat.beq c c = true := Nat.beq_refl c
  have ne : ∀ k, (fun a (_ : Nat) => Nat.beq a c) e k = false := fun k => by
    simp only
    cases hb : Nat.beq e c with
    | false => rfl
    | true => exact absurd (Nat.eq_of_beq_eq_true hb) he
  have o1 : oS (wF hX c 0 (.long (gL hX e 0))) := oS_wL (cs := chs) (ci := 0) rfl hc oX
  have e1 : gL (wF hX c 0 (.long (gL hX e 0))) c 0 = gL hX e 0 := gL_wF (cs := chs) (ci := 0) rfl hc oX
  have f1 : fz (fun a _ => Nat.beq a c) V0 hX (wF hX c 0 (.long (gL hX e 0))) := fz_wF wcc
  generalize wF hX c 0 (.long (gL hX e 0)) = h1 at o1 e1 f1 ⊢
  rw [show gI h1 e 1 = gI hX e 1 from fz_gI f1 (ne 1)]
  have o2 : oS (wF h1 c 1 (.int (gI hX e 1))) := oS_wI (cs := chs) (ci := 0) rfl hc o1
  have e2 : gL (wF h1 c 1 (.int (gI hX e 1))) c 0 = gL hX e 0 := (gL_wF_ne (by omega)).trans e1
  have g2 : gI (wF h1 c 1 (.int (gI hX e 1))) c 1 = gI hX e 1 := gI_wF (cs := chs) (ci := 0) rfl hc o1
  have f2 : fz (fun a _ => Nat.beq a c) V0 hX (wF h1 c 1 (.int (gI hX e 1))) := fz_tr f1 (fz_wF wcc)
  generalize wF h1 c 1 (.int (gI hX e 1)) = h2 at o2 e2 g2 f2 ⊢
  rw [show gI h2 e 2 = gI hX e 2 from fz_gI f2 (ne 2)]
  exact ⟨wF h2 c 2 (.int (gI hX e 2)), rfl, oS_wI (cs := chs) (ci := 0) rfl hc o2, fz_tr f2 (fz_wF wcc), (gL_wF_ne (by omega)).trans e2, (gI_wF_ne (by omega)).trans g2, gI_wF (cs := chs) (ci := 0) rfl hc o2⟩
def WJ (c _k : Nat) : Bool := Nat.beq c 21 || Nat.beq c 20
theorem wj_21 {c k : Nat} (h : WJ c k = false) : WS c k = false ∧ Nat.beq c 20 = false := by
  unfold WJ at h
  simp only [Bool.or_eq_false_iff] at h
  exact h
theorem wj_c {c k : Nat} (h : WJ c k = false) : Wc 20 c k = false := by
  unfold Wc
  rw [(wj_21 h).2, Bool.false_and]
theorem wj_3 {c k : Nat} (h : WJ c k = false) : W3 c k = false := by
  have h := (wj_21 h).1
  unfold WS at h
  unfold W3
  rw [h, Bool.false_and]
section sy_H
variable {z dn nx ln : Nat} {hX hM : px_H}
/-- slips told, laid on both sides from the beginning on -/
theorem sim_follow_top (oX : oS hX) (hG : ab_h nm_GH hM) (hR : RLz z dn nx ln hX hM) (hd : nx < dn) {m5 : px_H} (o5 : oS m5) (f5 : fz (fun c k => Wt c k || Wrm c k) V0 hM m5) (T : Int64) {nn : Nat} (n10 : nn ≤ 10) (hT : okS T nn) :
    ∃ (j : Nat) (hX' hM' : px_H) (b s : Nat) (K S F kn : Nat → Int32) (ow aw dd : Int32), j ≤ nn ∧ fn_X_follow T (Int32.ofNat nn) hX = some (Int32.ofNat j, hX') ∧ fn_M_goesBy T (Int32.ofNat nn) m5 = some (Int32.ofNat j, hM') ∧ s ≤ 3 ∧ LF z nx b ln 0 s K S F kn ow aw dd hX' hM' ∧ fz WJ VS hX hX' ∧ fz WM VM m5 hM' ∧ gI hX' 20 2 = Int32.ofNat nx := by
  have hR5 : RLz z dn nx ln hX m5 := RLz_k (W := W0) (V := V0) fz_rf f5 (by decide) (by decide) hR
  obtain ⟨x1, b, K, S, F, kn, ow, aw, dd, a1, a2, a3, a4, a5, a6, a7, a8, a9, a10⟩ := sim_readyNow oX hR5 hd
  have d6 : nx < 6 := a5.2.1
  have hR6 : RLz z dn nx ln x1 m5 := RLz_k a3 (fz_rf (W := W0) (V := V0)) (by decide) (by decide) hR5
  obtain ⟨x2, c1, c2, c3, c4, c5, c6⟩ := vl_copy (c := 20) (e := 19) a2 (by decide) (by decide)
  have C2 : CL z nx 20 x2 m5 := by
    have := hR6.2.2.2.1
    unfold CL at this ⊢
    rw [c4, c5]
    exact this
  have n20 : ∀ c k, (fun a (_ : Nat) => Nat.beq a 20) c k = false → Wc 20 c k = false := fun c k h => by
    unfold Wc
    simp only at h
    rw [h, Bool.false_and]
  have E2 : CE z nx ln K S F kn ow aw dd x2 := by
    obtain ⟨e1, e2, e3, e4, e5, e6, e7, e8, e9, e10⟩ := a4
    have hr := rl_mem a2
    have nr : ∀ k, (fun a (_ : Nat) => Nat.beq a 20) (gR x1 21 1) k = false := by
      intro k
      have : ruls.all (fun c => !Nat.beq c 20) = true := by decide
      have := List.all_eq_true.mp this _ hr
      simpa using this
    have r : gR x2 21 1 = gR x1 21 1 := fz_gR c3 rfl
    refine ⟨(fz_gI c3 rfl).trans e1, (fz_gI c3 rfl).trans e2, ?_, ?_, ?_, ?_, (c3.2 27 rfl).1.trans e7, (fz_gI c3 rfl).trans e8, (fz_gI c3 rfl).trans e9, (fz_gI c3 rfl).trans e10⟩
    · rw [r, fz_gI c3 (nr 3)]; exact e3
    · rw [r, fz_gR c3 (nr 0), (c3.2 _ rfl).1]; exact e4
    · rw [r, fz_gR c3 (nr 1), (c3.2 _ rfl).1]; exact e5
    · rw [r, fz_gR c3 (nr 2), (c3.2 _ rfl).1]; exact e6
  obtain ⟨x3, m6, b1, b2, b3, b4, b5, b6, b7, b8⟩ := sim_open a5 (c := 20) (by decide) c2 o5 E2 ((fz_gI c3 rfl).trans a6) C2 (Nat.le_refl nx) (by rw [(c3.2 26 rfl).1]; exact a8) a9 (by rw [(c3.2 8 rfl).1]; exact a10)
  have E3 := CE_20 c2 E2 b3
  obtain ⟨s, s3, hs⟩ := seats_b hG d6
  have k80 : aI m5 80 = aI hM 80 := (f5.2 80 rfl).1
  have w80 : aI m6 80 = aI m5 80 := (b6.2 80 rfl).1
  have b6' : fz WM VM m5 m6 := fz_mono b6 (fun _ _ h => h) (fun c hc => by
    unfold VM at hc
    unfold VO
    simp only [Bool.or_eq_false_iff] at hc ⊢
    exact ⟨hc.1, hc.2.1⟩)
  have hL : LF z nx b ln 0 s K S F kn ow aw dd x3 m6 := by
    refine ⟨b2, b5, E3, EN_m a5 (fz_VO b6), b8, (fz_gI b3 rfl).trans ((fz_gI c3 rfl).trans a6), ?_, by rw [w80, k80]; exact hs, ?_⟩
    · rw [w80]; exact (fz_gI b3 rfl).trans ((fz_gI c3 rfl).trans a7)
    · rw [b7, bc_0, w80, k80, hs, nm_ofNat_toInt 0 (by omega), nm_ofNat_toInt s (by omega)]
      omega
  obtain ⟨j, hX', hM', j1, j2, j3, j4, j5, j6⟩ := sim_follow s3 T n10 hT nn 0 fu fu x3 m6 (by omega) (fu_lt (by omega)) (fu_lt (by omega)) hL
  refine ⟨j, hX', hM', b, s, K, S, F, kn, ow, aw, dd, j1, ?_, ?_, s3, j4, ?_, fz_tr b6' j6, ?_⟩
  · unfold fn_X_follow
    rw [a1, Option.bind_some, c1, Option.bind_some, b1, Option.bind_some]
    exact j2
  · unfold fn_M_goesBy
    rw [hR5.2.2.2.2.1.2.2, b4, Option.bind_some]
    exact j3
  · refine fz_tr (fz_mono a3 (fun c k h => (wj_21 h).1) (fun _ h => h)) (fz_tr (fz_mono c3 (fun c k h => (wj_21 h).2) (fun _ _ => rfl)) (fz_tr (fz_mono b3 (fun c k h => wj_c h) (fun _ _ => rfl)) (fz_mono j5 (fun c k h => ?_) (fun _ _ => rfl))))
    unfold WF2
    rw [wj_c h, wj_3 h]
    rfl
  · rw [fz_gI j5 rfl, fz_gI b3 rfl, c6]
    exact hR6.2.2.2.2.1.2.1
/-- how many are told -/
theorem slips_X (T : Int64) (a : Int32) (h : px_H) : (∃ nn, nn ≤ 10 ∧ a = Int32.ofNat nn ∧ ∃ t : Bool, fn_X_areSlips T a h = some (b01 t) ∧ (t = true ↔ okS T nn) ∧ sx_in a.toInt64 (Int64.ofNat 0) (Int64.ofInt 10) = b01 true) ∨ (fn_X_areSlips T a h = some (b01 false) ∧ sx_in a.toInt64 (Int64.ofNat 0) (Int64.ofInt 10) = b01 false) := by
  have e : sx_in a.toInt64 (Int64.ofNat 0) (Int64.ofInt 10) = b01 (decide (0 ≤ a.toInt ∧ a.toInt ≤ 10)) := by rw [b01_in, Int32.toInt_toInt64, i64c.1, i64c.2.2.2.2.1]
  have e10 : (Int8.ofInt 10).toInt32.toInt = 10 := by decide
  unfold fn_X_areSlips
  rw [lt0, cmp_le, e10, e]
  by_cases h0 : a.toInt < 0
  · refine Or.inr ?_
    rw [decide_eq_true h0, decide_eq_false (show ¬ (0 ≤ a.toInt ∧ a.toInt ≤ 10) by omega)]
    exact ⟨rfl, rfl⟩
  · by_cases h1 : a.toInt ≤ 10
    · obtain ⟨nn, n11, rfl⟩ := nat_of (n := 11) (show 0 ≤ a.toInt by omega) (by omega)
      refine Or.inl ⟨nn, by omega, rfl, ?_⟩
      obtain ⟨t, t1, t2⟩ := vl_areSlips_L T (nn := nn) (by omega) h nn 0 fu (by omega) (fu_lt (by omega))
      rw [decide_eq_false h0, decide_eq_true h1, decide_eq_true (show 0 ≤ (Int32.ofNat nn).toInt ∧ (Int32.ofNat nn).toInt ≤ 10 by omega), cond_false, cond_true]
      exact ⟨t, t1, by rw [t2]; exact ⟨fun h k hk => h k (by omega) hk, fun h k _ hk => h k hk⟩, rfl⟩
    · refine Or.inr ?_
      rw [decide_eq_false h0, decide_eq_false h1, decide_eq_false (show ¬ (0 ≤ a.toInt ∧ a.toInt ≤ 10) by omega)]
      exact ⟨rfl, rfl⟩
theorem RLz_sm {hM' : px_H} (hR : RLz z dn nx ln hX hM) (s : SM hM hM') (f : fz (fun c k => Nat.beq c 69 && (Nat.beq k 0 || (Nat.beq k 31 || (Nat.beq k 32 || (Nat.beq k 33 || (Nat.beq k 34 || (Nat.beq k 35 || Nat.beq k 36))))))) VM hM hM') : RLz z dn nx ln hX hM' := by
  obtain ⟨h1, h2, h3, h4, ⟨h5, h6, h7⟩, h8, ⟨h9, h10⟩, h11⟩ := hR
  have r : fz W0 V0 hX hX := fz_rf
  exact ⟨TR_k r f (by decide) (by decide) h1, h2, RR0_k r f (by decide) (by decide) h3, CL_sm s h4, ⟨h5, h6, s.2.2.trans h7⟩, by rw [fz_gI f rfl]; exact h8, ⟨(fz_gI f rfl).trans h9, (fz_gI f rfl).trans h10⟩, KP_k r f (by decide) (by decide) h11⟩
end sy_H
end mg_12

section mg_13
/-! hold and judge, whole -/
section sy_I
variable {z dn nx ln : Nat} {hX hM : px_H}
def Wall (c k : Nat) : Bool := Nat.beq c 69 && (Nat.beq k 0 || (Nat.beq k 31 || (Nat.beq k 32 || (Nat.beq k 33 || (Nat.beq k 34 || (Nat.beq k 35 || Nat.beq k 36))))))
theorem wall_1 {c k : Nat} (h : Wall c k = false) : Wt c k = false ∧ Wrm c k = false ∧ WM c k = false ∧ W3n c k = false := by
  unfold Wall at h
  unfold Wt Wrm WM W3n
  cases h69 : Nat.beq c 69
  · exact ⟨rfl, rfl, rfl, rfl⟩
  · rw [h69, Bool.true_and] at h
    simp only [Bool.or_eq_false_iff] at h
    obtain ⟨e0, e31, e32, e33, e34, e35, e36⟩ := h
    rw [e0, e31, e32, e33, e34, e35, e36]
    exact ⟨rfl, rfl, rfl, rfl⟩
/-- the model comes back from where it went -/
theorem back_ok (hR : RLz z dn nx ln hX hM) (oM : oS hM) {m5 m9 : px_H} (f5 : fz Wrm V0 hM m5) (e1 : gL m5 69 34 = f1v (aI hM 88 0) (aI hM 88 1) (aI hM 89 0) (aI hM 89 1) (gI hM 69 32) (gI hM 69 33)) (e2 : gL m5 69 35 = sc (aI hM 90) 10) (e3 : gI m5 69 36 = gI hM 69 31) (o9 : oS m9) (f9 : fz WM VM m5 m9) : ∃ h', fn_M_comesBack m9 = some h' ∧ oS h' ∧ RLz z dn nx ln hX h' := by
  have z9 := hR.1.1
  obtain ⟨s1, s2⟩ := CL_sms z9 hR.2.2.2.1 hR.2.2.2.2.1.1
  obtain ⟨h', a1, a2, a3, a4⟩ := restore s1 s2 e1 e2 e3 (fz_gL f9 rfl) (fz_gL f9 rfl) (fz_gI f9 rfl) o9
  refine ⟨h', a1, a2, RLz_sm hR a4 ?_⟩
  have t1 : fz Wall VM hM m5 := fz_mono f5 (fun _ _ h => (wall_1 h).2.1) (fun _ _ => rfl)
  have t2 : fz Wall VM m5 m9 := fz_mono f9 (fun _ _ h => (wall_1 h).2.2.1) (fun _ h => h)
  have t3 : fz Wall VM m9 h' := fz_mono a3 (fun _ _ h => (wall_1 h).2.2.2) (fun _ h => h)
  exact fz_tr t1 (fz_tr t2 t3)
theorem lt_nat {a b : Nat} (ha : a < 2147483648) (hb : b < 2147483648) : px_cmp .lt (Int32.ofNat a) (Int32.ofNat b) = decide (a < b) := by
  rw [cmp_lt, nm_ofNat_toInt a ha, nm_ofNat_toInt b hb]
  simp only [decide_eq_decide]
  omega
theorem ne_nat {a b : Nat} (ha : a < 2147483648) (hb : b < 2147483648) : px_cmp .ne (Int32.ofNat a) (Int32.ofNat b) = decide (a ≠ b) := by
  simp only [px_cmp, decide_eq_decide]
  constructor
  · intro h e; exact h (by rw [e])
  · intro h e; exact h (ofNat_inj' ha hb e)
def WH (c k : Nat) : Bool := WJ c k || Nat.beq c 19
theorem wh_1 {c k : Nat} (h : WH c k = false) : WJ c k = false ∧ Nat.beq c 19 = false := by
  unfold WH at h
  simpa only [Bool.or_eq_false_iff] using h
theorem sim_hold (oX : oS hX) (hG : ab_h nm_GH hM) (hR : RLz z dn nx ln hX hM) (T : Int64) (a : Int32) : ∃ (v : Int32) (hX' hM' : px_H), fn_X_hold T a hX = some (v, hX') ∧ fn_M_hold T a hM = some (v, hM') ∧ ∃ nx', RLz z dn nx' ln hX' hM' := by
  have oM := oS_of hG
  have hR1 := RLz_thr hR oM
  obtain ⟨o1, f1⟩ := vl_thr oM
  obtain ⟨l1, l2⟩ := left_eq hR1
  unfold fn_X_hold fn_M_hold
  simp only [sb]
  rw [l1, Option.bind_some, cmp_b01]
  rcases slips_X T a hX with ⟨nn, n10, ea, t, t1, t2, t3⟩ | ⟨t1, t3⟩
  · rw [t1, t3, Option.bind_some, cmp_b01n, cmp_b01, Bool.not_true, cond_false, l2]
    by_cases hd : nx < dn
    · rw [decide_eq_true hd, Bool.not_true, cond_false, cond_true]
      subst ea
      obtain ⟨m5, r1, r2, r3, r4, r5, r6⟩ := vl_remembers o1
      rw [r1, Option.bind_some]
      have f5 : fz (fun c k => Wt c k || Wrm c k) V0 hM m5 := fz_tr (fz_mono f1 (fun c k h => by simp only [Bool.or_eq_false_iff] at h; exact h.1) (fun _ h => h)) (fz_mono r3 (fun c k h => by simp only [Bool.or_eq_false_iff] at h; exact h.2) (fun _ h => h))
      have k31 : gI m5 69 31 = Int32.ofNat nx := (fz_gI r3 rfl).trans hR1.2.2.2.2.1.2.2
      cases t with
      | false =>
        rw [cond_false]
        obtain ⟨j, h', j1, j2, j3, j4, j5⟩ := vl_goesBy T n10 o1 hR1 hd r2 r3
        have hj : j < nn := by
          rcases Nat.lt_or_ge j nn with h | h
          · exact h
          · have := t2.mpr (j5 (by omega))
            cases this
        rw [j2, Option.bind_some, lt_nat (by omega) (by omega), decide_eq_true hj, cond_true]
        obtain ⟨h9, b1, b2, b3⟩ := back_ok hR1 o1 r3 r4 r5 r6 j3 j4
        rw [b1]
        exact ⟨_, hX, h9, rfl, rfl, nx, b3⟩
      | true =>
        rw [cond_true]
        obtain ⟨j, hX', hM', b, s, K, S, F, kn, ow, aw, dd, j1, j2, j3, s3, hL, jx, jm, jn⟩ := sim_follow_top oX hG hR hd r2 f5 T n10 (t2.mp rfl)
        rw [j2, j3, Option.bind_some, Option.bind_some, ne_nat (by omega) (by omega), lt_nat (by omega) (by omega)]
        have hRx : ∀ m : px_H, RLz z dn nx ln hX m → RLz z dn nx ln hX' m := fun m hm => RLz_k jx (fz_rf (W := W0) (V := V0)) (by decide) (by decide) hm
        obtain ⟨h9, b1, b2, b3⟩ := back_ok hR1 o1 r3 r4 r5 r6 hL.2.1 jm
        by_cases hj : j < nn
        · rw [decide_eq_true hj, decide_eq_true (show j ≠ nn by omega), cond_true, cond_true, b1]
          exact ⟨_, hX', h9, rfl, rfl, nx, hRx h9 b3⟩
        · rw [decide_eq_false hj, decide_eq_false (show ¬ j ≠ nn by omega), cond_false, cond_false, k31]
          obtain ⟨oX', oM', hE, hN, hD, e5, e6, es, hle⟩ := hL
          have b2' : b < 2 := hN.2.2.2.2.1
          have d6 : nx < 6 := hN.2.1
          have hb := hN.2.2.2.2.2.2.1
          rw [vl_isOver e5, over_eq hD b2' e6 hle, vl_MisOver d6 hb b2', Option.bind_some, Option.bind_some, cmp_b01n]
          cases (px_cmp .eq (aI hM' 88 b) 0 || !px_cmp .ne (nm_bc (gI hM' 69 33)) (aI hM' 80 nx)) with
          | false =>
            rw [cond_false, cond_false, b1]
            exact ⟨_, hX', h9, rfl, rfl, nx, hRx h9 b3⟩
          | true =>
            rw [cond_true, cond_true]
            obtain ⟨x4, m4, c1, c2, c3, c4, c5, c6, c7, c8, -⟩ := sim_close hN (c := 20) (by decide) oX' oM' e5 hD
            obtain ⟨x5, d1, d2, d3, d4, d5, d6'⟩ := vl_copy (c := 19) (e := 20) c2 (by decide) (by decide)
            have hn : gI x5 19 2 = Int32.ofNat nx := by rw [d6', fz_gI c3 rfl]; exact jn
            rw [c1, Option.bind_some, d1, Option.bind_some, c4, Option.bind_some, hn, inc1]
            have o6 : oS (wF x5 19 2 (.int (Int32.ofNat (nx + 1)))) := oS_wI (cs := [19]) (ci := 0) rfl List.mem_cons_self d2
            have n6 : gI (wF x5 19 2 (.int (Int32.ofNat (nx + 1)))) 19 2 = Int32.ofNat (nx + 1) := gI_wF (cs := [19]) (ci := 0) rfl List.mem_cons_self d2
            have FX : fz WH VS hX (wF x5 19 2 (.int (Int32.ofNat (nx + 1)))) := fz_tr (fz_mono jx (fun _ _ h => (wh_1 h).1) (fun _ h => h)) (fz_tr (fz_mono c3 (fun _ _ h => wj_c (wh_1 h).1) (fun _ _ => rfl)) (fz_tr (fz_mono d3 (fun _ _ h => (wh_1 h).2) (fun _ _ => rfl)) (fz_wF rfl)))
            have FM : fz Wall VM hM m4 := fz_tr (fz_mono f1 (fun _ _ h => (wall_1 h).1) (fun _ _ => rfl)) (fz_tr (fz_mono r3 (fun _ _ h => (wall_1 h).2.1) (fun _ _ => rfl)) (fz_tr (fz_mono jm (fun _ _ h => (wall_1 h).2.2.1) (fun _ h => h)) (fz_mono c6 (fun _ _ h => (wall_1 h).2.2.2) (fun c hc => by
              unfold VM at hc
              simp only [Bool.or_eq_false_iff] at hc
              exact hc.1))))
            have C6 : CL z (nx + 1) 19 (wF x5 19 2 (.int (Int32.ofNat (nx + 1)))) m4 := by
              unfold CL at c8 ⊢
              rw [gL_wF_ne (by decide), gI_wF_ne (by decide), d4, d5]
              exact c8
            obtain ⟨h1, h2, h3, h4, ⟨h5, h6, h7⟩, h8, ⟨h9', h10⟩, h11⟩ := hR
            exact ⟨_, wF x5 19 2 (.int (Int32.ofNat (nx + 1))), m4, rfl, rfl, nx + 1, TR_k FX FM (by decide) (by decide) h1, fun p hp hq => by rw [(FX.2 3 rfl).1]; exact h2 p hp hq, RR0_k FX FM (by decide) (by decide) h3, C6, ⟨by omega, n6, c7⟩, by rw [fz_gI FX rfl, fz_gI FM rfl]; exact h8, ⟨(fz_gI FM rfl).trans h9', (fz_gI FM rfl).trans h10⟩, KP_k FX FM (by decide) (by decide) h11⟩
    · rw [decide_eq_false hd]
      exact ⟨_, hX, _, rfl, rfl, nx, hR1⟩
  · rw [t1, t3, Option.bind_some, cmp_b01n, cmp_b01, Bool.not_false, cond_true]
    by_cases hd : nx < dn
    · rw [decide_eq_true hd]
      exact ⟨_, hX, _, rfl, rfl, nx, hR1⟩
    · rw [decide_eq_false hd]
      exact ⟨_, hX, _, rfl, rfl, nx, hR1⟩
theorem sim_judge (oX : oS hX) (hG : ab_h nm_GH hM) (hR : RLz z dn nx ln hX hM) (T : Int64) (a : Int32) : ∃ (v w : Int32) (hX' hM' : px_H), fn_X_judge T a hX = some (v, hX') ∧ fn_M_judge T a hM = some (w, hM') ∧ RLz z dn nx ln hX' hM' := by
  have oM := oS_of hG
  have hR1 := RLz_thr hR oM
  obtain ⟨o1, f1⟩ := vl_thr oM
  obtain ⟨l1, l2⟩ := left_eq hR1
  unfold fn_X_judge fn_M_judge
  simp only [sb]
  rw [l1, Option.bind_some, cmp_b01]
  rcases slips_X T a hX with ⟨nn, n10, ea, t, t1, t2, t3⟩ | ⟨t1, t3⟩
  · rw [t1, t3, Option.bind_some, cmp_b01n, cmp_b01, Bool.not_true, cond_false, l2]
    by_cases hd : nx < dn
    · rw [decide_eq_true hd, Bool.not_true, cond_false, cond_true]
      subst ea
      obtain ⟨m5, r1, r2, r3, r4, r5, r6⟩ := vl_remembers o1
      rw [r1, Option.bind_some]
      have f5 : fz (fun c k => Wt c k || Wrm c k) V0 hM m5 := fz_tr (fz_mono f1 (fun c k h => by simp only [Bool.or_eq_false_iff] at h; exact h.1) (fun _ h => h)) (fz_mono r3 (fun c k h => by simp only [Bool.or_eq_false_iff] at h; exact h.2) (fun _ h => h))
      cases t with
      | false =>
        rw [cond_false]
        obtain ⟨j, h', j1, j2, j3, j4, j5⟩ := vl_goesBy T n10 o1 hR1 hd r2 r3
        obtain ⟨h9, b1, b2, b3⟩ := back_ok hR1 o1 r3 r4 r5 r6 j3 j4
        rw [j2, Option.bind_some, b1]
        exact ⟨_, _, hX, h9, rfl, rfl, b3⟩
      | true =>
        rw [cond_true]
        obtain ⟨j, hX', hM', b, s, K, S, F, kn, ow, aw, dd, j1, j2, j3, s3, hL, jx, jm, jn⟩ := sim_follow_top oX hG hR hd r2 f5 T n10 (t2.mp rfl)
        obtain ⟨h9, b1, b2, b3⟩ := back_ok hR1 o1 r3 r4 r5 r6 hL.2.1 jm
        rw [j2, j3, Option.bind_some, Option.bind_some, b1]
        exact ⟨_, _, hX', h9, rfl, rfl, RLz_k jx (fz_rf (W := W0) (V := V0)) (by decide) (by decide) b3⟩
    · rw [decide_eq_false hd]
      exact ⟨_, _, hX, _, rfl, rfl, hR1⟩
  · rw [t1, t3, Option.bind_some, cmp_b01n, cmp_b01, Bool.not_false, cond_true]
    by_cases hd : nx < dn
    · rw [decide_eq_true hd]
      exact ⟨_, _, hX, _, rfl, rfl, hR1⟩
    · rw [decide_eq_false hd]
      exact ⟨_, _, hX, _, rfl, rfl, hR1⟩
end sy_I
end mg_13
