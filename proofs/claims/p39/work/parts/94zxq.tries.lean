section mg_0
/-! other packings: the class supposes, the model tries -/
def WSU (c k : Nat) : Bool := WBY c k || Nat.beq c 20
def WTR (c k : Nat) : Bool := WAS c k || (Nat.beq c 69 && Nat.beq k 48)
def SP (hM : px_H) : Prop := (sm (aI hM 88 0) ∧ sm (aI hM 88 1) ∧ sm (aI hM 89 0) ∧ sm (aI hM 89 1) ∧ sm (gI hM 69 32) ∧ sm (gI hM 69 33)) ∧ ∀ p, p < 10 → s3 (aI hM 90 p)
/-- what both sides want for it -/
def RPt (z dn ln : Nat) (hX hM : px_H) : Prop := TR z dn hX hM ∧ RR 14 0 ln hX hM ∧ gI hM 69 15 = Int32.ofInt 0 ∧ gI hM 69 20 = Int32.ofInt 0 ∧ SP hM
/-- the model as it begins with bag b packed so -/
noncomputable def preM (b : Nat) (s : Int32) (hM : px_H) : Option px_H := (fn_M_remembers hM).bind fun q1 => fn_M_isAsBefore (uI (wF q1 69 48 (.int (aI q1 76 b))) 76 b s)
noncomputable def rsM (b : Nat) (hM : px_H) (m : Nat) (s : Int32) : Option (TB × Int64 × Int64) := (preM b s hM).bind fun y2 => sWk y2 m 0 (x0S (kyOf y2))
section tb_R
variable {h hX hM hX' hM' h0 : px_H} {z dn nx ln D b m : Nat} {s : Int32} {u : Int64} {w : Int32}
theorem wsu_a (a : fz WBY VBY hX hX') : fz WSU VBY hX hX' := fz_mono a (fun c k e => by
  unfold WSU at e
  simp only [Bool.or_eq_false_iff] at e
  exact e.1) (fun _ e => e)
theorem wtr_a (a : fz WAS V98 hM hM') : fz WTR V98 hM hM' := fz_mono a (fun c k e => by
  unfold WTR at e
  simp only [Bool.or_eq_false_iff] at e
  exact e.1) (fun _ e => e)
def V76 (c : Nat) : Bool := V98 c || Nat.beq c 76
theorem v76_a {W W' : Nat → Nat → Bool} {V : Nat → Bool} (a : fz W V hM hM') (hw : ∀ c k, W' c k = false → W c k = false) (hv : ∀ c, V98 c = false → Nat.beq c 76 = false → V c = false) : fz W' V76 hM hM' := fz_mono a hw (fun c e => by
  unfold V76 at e
  simp only [Bool.or_eq_false_iff] at e
  exact hv c e.1 e.2)
/-- what the model lays down before it tries -/
theorem pre_ok (b2 : b < 2) (o : oS hM) : ∃ y1 y2, fn_M_remembers hM = some y1 ∧ preM b s hM = some y2 ∧ oS y1 ∧ oS y2 ∧ fz Wrm V0 hM y1 ∧ gL y1 69 34 = f1v (aI hM 88 0) (aI hM 88 1) (aI hM 89 0) (aI hM 89 1) (gI hM 69 32) (gI hM 69 33) ∧ gL y1 69 35 = sc (aI hM 90) 10 ∧ gI y1 69 36 = gI hM 69 31 ∧
    fz (fun c k => Nat.beq c 69 && (Nat.beq k 48 || (Nat.beq k 31 || (Nat.beq k 32 || Nat.beq k 33)))) (fun c => V8 c || Nat.beq c 76) y1 y2 ∧ fn_M_isAsBefore (uI (wF y1 69 48 (.int (aI y1 76 b))) 76 b s) = some y2 ∧ aI y2 76 = upd (aI hM 76) b s ∧ aL y2 76 = aL hM 76 ∧ gI y2 69 48 = aI hM 76 b ∧ gI y2 69 31 = Int32.ofInt 0 ∧ gI y2 69 32 = Int32.ofInt 0 ∧ gI y2 69 33 = Int32.ofInt 0 ∧ (∀ q, q < 10 → aI y2 90 q = Int32.ofInt 0) ∧ aI y2 88 0 = aI y2 76 0 ∧ aI y2 88 1 = aI y2 76 1 ∧ aI y2 89 0 = Int32.ofInt 0 ∧ aI y2 89 1 = Int32.ofInt 0 := by
  obtain ⟨y1, a1, a2, a3, a4, a5, a6⟩ := vl_remembers o
  have e76 : aI y1 76 = aI hM 76 := (a3.2 76 rfl).1
  have e76L : aL y1 76 = aL hM 76 := (a3.2 76 rfl).2
  have ep : preM b s hM = fn_M_isAsBefore (uI (wF y1 69 48 (.int (aI y1 76 b))) 76 b s) := by
    unfold preM
    rw [a1, Option.bind_some]
  rw [ep]
  refine ⟨y1, ?_⟩
  have o1 : oS (wF y1 69 48 (.int (aI y1 76 b))) := oS_wI (cs := [69]) (ci := 9) rfl List.mem_cons_self a2
  have g1 : gI (wF y1 69 48 (.int (aI y1 76 b))) 69 48 = aI y1 76 b := gI_wF (cs := [69]) (ci := 9) rfl List.mem_cons_self a2
  have c1 : ∀ c, aI (wF y1 69 48 (.int (aI y1 76 b))) c = aI y1 c := fun _ => aI_wF
  have c1' : ∀ c, aL (wF y1 69 48 (.int (aI y1 76 b))) c = aL y1 c := fun _ => aL_wF
  have f1 : fz (fun c k => Nat.beq c 69 && (Nat.beq k 48 || (Nat.beq k 31 || (Nat.beq k 32 || Nat.beq k 33)))) (fun c => V8 c || Nat.beq c 76) y1 (wF y1 69 48 (.int (aI y1 76 b))) := fz_wF rfl
  generalize wF y1 69 48 (.int (aI y1 76 b)) = h1 at o1 g1 c1 c1' f1 ⊢
  have o2 : oS (uI h1 76 b s) := oS_uI (cs := [76]) (t := nr_packed) (n := 2) rfl List.mem_cons_self o1
  have e2 : aI (uI h1 76 b s) 76 = upd (aI hM 76) b s := by rw [aI_uI (cs := [76]) (t := nr_packed) (n := 2) rfl List.mem_cons_self o1, c1, e76]
  have e2L : aL (uI h1 76 b s) 76 = aL hM 76 := by rw [aL_uI, c1', e76L]
  have g2 : gI (uI h1 76 b s) 69 48 = aI hM 76 b := by rw [gI_uI, g1, e76]
  have f2 : fz (fun c k => Nat.beq c 69 && (Nat.beq k 48 || (Nat.beq k 31 || (Nat.beq k 32 || Nat.beq k 33)))) (fun c => V8 c || Nat.beq c 76) y1 (uI h1 76 b s) := fz_tr f1 (fz_uI rfl)
  generalize uI h1 76 b s = h2 at o2 e2 e2L g2 f2 ⊢
  obtain ⟨y2, b1, b2', b3, b4, b5, b6, b7, b8, b9, b10, b11⟩ := vl_asBefore o2
  have f3 : fz (fun c k => Nat.beq c 69 && (Nat.beq k 48 || (Nat.beq k 31 || (Nat.beq k 32 || Nat.beq k 33)))) (fun c => V8 c || Nat.beq c 76) h2 y2 := fz_mono b3 (fun c k e => by
    unfold W3n
    simp only [Bool.and_eq_false_iff, Bool.or_eq_false_iff] at e ⊢
    rcases e with e | e
    · exact Or.inl e
    · exact Or.inr e.2) (fun c e => by
    simp only [Bool.or_eq_false_iff] at e
    exact e.1)
  have z76 : aI y2 76 = aI h2 76 := (b3.2 76 rfl).1
  exact ⟨y2, a1, b1, a2, b2', a3, a4, a5, a6, fz_tr f2 f3, b1, z76.trans e2, ((b3.2 76 rfl).2).trans e2L, (fz_gI b3 rfl).trans g2, b4, b5, b6, b7, b8.trans (by rw [z76]), b9.trans (by rw [z76]), b10, b11⟩
/-- the same from a heap that differs in nothing that tells -/
theorem pre_same {y0 y2 : px_H} (b2 : b < 2) (oM : oS hM) (oM' : oS hM') (sm' : SM hM hM') (f : fz WTR V98 hM hM') (e0 : preM b s hM = some y0) (e1 : preM b s hM' = some y2) : fz WMW VMW y0 y2 ∧ kyOf y2 = kyOf y0 := by
  obtain ⟨a, y0', a1, a2, a3, a4, a5, a6, a7, a8, a9, -, a11, a11L, a12, a13, a14, a15, a16, a17, a18, a19, a20⟩ := pre_ok (s := s) b2 oM
  rw [a2] at e0
  cases e0
  obtain ⟨c, y2', c1, c2, c3, c4, c5, c6, c7, c8, c9, -, c11, c11L, c12, c13, c14, c15, c16, c17, c18, c19, c20⟩ := pre_ok (s := s) b2 oM'
  rw [c2] at e1
  cases e1
  obtain ⟨⟨s1, s2, s3, s4, s5, s6⟩, s7, s8⟩ := sm'
  have e76 : aI hM' 76 = aI hM 76 := (f.2 76 rfl).1
  have g34 : gL y2 69 34 = gL y0 69 34 := by rw [fz_gL c9 rfl, fz_gL a9 rfl, c6, a6, s1, s2, s3, s4, s5, s6]
  have g35 : gL y2 69 35 = gL y0 69 35 := by rw [fz_gL c9 rfl, fz_gL a9 rfl, c7, a7]; exact sc_cg 10 s7
  have g36 : gI y2 69 36 = gI y0 69 36 := by rw [fz_gI c9 rfl, fz_gI a9 rfl, c8, a8, s8]
  have g48 : gI y2 69 48 = gI y0 69 48 := by rw [c12, a12, e76]
  have e76' : aI y2 76 = aI y0 76 := by rw [c11, a11, e76]
  refine ⟨⟨fun c' k hw => ?_, fun c' hv => ?_⟩, ky_cg (fun j hj => ?_) (c14.trans a14.symm) (c15.trans a15.symm) (fun p hp => (c16 p hp).trans (a16 p hp).symm)⟩
  · cases hr : (Wrm c' k || (Nat.beq c' 69 && Nat.beq k 48)) with
    | true =>
      unfold Wrm at hr
      simp only [Bool.and_eq_true, Bool.or_eq_true, Nat.beq_eq] at hr
      rcases hr with ⟨rfl, rfl | rfl | rfl⟩ | ⟨rfl, rfl⟩
      · rw [fv_L (cs := [69]) (ci := 9) rfl List.mem_cons_self c4, fv_L (cs := [69]) (ci := 9) rfl List.mem_cons_self a4, g34]
      · rw [fv_L (cs := [69]) (ci := 9) rfl List.mem_cons_self c4, fv_L (cs := [69]) (ci := 9) rfl List.mem_cons_self a4, g35]
      · rw [fv_I (cs := [69]) (ci := 9) rfl List.mem_cons_self c4, fv_I (cs := [69]) (ci := 9) rfl List.mem_cons_self a4, g36]
      · rw [fv_I (cs := [69]) (ci := 9) rfl List.mem_cons_self c4, fv_I (cs := [69]) (ci := 9) rfl List.mem_cons_self a4, g48]
    | false =>
      simp only [Bool.or_eq_false_iff] at hr
      have w9 : (Nat.beq c' 69 && (Nat.beq k 48 || (Nat.beq k 31 || (Nat.beq k 32 || Nat.beq k 33)))) = false := by
        rcases wmw_c hw with x | x
        · rw [x]; rfl
        · rw [x.1, x.2.1, x.2.2]
          simpa only [Bool.or_false] using hr.2
      exact (c9.1 c' k w9).trans ((c5.1 c' k hr.1).trans ((f.1 c' k (by unfold WTR WAS; rw [hw, hr.1, hr.2]; rfl)).trans ((a5.1 c' k hr.1).symm.trans (a9.1 c' k w9).symm)))
  · by_cases x : c' = 76
    · subst x
      exact ⟨e76', by rw [c11L, a11L]; exact (f.2 76 rfl).2⟩
    · have n76 : Nat.beq c' 76 = false := by
        cases hb : Nat.beq c' 76 with
        | false => rfl
        | true => exact absurd (Nat.eq_of_beq_eq_true hb) x
      have v8 : (V8 c' || Nat.beq c' 76) = false := by
        unfold V8
        rw [(vmw_c hv).1, (vmw_c hv).2.1, (vmw_c hv).2.2.1, n76]
        rfl
      have f1 := f.2 c' (by unfold V98; rw [hv, vmw_98 hv]; rfl)
      exact ⟨(c9.2 c' v8).1.trans ((c5.2 c' rfl).1.trans (f1.1.trans ((a5.2 c' rfl).1.symm.trans (a9.2 c' v8).1.symm))), (c9.2 c' v8).2.trans ((c5.2 c' rfl).2.trans (f1.2.trans ((a5.2 c' rfl).2.symm.trans (a9.2 c' v8).2.symm)))⟩
  · match j, hj with
    | 0, _ => exact ⟨by rw [c17, a17, e76'], c19.trans a19.symm⟩
    | 1, _ => exact ⟨by rw [c18, a18, e76'], c20.trans a20.symm⟩
    | j + 2, h => omega
/-- the class begins -/
theorem sup_C {p0 p1 : Int32} (oX : oS hX) (gt : GT hX) (s0 : sm p0) (s1 : sm p1) : ∃ x2, ((fn_Course_set 14 p0 p1 (Int32.ofInt 0) hX).bind fun q3 => (fn_Chest_startAnew 20 p0 p1 q3).bind fun q7 => (fn_Walk_start 20 q7).bind fun q11 => some q11) = some x2 ∧ oS x2 ∧ fz WSU VBY hX x2 ∧ gR x2 21 1 = 14 ∧ aI x2 26 0 = p0 ∧ aI x2 26 1 = p1 ∧ gI x2 21 3 = Int32.ofInt 0 ∧ (gI x2 20 1 = Int32.ofInt 0 ∧ pv (gL x2 20 0) 0 = p0 ∧ pv (gL x2 20 0) 1 = p1 ∧ ∀ w, 2 ≤ w → w < 6 → pv (gL x2 20 0) w = Int32.ofInt 0) ∧ ∀ k1, XT (QS (gL x2 20 0) (gI x2 20 1) k1) (tS k1) x2 := by
  obtain ⟨Q, E, xt⟩ := gt
  obtain ⟨x1, a1, a2, a3, a4, a5, a6, a7⟩ := vl_setc (rc := 14) (by decide) oX p0 p1 (Int32.ofInt 0)
  have xt1 := XT_fz a3 w21_t ⟨rfl, rfl, rfl⟩ v26_t xt
  obtain ⟨x2, b1, b2, b3, b4, b5, b6, b7, b8⟩ := vl_startAnew a2 (c := 20) (by decide) s0 s1
  have xt2 : XT Q E x2 := XT_fz b3 (fun c hc => by rcases tb_c hc with rfl | rfl | rfl <;> rfl) ⟨rfl, rfl, rfl⟩ (fun _ _ _ => rfl) xt1
  obtain ⟨x3, c1, c2, c3, c4⟩ := xs_start (c := 20) (k0 := kyOf hX) (by decide) xt2 b2
  have c4' : ∀ k1, XT (QS (gL x2 20 0) (gI x2 20 1) k1) (tS k1) x3 := fun k1 => by
    obtain ⟨x3', d1, d2, d3, d4⟩ := xs_start (c := 20) (k0 := k1) (by decide) xt2 b2
    rw [c1] at d1
    cases d1
    exact d4
  have g20 : gL x3 20 0 = gL x2 20 0 := fz_gL c3 rfl
  have g20' : gI x3 20 1 = gI x2 20 1 := fz_gI c3 rfl
  have r1 : gR x2 21 1 = 14 := (fz_gR b3 rfl).trans a4
  refine ⟨x3, ?_, c2, ?_, (fz_gR c3 rfl).trans r1, ?_, ?_, (fz_gI c3 rfl).trans ((fz_gI b3 rfl).trans a7), ⟨g20'.trans b4, by rw [g20]; exact b6, by rw [g20]; exact b7, fun w h1 h2 => by rw [g20]; exact b8 w h1 h2⟩, fun k1 => by rw [g20, g20']; exact c4' k1⟩
  · rw [a1, Option.bind_some, b1, Option.bind_some, c1]
    rfl
  · refine fz_tr (wsu_a (fz_mono a3 (fun c k e => by
      unfold WBY at e
      simp only [Bool.or_eq_false_iff] at e
      exact e.2) (fun c e => by
      unfold VBY at e
      simp only [Bool.or_eq_false_iff] at e
      exact e.2))) (fz_tr (fz_mono b3 (fun c k e => by
      unfold WSU at e
      simp only [Bool.or_eq_false_iff] at e
      exact e.2) (fun _ _ => rfl)) (wsu_a (wby_a c3)))
  · rw [(c3.2 26 rfl).1, (b3.2 26 rfl).1]; exact a5
  · rw [(c3.2 26 rfl).1, (b3.2 26 rfl).1]; exact a6
theorem sup_X (b2 : b < 2) (oX : oS hX) (gt : GT hX) (hs : sm s) (h7 : ∀ j, j < 2 → sm (aI hX 7 j)) : ∃ x2, fn_X_supposePacked (Int32.ofNat b) s hX = some x2 ∧ oS x2 ∧ fz WSU VBY hX x2 ∧ gR x2 21 1 = 14 ∧ aI x2 26 0 = upd (aI hX 7) b s 0 ∧ aI x2 26 1 = upd (aI hX 7) b s 1 ∧ gI x2 21 3 = Int32.ofInt 0 ∧ (gI x2 20 1 = Int32.ofInt 0 ∧ pv (gL x2 20 0) 0 = upd (aI hX 7) b s 0 ∧ pv (gL x2 20 0) 1 = upd (aI hX 7) b s 1 ∧ ∀ w, 2 ≤ w → w < 6 → pv (gL x2 20 0) w = Int32.ofInt 0) ∧ ∀ k1, XT (QS (gL x2 20 0) (gI x2 20 1) k1) (tS k1) x2 := by
  match b, b2 with
  | 0, _ =>
    have e0 : upd (aI hX 7) 0 s 0 = s := by rw [upd_eq, if_pos rfl]
    have e1 : upd (aI hX 7) 0 s 1 = aI hX 7 1 := by rw [upd_eq, if_neg (by decide)]
    rw [e0, e1]
    exact sup_C oX gt hs (h7 1 (by omega))
  | 1, _ =>
    have e0 : upd (aI hX 7) 1 s 0 = aI hX 7 0 := by rw [upd_eq, if_neg (by decide)]
    have e1 : upd (aI hX 7) 1 s 1 = s := by rw [upd_eq, if_pos rfl]
    rw [e0, e1]
    exact sup_C oX gt (h7 0 (by omega)) hs
  | b + 2, h => omega
end tb_R
end mg_0

section mg_1
/-! other packings: both sides as they walk -/
theorem xRun_wp {D : Nat} (hD : D < 100) : ∀ (m d N : Nat) (h : px_H) (r : Int32 × px_H), d + m = D + 1 → m < N → xRun m d h = some r → fn_X_walkPacked_L12 (Int32.ofNat D) N (Int32.ofInt 1) (Int32.ofNat d) h = some r
  | 0, d, N, h, r, hm, hN, e => by
    obtain ⟨N, rfl⟩ : ∃ k, N = k + 1 := ⟨N - 1, by omega⟩
    cases e
    show fb_X_walkPacked_L12 (Int32.ofNat D) (fn_X_walkPacked_L12 (Int32.ofNat D) N) (Int32.ofInt 1) (Int32.ofNat d) h = _
    unfold fb_X_walkPacked_L12
    rw [cmp_gt, nm_ofNat_toInt d (by omega), nm_ofNat_toInt D (by omega), decide_eq_true (show (D : Int) < (d : Int) by omega), cond_true]
    rfl
  | m + 1, d, N, h, r, hm, hN, e => by
    obtain ⟨N, rfl⟩ : ∃ k, N = k + 1 := ⟨N - 1, by omega⟩
    unfold xRun at e
    obtain ⟨q, hq, e⟩ := bd_e e
    show fb_X_walkPacked_L12 (Int32.ofNat D) (fn_X_walkPacked_L12 (Int32.ofNat D) N) (Int32.ofInt 1) (Int32.ofNat d) h = _
    unfold fb_X_walkPacked_L12
    rw [cmp_gt, nm_ofNat_toInt d (by omega), nm_ofNat_toInt D (by omega), decide_eq_false (show ¬ (D : Int) < (d : Int) by omega), cond_false, show px_cmp .eq (Int32.ofInt 1) 0 = false from by decide, cond_false, hq, Option.bind_some, inc1]
    by_cases e1 : q.1 = Int32.ofInt 1
    · rw [if_pos e1] at e
      rw [e1]
      exact xRun_wp hD m (d + 1) N q.2 r (by omega) (by omega) e
    · rw [if_neg e1] at e
      by_cases e0 : q.1 = Int32.ofInt 0
      · rw [if_pos e0] at e
        cases e
        rw [e0]
        obtain ⟨N, rfl⟩ : ∃ k, N = k + 1 := ⟨N - 1, by omega⟩
        show fb_X_walkPacked_L12 (Int32.ofNat D) (fn_X_walkPacked_L12 (Int32.ofNat D) N) (Int32.ofInt 0) (Int32.ofNat (d + 1)) q.2 = _
        unfold fb_X_walkPacked_L12
        rw [show px_cmp .eq (Int32.ofInt 0) 0 = true from by decide, cond_true]
        cases px_cmp .gt (Int32.ofNat (d + 1)) (Int32.ofNat D) <;> rfl
      · rw [if_neg e0] at e
        cases e
section tb_S
variable {h h' hX hM hX' hM' h0 : px_H} {z dn nx ln D b m : Nat} {s : Int32} {u : Int64} {w : Int32} {k1 : KY}
theorem fz_q6 {W : Nat → Nat → Bool} {V : Nat → Bool} (a : fz W V h h') (h1 : W 69 3 = false) (h2 : W 69 11 = false) (h3 : W 69 15 = false) (h4 : W 69 20 = false) (h5 : (List.range 14).all (fun j => Nat.beq j 11 || (Nat.beq j 5 || !V (71 + j))) = true) : fz Wq V6 h h' := by
  refine fz_mono a (fun c k hw => ?_) (fun c hv => ?_)
  · obtain ⟨rfl, e⟩ := wq_c hw
    rcases e with rfl | rfl | rfl | rfl
    · exact h1
    · exact h2
    · exact h3
    · exact h4
  · unfold V6 at hv
    simp only [Bool.or_eq_false_iff] at hv
    obtain ⟨hv, h76⟩ := hv
    obtain ⟨e1, e2, e3⟩ := vq_c hv
    have := List.all_eq_true.mp h5 (c - 71) (List.mem_range.mpr (by omega))
    rw [show 71 + (c - 71) = c from by omega, show Nat.beq (c - 71) 11 = false from by
      cases hb : Nat.beq (c - 71) 11 with
      | false => rfl
      | true => have := Nat.eq_of_beq_eq_true hb; omega, show Nat.beq (c - 71) 5 = false from by
      cases hb : Nat.beq (c - 71) 5 with
      | false => rfl
      | true =>
        have e5 := Nat.eq_of_beq_eq_true hb
        rw [show c = 76 from by omega] at h76
        cases h76] at this
    simpa using this
theorem upd2 {f g : Nat → Int32} {j : Nat} (h : f j = g j) : upd f b s j = upd g b s j := by
  rw [upd_eq, upd_eq]
  by_cases e : j = b
  · rw [if_pos e, if_pos e]
  · rw [if_neg e, if_neg e, h]
/-- both sides, with bag b packed so, before the first drawing -/
theorem st_2 (oX : oS hX) (oM : oS hM) (rp : RPt z dn ln hX hM) (gt : GT hX) (b2 : b < 2) (hs : sz z s) :
    ∃ x2 y2 u w, fn_X_supposePacked (Int32.ofNat b) s hX = some x2 ∧ preM b s hM = some y2 ∧ oS x2 ∧ fz WSU VBY hX x2 ∧ QO u w u w (kyOf y2) ∧ kCL z 0 (kyOf y2) ∧ XT (QS u w (kyOf y2)) (tS (kyOf y2)) x2 ∧ ∀ h0, fz WMW VMW h0 y2 → XS z dn 14 0 ln h0 x2 ∧ gI h0 69 15 = Int32.ofNat 0 := by
  obtain ⟨hT, hRR, h15, h20, hsp⟩ := rp
  have z9 := hT.1
  have e7 : ∀ j, j < 2 → aI hX 7 j = aI hM 76 j ∧ sz z (aI hM 76 j) := fun j hj => ⟨(hT.2.2.2.2.2.2.2.1 j hj).1, (hT.2.2.2.2.2.2.2.1 j hj).2.2⟩
  obtain ⟨x2, a1, a2, a3, a4, a5, a6, a7, ⟨a8, a9, a10, a11⟩, a12⟩ := sup_X (s := s) b2 oX gt (sz_sm z9 hs) (fun j hj => by rw [(e7 j hj).1]; exact sz_sm z9 (e7 j hj).2)
  obtain ⟨y1, y2, c1, c2, c3, c4, c5, c6, c7, c8, c9, -, c11, -, c12, c13, c14, c15, c16, c17, c18, c19, c20⟩ := pre_ok (s := s) b2 oM
  have eu : ∀ j, j < 2 → upd (aI hX 7) b s j = aI y2 76 j ∧ sz z (aI y2 76 j) := fun j hj => by
    rw [c11]
    refine ⟨upd2 (e7 j hj).1, ?_⟩
    rw [upd_eq]
    by_cases e : j = b
    · rw [if_pos e]; exact hs
    · rw [if_neg e]; exact (e7 j hj).2
  have cl : CL z 0 20 x2 y2 := ⟨⟨a9.trans ((eu 0 (by omega)).1.trans c17.symm), a10.trans ((eu 1 (by omega)).1.trans c18.symm), (a11 2 (by omega) (by omega)).trans c19.symm, (a11 3 (by omega) (by omega)).trans c20.symm, a11 4 (by omega) (by omega), c14, c15⟩, fun p hp => by
    rw [a8, c16 p hp, sq_0 hp]
    exact ⟨rfl, 0, by omega, rfl⟩, fun j hj => by
    match j, hj with
    | 0, _ => exact ⟨by rw [c17]; exact (eu 0 (by omega)).2, by rw [c19]; exact fun i _ => ib_z i⟩
    | 1, _ => exact ⟨by rw [c18]; exact (eu 1 (by omega)).2, by rw [c20]; exact fun i _ => ib_z i⟩
    | j + 2, h => omega⟩
  obtain ⟨s0, kq, kc⟩ := k0_ok z9 (by omega) cl
  refine ⟨x2, y2, gL x2 20 0, gI x2 20 1, a1, c2, a2, a3, kq, kc, a12 _, fun h0 f0 => ?_⟩
  have f1 : fz Wq V6 hM h0 := fz_tr (fz_q6 c5 rfl rfl rfl rfl (by decide)) (fz_tr (fz_q6 c9 rfl rfl rfl rfl (by decide)) (fz_q6 (fz_sy f0) rfl rfl rfl rfl (by decide)))
  have e15 : gI h0 69 15 = Int32.ofInt 0 := (fz_gI f1 rfl).trans h15
  have e20 : gI h0 69 20 = Int32.ofInt 0 := (fz_gI f1 rfl).trans h20
  have e76 : aI h0 76 = aI y2 76 := (f0.2 76 rfl).1.symm
  have nv : ∀ k, k < 3 → VBY (gR hX 14 k) = false := fun k hk => by
    obtain ⟨-, -, -, m⟩ := bR_ok (cs := [14]) (ci := 3) (k := k) (ds := [15, 16, 17]) (a := 14) (by
      match k, hk with
      | 0, _ => rfl
      | 1, _ => rfl
      | 2, _ => rfl
      | k + 3, h => omega) List.mem_cons_self oX
    exact all_f (q := VBY) rfl _ m
  refine ⟨⟨a2, ⟨hM, TR_k a3 (fz_rf (W := W0) (V := V0)) (by decide) (by decide) hT, ?_, f1⟩, a4, fun j hj => ?_, fun p _ => ?_⟩, e15⟩
  · obtain ⟨l7, r4, r1, r2, r3⟩ := hRR
    refine ⟨l7, r4, (fz_gI a3 rfl).trans r1, r2, fun k hk => ?_⟩
    rw [fz_gR a3 rfl, fz_gR a3 rfl, fz_gR a3 rfl, (a3.2 _ (nv 0 (by omega))).1, (a3.2 _ (nv 1 (by omega))).1, (a3.2 _ (nv 2 (by omega))).1]
    exact r3 k hk
  · rw [e76]
    refine ⟨?_, (eu j hj).2⟩
    match j, hj with
    | 0, _ => exact a5.trans (eu 0 (by omega)).1
    | 1, _ => exact a6.trans (eu 1 (by omega)).1
    | j + 2, h => omega
  · rw [a7, e20]
theorem try_2 (oX : oS hX) (oM : oS hM) (rp : RPt z dn ln hX hM) (gt : GT hX) (b2 : b < 2) (hs : sz z s) (hD : D < dn) (o0 : oS h0) (m0 : ∀ y2, preM b s hM = some y2 → fz WMW VMW h0 y2 ∧ kyOf y2 = k1) :
    ∃ x3 y7, fn_X_walkPacked (Int32.ofNat b) s (Int32.ofNat D) hX = some (b01 (sWk h0 (D + 1) 0 (x0S k1)).isSome, x3) ∧ fn_M_tries (Int32.ofNat b) s (Int32.ofNat D) hM = some (b01 (sWk h0 (D + 1) 0 (x0S k1)).isSome, y7) ∧ oS x3 ∧ oS y7 ∧ fz WSU VBY hX x3 ∧ fz WTR V98 hM y7 ∧ SM hM y7 ∧ GT x3 ∧ ∀ y, sWk h0 (D + 1) 0 (x0S k1) = some y → ∃ u w, AQ z D u w y x3 y7 := by
  obtain ⟨x2, y2, u, w, a1, a2, a3, a4, a5, a6, a7, a8⟩ := st_2 oX oM rp gt b2 hs
  obtain ⟨hT, hRR, h15, h20, hsp⟩ := rp
  have z9 := hT.1
  have d6 := hT.2.1
  obtain ⟨y1, y2', c1, c2, c3, c4, c5, c6, c7, c8, c9, c10, c11, c11L, c12, c13, -⟩ := pre_ok (s := s) b2 oM
  rw [c2] at a2
  cases a2
  obtain ⟨f0, ek⟩ := m0 y2 c2
  obtain ⟨xs, e15⟩ := a8 h0 f0
  rw [ek] at a5 a6 a7
  obtain ⟨ym, y3, d1, d2, d3, d4, -, -⟩ := ms_start (h0 := h0) ⟨c4, f0⟩
  rw [ek] at d4
  have hQ : ∀ s q k, QS u w k1 s q k → QO u w s q k := by
    rintro s q k ⟨rfl, rfl, rfl⟩
    exact a5
  obtain ⟨x3, y4, e1, e2, e3, e4, e5, e6, e7⟩ := wk2 (D := D) o0 e15 (by decide) hD d6 D 0 fu x2 y3 (x0S k1) _ (by omega) (fu_lt (by omega)) xs a7 hQ (fun i _ => a6) d3 d4 (Nat.le_refl 1)
  have eX : fn_X_walkPacked (Int32.ofNat b) s (Int32.ofNat D) hX = some (b01 (sWk h0 (D + 1) 0 (x0S k1)).isSome, x3) := by
    unfold fn_X_walkPacked
    rw [a1, Option.bind_some]
    exact xRun_wp (by omega) (D + 1) 0 fu x2 _ (by omega) (fu_lt (by omega)) e1
  have eR : fn_M_reaches (Int32.ofNat D) y2 = some (b01 (sWk h0 (D + 1) 0 (x0S k1)).isSome, y4) := by
    unfold fn_M_reaches
    rw [d1, Option.bind_some, d2, Option.bind_some, c13]
    exact e2
  have f24 : fz WMW VMW y2 y4 := fz_tr (fz_sy f0) e4.2
  have p4 : aI y4 76 = upd (aI hM 76) b s := ((f24.2 76 rfl).1).trans c11
  have p4L : aL y4 76 = aL hM 76 := ((f24.2 76 rfl).2).trans c11L
  have g4 : gI y4 69 48 = aI hM 76 b := (fz_gI f24 rfl).trans c12
  have o5 : oS (uI y4 76 b (gI y4 69 48)) := oS_uI (cs := [76]) (t := nr_packed) (n := 2) rfl List.mem_cons_self e4.1
  have p5 : aI (uI y4 76 b (gI y4 69 48)) 76 = aI hM 76 := by
    rw [aI_uI (cs := [76]) (t := nr_packed) (n := 2) rfl List.mem_cons_self e4.1, p4, g4]
    funext j
    rw [upd_eq, upd_eq]
    by_cases e : j = b
    · rw [if_pos e, e]
    · rw [if_neg e, if_neg e]
  have p5L : aL (uI y4 76 b (gI y4 69 48)) 76 = aL hM 76 := aL_uI.trans p4L
  have f45 : fz W0 (fun c => Nat.beq c 76) y4 (uI y4 76 b (gI y4 69 48)) := fz_uI rfl
  have eT : fn_M_tries (Int32.ofNat b) s (Int32.ofNat D) hM = (fn_M_comesBack (uI y4 76 b (gI y4 69 48))).bind fun q22 => bif px_cmp .eq (b01 (sWk h0 (D + 1) 0 (x0S k1)).isSome) 0 then (bif px_zr .boolean (b01 (sWk h0 (D + 1) 0 (x0S k1)).isSome) then some (b01 (sWk h0 (D + 1) 0 (x0S k1)).isSome, q22) else none) else (fn_M_notes (Int32.ofNat D) q22).bind fun q28 => bif px_zr .boolean (b01 (sWk h0 (D + 1) 0 (x0S k1)).isSome) then some (b01 (sWk h0 (D + 1) 0 (x0S k1)).isSome, q28) else none := by
    unfold fn_M_tries
    simp only [nm_inR b 2 b2 (by omega), nm_ofNat_clamp b (show b < 2147483648 by omega), cond_true, sb]
    rw [c1, Option.bind_some, c10, Option.bind_some, eR, Option.bind_some]
  generalize uI y4 76 b (gI y4 69 48) = y5 at o5 p5 p5L f45 eT
  have k34 : gL y5 69 34 = gL y1 69 34 := (fz_gL f45 rfl).trans ((fz_gL f24 rfl).trans (fz_gL c9 rfl))
  have k35 : gL y5 69 35 = gL y1 69 35 := (fz_gL f45 rfl).trans ((fz_gL f24 rfl).trans (fz_gL c9 rfl))
  have k36 : gI y5 69 36 = gI y1 69 36 := (fz_gI f45 rfl).trans ((fz_gI f24 rfl).trans (fz_gI c9 rfl))
  obtain ⟨y6, r1, r2, r3, r4⟩ := restore (h := hM) (h5 := y1) (h9 := y5) hsp.1 hsp.2 c6 c7 c8 k34 k35 k36 o5
  have wt : ∀ {c k : Nat}, WTR c k = false → Wrm c k = false ∧ WMW c k = false ∧ (Nat.beq c 69 && Nat.beq k 48) = false := fun {c k} e => by
    unfold WTR WAS at e
    simp only [Bool.or_eq_false_iff] at e
    exact ⟨e.1.2, e.1.1, e.2⟩
  have v8 : ∀ {c : Nat}, V98 c = false → VMW c = false := fun {c} e => by
    unfold V98 at e
    simp only [Bool.or_eq_false_iff] at e
    exact e.1
  have f6 : fz WTR V76 hM y6 := by
    refine fz_tr (v76_a c5 (fun c k e => (wt e).1) (fun _ _ _ => rfl)) (fz_tr (v76_a c9 (fun c k e => ?_) (fun c e1 e2 => ?_)) (fz_tr (v76_a f24 (fun c k e => (wt e).2.1) (fun c e1 _ => v8 e1)) (fz_tr (v76_a f45 (fun _ _ _ => rfl) (fun c _ e2 => e2)) (v76_a r3 (fun c k e => ?_) (fun c e1 _ => ?_)))))
    · rcases wmw_c (wt e).2.1 with x | x
      · rw [x]; rfl
      · have := (wt e).2.2
        rw [x.1, x.2.1, x.2.2]
        simpa only [Bool.or_false] using this
    · unfold V8
      have := vmw_c (v8 e1)
      rw [this.1, this.2.1, this.2.2.1, e2]
      rfl
    · unfold W3n
      rcases wmw_c (wt e).2.1 with x | x
      · rw [x]; rfl
      · rw [x.1, x.2.1, x.2.2, Bool.or_self, Bool.or_self, Bool.and_false]
    · unfold VM
      have := vmw_c (v8 e1)
      rw [this.1, this.2.1, this.2.2.1]
      rfl
  have p6 : aI y6 76 = aI hM 76 := ((r3.2 76 rfl).1).trans p5
  have p6L : aL y6 76 = aL hM 76 := ((r3.2 76 rfl).2).trans p5L
  have f6' : fz WTR V98 hM y6 := ⟨f6.1, fun c hv => by
    by_cases x : c = 76
    · subst x
      exact ⟨p6, p6L⟩
    · refine f6.2 c ?_
      unfold V76
      rw [hv]
      cases hb : Nat.beq c 76 with
      | false => rfl
      | true => exact absurd (Nat.eq_of_beq_eq_true hb) x⟩
  have fX : fz WSU VBY hX x3 := fz_tr a4 (wsu_a (wby_a e5))
  rw [r1, Option.bind_some, cmp_b01, zr_b01, cond_true] at eT
  cases hW : sWk h0 (D + 1) 0 (x0S k1) with
  | none =>
    rw [hW] at eX eT
    obtain ⟨Q', E', hx⟩ := e6
    exact ⟨x3, y6, eX, eT, e3.1, r2, fX, f6', r4, ⟨Q', E', hx⟩, fun y hy => by cases hy⟩
  | some y =>
    rw [hW] at eX eT
    obtain ⟨w1, w2, w3, w4, w5, w6, w7, w8, w9⟩ := e7 y hW
    have z6 : gI y6 69 3 = Int32.ofNat z := (fz_gI f6' rfl).trans hT.2.2.2.1
    have m6 : MT 2 y.1 y6 := MT_fz r3 rfl rfl rfl rfl (MT_fz f45 rfl rfl rfl rfl w2)
    obtain ⟨y7, q1, q2, q3, q4, q5, q6, q7, q8⟩ := no_ok (d := D) z9 r2 z6 m6 (sms_SM hsp r4)
    refine ⟨x3, y7, eX, ?_, e3.1, q2, fX, fz_tr f6' (wtr_a q3), SMtr r4 q4, ⟨_, _, w1⟩, fun y' hy' => ?_⟩
    · rw [eT]
      show (fn_M_notes (Int32.ofNat D) y6).bind (fun q28 => bif px_zr .boolean (b01 true) then some (b01 true, q28) else none) = _
      rw [q1]
      rfl
    · cases hy'
      exact ⟨u, w, ⟨w1, q5, w3, w4, w5, w6, q7.trans ((fz_gL r3 rfl).trans ((fz_gL f45 rfl).trans w7)), q8.trans ((fz_gL r3 rfl).trans ((fz_gL f45 rfl).trans w8)), w9⟩, q6⟩
end tb_S
end mg_1

section mg_2
/-! the subsets of a bag's slips, counted both ways -/
def suN (F : Nat → Nat) : Nat → Nat
  | 0 => 0
  | k + 1 => suN F k + F k
theorem su_cg {F G : Nat → Nat} : ∀ k, (∀ j, j < k → F j = G j) → suN F k = suN G k
  | 0, _ => rfl
  | k + 1, h => by
    show suN F k + F k = suN G k + G k
    rw [su_cg k (fun j hj => h j (by omega)), h k (by omega)]
theorem su_add (F G : Nat → Nat) : ∀ k, suN (fun x => F x + G x) k = suN F k + suN G k
  | 0 => rfl
  | k + 1 => by
    show suN (fun x => F x + G x) k + (F k + G k) = suN F k + F k + (suN G k + G k)
    rw [su_add F G k]
    omega
theorem su_2 (F : Nat → Nat) : ∀ k, suN F (2 * k) = suN (fun x => F (2 * x) + F (2 * x + 1)) k
  | 0 => rfl
  | k + 1 => by
    show suN F (2 * k) + F (2 * k) + F (2 * k + 1) = suN (fun x => F (2 * x) + F (2 * x + 1)) k + (F (2 * k) + F (2 * k + 1))
    rw [su_2 F k]
    omega
theorem su_0 {F : Nat → Nat} : ∀ {k}, suN F k = 0 ↔ ∀ j, j < k → F j = 0
  | 0 => ⟨fun _ j hj => absurd hj (Nat.not_lt_zero j), fun _ => rfl⟩
  | k + 1 => by
    have ih := su_0 (F := F) (k := k)
    show suN F k + F k = 0 ↔ _
    constructor
    · intro h j hj
      by_cases e : j = k
      · rw [e]; omega
      · exact ih.mp (by omega) j (by omega)
    · intro h
      have := ih.mpr (fun j hj => h j (by omega))
      have := h k (by omega)
      omega
theorem su_z : ∀ k, suN (fun _ => 0) k = 0 := fun k => su_0.mpr (fun _ _ => rfl)
/-- the way w: its bits at the places of M, from i on -/
def sp (M : Nat → Bool) : Nat → Nat → Nat → Nat
  | 0, _, _ => 0
  | m + 1, i, w => bif M i then w % 2 * 2 ^ i + sp M m (i + 1) (w / 2) else sp M m (i + 1) w
def nbM (M : Nat → Bool) : Nat → Nat → Nat
  | 0, _ => 0
  | m + 1, i => nbM M m (i + 1) + (bif M i then 1 else 0)
def sub_ (M : Nat → Bool) : Nat → Nat → Nat → Bool
  | 0, _, _ => true
  | m + 1, i, v => (decide (v % 2 = 0) || M i) && sub_ M m (i + 1) (v / 2)
theorem subs (M : Nat → Bool) : ∀ (m i : Nat) (g : Nat → Nat), suN (fun w => g (sp M m i w)) (2 ^ nbM M m i) = suN (fun v => bif sub_ M m i v then g (v * 2 ^ i) else 0) (2 ^ m)
  | 0, i, g => by
    show 0 + g 0 = 0 + g (0 * 2 ^ i)
    rw [Nat.zero_mul]
  | m + 1, i, g => by
    have p2 : ∀ x, 2 * x * 2 ^ i = x * 2 ^ (i + 1) := fun x => by rw [Nat.pow_succ, Nat.mul_comm 2 x, Nat.mul_assoc, Nat.mul_comm 2]
    have q2 : ∀ x, (2 * x + 1) * 2 ^ i = 2 ^ i + x * 2 ^ (i + 1) := fun x => by rw [Nat.add_mul, p2, Nat.one_mul, Nat.add_comm]
    have d0 : ∀ x, 2 * x / 2 = x := fun x => by omega
    have d1 : ∀ x, (2 * x + 1) / 2 = x := fun x => by omega
    have m0 : ∀ x, 2 * x % 2 = 0 := fun x => by omega
    have m1 : ∀ x, (2 * x + 1) % 2 = 1 := fun x => by omega
    have eR : suN (fun v => bif sub_ M (m + 1) i v then g (v * 2 ^ i) else 0) (2 ^ (m + 1)) = suN (fun x => bif sub_ M m (i + 1) x then g (x * 2 ^ (i + 1)) else 0) (2 ^ m) + suN (fun x => bif M i && sub_ M m (i + 1) x then g (2 ^ i + x * 2 ^ (i + 1)) else 0) (2 ^ m) := by
      rw [Nat.pow_succ, Nat.mul_comm, su_2, ← su_add]
      refine su_cg _ (fun x _ => ?_)
      show (bif (decide (2 * x % 2 = 0) || M i) && sub_ M m (i + 1) (2 * x / 2) then g (2 * x * 2 ^ i) else 0) + (bif (decide ((2 * x + 1) % 2 = 0) || M i) && sub_ M m (i + 1) ((2 * x + 1) / 2) then g ((2 * x + 1) * 2 ^ i) else 0) = _
      rw [d0, d1, m0, m1, p2, q2, decide_eq_true rfl, Bool.true_or, Bool.true_and, show decide ((1 : Nat) = 0) = false from rfl, Bool.false_or]
    rw [eR]
    cases hM : M i with
    | false =>
      have eN : nbM M (m + 1) i = nbM M m (i + 1) := by
        show nbM M m (i + 1) + (bif M i then 1 else 0) = _
        rw [hM]
        rfl
      rw [eN]
      have eL : suN (fun w => g (sp M (m + 1) i w)) (2 ^ nbM M m (i + 1)) = suN (fun w => g (sp M m (i + 1) w)) (2 ^ nbM M m (i + 1)) := su_cg _ (fun w _ => by
        show g (bif M i then _ else sp M m (i + 1) w) = _
        rw [hM]
        rfl)
      rw [eL, subs M m (i + 1) g]
      have e0 : suN (fun x => bif false && sub_ M m (i + 1) x then g (2 ^ i + x * 2 ^ (i + 1)) else 0) (2 ^ m) = 0 := su_z _
      rw [e0]
      rfl
    | true =>
      have eN : nbM M (m + 1) i = nbM M m (i + 1) + 1 := by
        show nbM M m (i + 1) + (bif M i then 1 else 0) = _
        rw [hM]
        rfl
      rw [eN, Nat.pow_succ, Nat.mul_comm, su_2]
      have eL : suN (fun x => g (sp M (m + 1) i (2 * x)) + g (sp M (m + 1) i (2 * x + 1))) (2 ^ nbM M m (i + 1)) = suN (fun w => g (sp M m (i + 1) w)) (2 ^ nbM M m (i + 1)) + suN (fun w => g (2 ^ i + sp M m (i + 1) w)) (2 ^ nbM M m (i + 1)) := by
        rw [← su_add]
        refine su_cg _ (fun x _ => ?_)
        show g (bif M i then 2 * x % 2 * 2 ^ i + sp M m (i + 1) (2 * x / 2) else _) + g (bif M i then (2 * x + 1) % 2 * 2 ^ i + sp M m (i + 1) ((2 * x + 1) / 2) else _) = _
        rw [hM, cond_true, cond_true, d0, d1, m0, m1, Nat.zero_mul, Nat.zero_add, Nat.one_mul]
      rw [eL, subs M m (i + 1) g, subs M m (i + 1) (fun y => g (2 ^ i + y))]
      rfl
/-! .. as bits -/
theorem ib_nat (n : Nat) {j : Nat} (hj : j < 32) : ib (Int32.ofNat n) j = n.testBit j := by
  show (BitVec.ofNat 32 n).getLsbD j = _
  rw [BitVec.getLsbD_ofNat, decide_eq_true hj, Bool.true_and]
theorem nat_or (a b : Nat) : Int32.ofNat (a ||| b) = Int32.ofNat a ||| Int32.ofNat b := ib_ext (fun j hj => by rw [ib_or, ib_nat _ hj, ib_nat _ hj, ib_nat _ hj, Nat.testBit_or])
theorem sp_dvd (M : Nat → Bool) : ∀ (m i w : Nat), ∃ r, sp M m i w = 2 ^ i * r
  | 0, _, _ => ⟨0, rfl⟩
  | m + 1, i, w => by
    show ∃ r, (bif M i then w % 2 * 2 ^ i + sp M m (i + 1) (w / 2) else sp M m (i + 1) w) = _
    cases M i with
    | true =>
      obtain ⟨r, hr⟩ := sp_dvd M m (i + 1) (w / 2)
      refine ⟨w % 2 + 2 * r, ?_⟩
      rw [cond_true, hr, Nat.pow_succ, Nat.mul_add, Nat.mul_comm (w % 2), Nat.mul_assoc]
    | false =>
      obtain ⟨r, hr⟩ := sp_dvd M m (i + 1) w
      refine ⟨2 * r, ?_⟩
      rw [cond_false, hr, Nat.pow_succ, Nat.mul_assoc]
theorem sp_or (M : Nat → Bool) {m i w c : Nat} (hc : c ≤ 1) : Int32.ofNat (c * 2 ^ i + sp M m (i + 1) w) = Int32.ofNat (c * 2 ^ i) ||| Int32.ofNat (sp M m (i + 1) w) := by
  obtain ⟨r, hr⟩ := sp_dvd M m (i + 1) w
  rw [hr]
  have hp : 0 < 2 ^ i := Nat.pow_pos (by decide)
  have lt : c * 2 ^ i < 2 ^ (i + 1) := by
    rw [Nat.pow_succ, Nat.mul_comm (2 ^ i)]
    exact Nat.mul_lt_mul_of_pos_right (show c < 2 by omega) hp
  rw [Nat.add_comm, Nat.two_pow_add_eq_or_of_lt lt, nat_or]
  exact ib_ext (fun j _ => by rw [ib_or, ib_or, Bool.or_comm])
theorem pk_t : (List.range 64).all (fun w => decide (Int32.ofNat w >>> ((Int32.ofInt 1) &&& 31) = Int32.ofNat (w / 2)) && (List.range 10).all (fun i => decide (((Int32.ofNat w &&& (Int32.ofInt 1)) <<< (Int32.ofNat i &&& 31)) = Int32.ofNat (w % 2 * 2 ^ i)))) = true := by decide +kernel
theorem pk {w i : Nat} (hw : w < 64) (hi : i < 10) : Int32.ofNat w >>> ((Int32.ofInt 1) &&& 31) = Int32.ofNat (w / 2) ∧ ((Int32.ofNat w &&& (Int32.ofInt 1)) <<< (Int32.ofNat i &&& 31)) = Int32.ofNat (w % 2 * 2 ^ i) := by
  have := List.all_eq_true.mp pk_t w (List.mem_range.mpr hw)
  simp only [Bool.and_eq_true, decide_eq_true_eq] at this
  exact ⟨this.1, of_decide_eq_true (List.all_eq_true.mp this.2 i (List.mem_range.mpr hi))⟩
theorem or_as (a b c : Int32) : a ||| b ||| c = a ||| (b ||| c) := ib_ext (fun j _ => by rw [ib_or, ib_or, ib_or, ib_or, Bool.or_assoc])
/-- what both sides pack -/
def pkS (p a : Int32) (v : Nat) : Int32 := (p &&& (a ^^^ (Int32.ofInt (-1)))) ||| Int32.ofNat v
section tb_T
variable {h hX hM : px_H} {z b : Nat} {a : Int32}
theorem pk_L : ∀ (m i N w : Nat) (acc : Int32), i + m = 10 → m < N → w < 64 → fn_X_packing_L21 a h N acc (Int32.ofNat w) (Int32.ofNat i) = some (acc ||| Int32.ofNat (sp (ib a) m i w))
  | 0, i, N, w, acc, hi, hN, hw => by
    obtain ⟨N, rfl⟩ : ∃ k, N = k + 1 := ⟨N - 1, by omega⟩
    have hi : i = 10 := by omega
    show fb_X_packing_L21 a h (fn_X_packing_L21 a h N) acc (Int32.ofNat w) (Int32.ofNat i) = _
    unfold fb_X_packing_L21
    rw [show (Int8.ofInt 10).toInt32 = Int32.ofNat 10 from by decide, hi, ge_t, cond_true]
    show some acc = some (acc ||| Int32.ofInt 0)
    rw [or_0]
  | m + 1, i, N, w, acc, hi, hN, hw => by
    obtain ⟨N, rfl⟩ : ∃ k, N = k + 1 := ⟨N - 1, by omega⟩
    show fb_X_packing_L21 a h (fn_X_packing_L21 a h N) acc (Int32.ofNat w) (Int32.ofNat i) = _
    unfold fb_X_packing_L21
    rw [show (Int8.ofInt 10).toInt32 = Int32.ofNat 10 from by decide, ge_f (show i < 10 by omega) (by omega), cond_false, hb_eq _ (show i < 32 by omega), (pk hw (show i < 10 by omega)).1, (pk hw (show i < 10 by omega)).2, inc1]
    show _ = some (acc ||| Int32.ofNat (bif ib a i then w % 2 * 2 ^ i + sp (ib a) m (i + 1) (w / 2) else sp (ib a) m (i + 1) w))
    cases ib a i with
    | false =>
      rw [Bool.not_false, cond_true, cond_false]
      exact pk_L m (i + 1) N w acc (by omega) (by omega) hw
    | true =>
      rw [Bool.not_true, cond_false, cond_true, sp_or _ (by omega), ← or_as]
      exact pk_L m (i + 1) N (w / 2) _ (by omega) (by omega) (by omega)
theorem pk_X (b2 : b < 2) {w : Nat} (hw : w < 64) : fn_X_packing (Int32.ofNat b) a (Int32.ofNat w) h = some (pkS (aI h 7 b) a (sp (ib a) 10 0 w)) := by
  unfold fn_X_packing
  rw [nm_inR b 2 b2 (by omega), cond_true, nm_ofNat_clamp b (by omega)]
  exact pk_L 10 0 fu w _ (by omega) (fu_lt (by omega)) hw
theorem pk_M (b2 : b < 2) (v : Nat) : fn_M_packing (Int32.ofNat b) a (Int32.ofNat v) h = some (pkS (aI h 76 b) a v) := by
  unfold fn_M_packing
  rw [nm_inR b 2 b2 (by omega), cond_true, nm_ofNat_clamp b (by omega)]
  rfl
theorem sub_bit (M : Nat → Bool) : ∀ (m i v : Nat), v < 2 ^ m → (sub_ M m i v = true ↔ ∀ j, v.testBit j = true → M (i + j) = true)
  | 0, i, v, hv => by
    have : v = 0 := by
      have : (2 : Nat) ^ 0 = 1 := rfl
      omega
    subst this
    exact ⟨fun _ j hj => (by rw [Nat.zero_testBit] at hj; cases hj), fun _ => rfl⟩
  | m + 1, i, v, hv => by
    have h2 : v / 2 < 2 ^ m := by
      rw [Nat.pow_succ] at hv
      omega
    have ih := sub_bit M m (i + 1) (v / 2) h2
    show ((decide (v % 2 = 0) || M i) && sub_ M m (i + 1) (v / 2)) = true ↔ _
    rw [Bool.and_eq_true, ih]
    constructor
    · rintro ⟨e1, e2⟩ j hj
      match j, hj with
      | 0, hj =>
        rw [Nat.testBit_zero] at hj
        have := of_decide_eq_true hj
        rw [decide_eq_false (by omega), Bool.false_or] at e1
        exact e1
      | j + 1, hj =>
        rw [Nat.testBit_succ] at hj
        have := e2 j hj
        rw [show i + 1 + j = i + (j + 1) from by omega] at this
        exact this
    · intro H
      refine ⟨?_, fun j hj => ?_⟩
      · by_cases e : v % 2 = 0
        · rw [decide_eq_true e]; rfl
        · have := H 0 (by rw [Nat.testBit_zero]; exact decide_eq_true (by omega))
          rw [Nat.add_zero] at this
          rw [this, Bool.or_true]
      · have := H (j + 1) (by rw [Nat.testBit_succ]; exact hj)
        rw [show i + 1 + j = i + (j + 1) from by omega]
        exact this
/-- the model's test -/
theorem sub_M {v : Nat} (hv : v < 1024) : px_cmp .eq (Int32.ofNat v &&& (a ^^^ (Int32.ofInt (-1)))) 0 = sub_ (ib a) 10 0 v := by
  have key := sub_bit (ib a) 10 0 v (by show v < 1024; exact hv)
  have : (Int32.ofNat v &&& (a ^^^ (Int32.ofInt (-1))) = 0) ↔ sub_ (ib a) 10 0 v = true := by
    rw [key]
    constructor
    · intro e j hj
      rw [Nat.zero_add]
      have hj32 : j < 32 := by
        refine Classical.byContradiction (fun hn => ?_)
        have := Nat.testBit_lt_two_pow (i := j) (x := v) (Nat.lt_of_lt_of_le hv (Nat.pow_le_pow_right (n := 2) (by decide) (show 10 ≤ j by omega)))
        rw [this] at hj
        cases hj
      have e2 := congrArg (fun x => ib x j) e
      simp only [ib_0] at e2
      rw [ib_and, ib_not _ hj32, ib_nat _ hj32, hj, Bool.true_and] at e2
      simpa using e2
    · intro H
      refine ib_ext (fun j hj => ?_)
      rw [ib_and, ib_not _ hj, ib_nat _ hj, ib_0]
      cases e : v.testBit j with
      | false => rfl
      | true =>
        have := H j e
        rw [Nat.zero_add] at this
        rw [this]
        rfl
  show decide _ = _
  cases hs : sub_ (ib a) 10 0 v with
  | true => exact decide_eq_true (this.mpr hs)
  | false => exact decide_eq_false (fun e => by rw [this.mp e] at hs; cases hs)
end tb_T
end mg_2

section mg_3
/-! other packings: one after another -/
section tb_U
variable {h hX hM hX0 hM0 : px_H} {z dn nx ln D b p : Nat} {s a : Int32}
theorem nvb {k : Nat} (hk : k < 3) (o : oS h) : VBY (gR h 14 k) = false := by
  obtain ⟨-, -, -, m⟩ := bR_ok (cs := [14]) (ci := 3) (k := k) (ds := [15, 16, 17]) (a := 14) (by
    match k, hk with
    | 0, _ => rfl
    | 1, _ => rfl
    | 2, _ => rfl
    | k + 3, h => omega) List.mem_cons_self o
  exact all_f (q := VBY) rfl _ m
theorem rp_f {x y : px_H} (oX : oS hX) (f : fz WSU VBY hX x) (g : fz WTR V98 hM y) (sm' : SM hM y) (rp : RPt z dn ln hX hM) : RPt z dn ln x y := by
  obtain ⟨hT, hRR, h15, h20, hsp⟩ := rp
  refine ⟨TR_k f g (by decide) (by decide) hT, ?_, (fz_gI g rfl).trans h15, (fz_gI g rfl).trans h20, sms_SM hsp sm'⟩
  refine RR_m g rfl rfl rfl ?_
  obtain ⟨l7, r4, r1, r2, r3⟩ := hRR
  refine ⟨l7, r4, (fz_gI f rfl).trans r1, r2, fun k hk => ?_⟩
  rw [fz_gR f rfl, fz_gR f rfl, fz_gR f rfl, (f.2 _ (nvb (k := 0) (by omega) oX)).1, (f.2 _ (nvb (k := 1) (by omega) oX)).1, (f.2 _ (nvb (k := 2) (by omega) oX)).1]
  exact r3 k hk
theorem SM_rf : SM h h := ⟨⟨rfl, rfl, rfl, rfl, rfl, rfl⟩, fun _ _ => rfl, rfl⟩
/-- the class, wherever it stands -/
theorem itX {x : px_H} (oX0 : oS hX0) (oM0 : oS hM0) (rp : RPt z dn ln hX0 hM0) (b2 : b < 2) (hs : sz z s) (hD : D < dn) (ox : oS x) (f : fz WSU VBY hX0 x) (gt : GT x) :
    ∃ x3, fn_X_walkPacked (Int32.ofNat b) s (Int32.ofNat D) x = some (b01 (rsM b hM0 (D + 1) s).isSome, x3) ∧ oS x3 ∧ fz WSU VBY hX0 x3 ∧ GT x3 ∧ ∀ y, rsM b hM0 (D + 1) s = some y → ∃ u w y7, AQ z D u w y x3 y7 := by
  obtain ⟨y1, y2, c1, c2, c3, c4, -⟩ := pre_ok (s := s) b2 oM0
  have eR : rsM b hM0 (D + 1) s = sWk y2 (D + 1) 0 (x0S (kyOf y2)) := by
    unfold rsM
    rw [c2, Option.bind_some]
  obtain ⟨x3, y7, q1, q2, q3, q4, q5, q6, q7, q8, q9⟩ := try_2 (h0 := y2) (k1 := kyOf y2) ox oM0 (rp_f oX0 f fz_rf SM_rf rp) gt b2 hs hD c4 (fun y2' hy => by
    rw [c2] at hy
    cases hy
    exact ⟨fz_rf, rfl⟩)
  rw [eR]
  exact ⟨x3, q1, q3, fz_tr f q5, q8, fun y hy => by obtain ⟨u, w, hA⟩ := q9 y hy; exact ⟨u, w, y7, hA⟩⟩
/-- the model, wherever it stands -/
theorem itM {y : px_H} (oX0 : oS hX0) (oM0 : oS hM0) (gt0 : GT hX0) (rp : RPt z dn ln hX0 hM0) (b2 : b < 2) (hs : sz z s) (hD : D < dn) (oy : oS y) (f : fz WTR V98 hM0 y) (sm' : SM hM0 y) :
    ∃ y7, fn_M_tries (Int32.ofNat b) s (Int32.ofNat D) y = some (b01 (rsM b hM0 (D + 1) s).isSome, y7) ∧ oS y7 ∧ fz WTR V98 hM0 y7 ∧ SM hM0 y7 ∧ ∀ r, rsM b hM0 (D + 1) s = some r → ∃ u w x3, AQ z D u w r x3 y7 := by
  obtain ⟨y1, y2, c1, c2, c3, c4, -⟩ := pre_ok (s := s) b2 oM0
  have eR : rsM b hM0 (D + 1) s = sWk y2 (D + 1) 0 (x0S (kyOf y2)) := by
    unfold rsM
    rw [c2, Option.bind_some]
  obtain ⟨x3, y7, q1, q2, q3, q4, q5, q6, q7, q8, q9⟩ := try_2 (h0 := y2) (k1 := kyOf y2) oX0 oy (rp_f oX0 fz_rf f sm' rp) gt0 b2 hs hD c4 (fun y2' hy => pre_same b2 oM0 oy sm' f c2 hy)
  rw [eR]
  exact ⟨y7, q2, q4, fz_tr f q6, SMtr sm' q7, fun r hr => by obtain ⟨u, w, hA⟩ := q9 r hr; exact ⟨u, w, x3, hA⟩⟩
/-! the ways: down on the class's side, up on the model's -/
def wy : Nat → Int32
  | 0 => Int32.ofInt (-1)
  | k + 1 => Int32.ofNat k
theorem wy_t : (List.range 1025).all (fun k => decide (Int32.ofNat k + Int32.ofInt (-1) = wy k) && (decide (Int32.ofNat k - Int32.ofInt 1 = wy k) && decide (px_cmp .lt (Int32.ofNat k) 0 = false))) = true := by decide +kernel
theorem wy_s {k : Nat} (hk : k ≤ 1024) : Int32.ofNat k + Int32.ofInt (-1) = wy k ∧ Int32.ofNat k - Int32.ofInt 1 = wy k ∧ px_cmp .lt (Int32.ofNat k) 0 = false := by
  have := List.all_eq_true.mp wy_t k (List.mem_range.mpr (by omega))
  simpa only [Bool.and_eq_true, decide_eq_true_eq] using this
theorem nb_cb (M : Nat → Bool) : ∀ m i, nbM M m i = cb (fun j => M (i + j)) m
  | 0, _ => rfl
  | m + 1, i => by
    have : ∀ n, cb (fun j => M (i + j)) (n + 1) = (bif M i then 1 else 0) + cb (fun j => M (i + 1 + j)) n := by
      intro n
      induction n with
      | zero => show 0 + (bif M (i + 0) then 1 else 0) = (bif M i then 1 else 0) + 0; rw [Nat.add_zero, Nat.zero_add, Nat.add_zero]
      | succ n ih =>
        show cb (fun j => M (i + j)) (n + 1) + (bif M (i + (n + 1)) then 1 else 0) = (bif M i then 1 else 0) + (cb (fun j => M (i + 1 + j)) n + (bif M (i + 1 + n) then 1 else 0))
        rw [ih, show i + (n + 1) = i + 1 + n from by omega, Nat.add_assoc]
    show nbM M m (i + 1) + (bif M i then 1 else 0) = cb (fun j => M (i + j)) (m + 1)
    rw [this m, nb_cb M m (i + 1), Nat.add_comm]
theorem fw_t : (List.range 11).all (fun n => decide (((Int32.ofInt 1) <<< (Int32.ofNat n &&& 31)) - (Int32.ofInt 1) = wy (2 ^ n))) = true := by decide +kernel
theorem fw_ok (ha : sm a) : fn_X_fullestWay a h = some (wy (2 ^ nbM (ib a) 10 0)) := by
  have e : nbM (ib a) 10 0 = cb (ib a) 10 := by
    rw [nb_cb]
    refine congrArg (fun f => cb f 10) (funext (fun j => ?_))
    rw [Nat.zero_add]
  have := of_decide_eq_true (List.all_eq_true.mp fw_t (cb (ib a) 10) (List.mem_range.mpr (by have := cb_le (ib a) 10; omega)))
  unfold fn_X_fullestWay
  rw [bc_cb ha, e, this]
/-- slips of the model's bag, up from v -/
def tf (F : Nat → Nat) : Nat → Nat → Nat
  | 0, _ => 0
  | k + 1, v => F v + tf F k (v + 1)
theorem tf_su (F : Nat → Nat) : ∀ k v, tf F k v = suN (fun j => F (v + j)) k
  | 0, _ => rfl
  | k + 1, v => by
    have : ∀ n, suN (fun j => F (v + j)) (n + 1) = F v + suN (fun j => F (v + 1 + j)) n := by
      intro n
      induction n with
      | zero => show 0 + F (v + 0) = F v + 0; rw [Nat.add_zero, Nat.zero_add, Nat.add_zero]
      | succ n ih =>
        show suN (fun j => F (v + j)) (n + 1) + F (v + (n + 1)) = F v + (suN (fun j => F (v + 1 + j)) n + F (v + 1 + n))
        rw [ih, show v + (n + 1) = v + 1 + n from by omega, Nat.add_assoc]
    show F v + tf F k (v + 1) = suN (fun j => F (v + j)) (k + 1)
    rw [this k, tf_su F k (v + 1)]
theorem su_more {F : Nat → Nat} : ∀ {k n : Nat}, k ≤ n → (∀ j, k ≤ j → j < n → F j = 0) → suN F n = suN F k
  | k, 0, h, _ => by rw [show k = 0 from by omega]
  | k, n + 1, h, hz => by
    by_cases e : k = n + 1
    · rw [e]
    · show suN F n + F n = suN F k
      rw [hz n (by omega) (by omega), Nat.add_zero, su_more (by omega) (fun j h1 h2 => hz j h1 (by omega))]
/-- beyond the bag itself there is none -/
theorem sub_le {A v : Nat} (hA : A < 1024) (hv : v < 1024) (h : sub_ (ib (Int32.ofNat A)) 10 0 v = true) : v ≤ A := by
  have k := (sub_bit (ib (Int32.ofNat A)) 10 0 v (by show v < 1024; exact hv)).mp h
  have e : v = v &&& A := Nat.eq_of_testBit_eq (fun j => by
    rw [Nat.testBit_and]
    cases hb : v.testBit j with
    | false => rfl
    | true =>
      have := k j hb
      rw [Nat.zero_add] at this
      by_cases hj : j < 32
      · rw [ib_nat _ hj] at this
        rw [this]
        rfl
      · rw [ib_ge _ (by omega)] at this
        cases this)
  rw [e]
  exact Nat.and_le_right
/-- both counts are one -/
theorem two_su {A : Nat} (hA : A < 1024) (g : Nat → Nat) : suN (fun w => g (sp (ib (Int32.ofNat A)) 10 0 w)) (2 ^ nbM (ib (Int32.ofNat A)) 10 0) = tf (fun v => bif sub_ (ib (Int32.ofNat A)) 10 0 v then g v else 0) (A + 1) 0 := by
  rw [subs, tf_su]
  have e : suN (fun v => bif sub_ (ib (Int32.ofNat A)) 10 0 v then g (v * 2 ^ 0) else 0) (2 ^ 10) = suN (fun v => bif sub_ (ib (Int32.ofNat A)) 10 0 v then g (v * 2 ^ 0) else 0) (A + 1) := su_more (by show A + 1 ≤ 1024; omega) (fun j h1 h2 => by
    have h2 : j < 1024 := h2
    cases hs : sub_ (ib (Int32.ofNat A)) 10 0 j with
    | false => rfl
    | true =>
      have := sub_le hA h2 hs
      omega)
  rw [e]
  refine su_cg _ (fun j _ => ?_)
  rw [Nat.pow_zero, Nat.mul_one, Nat.zero_add]
/-- what is packed lies within the persons -/
theorem pk_sz {q : Int32} {A v : Nat} (z9 : z ≤ 10) (hq : sz z q) (ha : sz z (Int32.ofNat A)) (hv : v < 1024) (hs : sub_ (ib (Int32.ofNat A)) 10 0 v = true) : sz z (pkS q (Int32.ofNat A) v) := fun i hi => by
  unfold pkS
  rw [ib_or, ib_and, hq i hi, Bool.false_and, Bool.false_or]
  by_cases h32 : i < 32
  · rw [ib_nat _ h32]
    cases hb : v.testBit i with
    | false => rfl
    | true =>
      have := (sub_bit (ib (Int32.ofNat A)) 10 0 v (by show v < 1024; exact hv)).mp hs i hb
      rw [Nat.zero_add, ha i hi] at this
      cases this
  · exact ib_ge _ (by omega)
end tb_U
end mg_3

section mg_4
/-! questions: best, never, even - what is answered -/
theorem sp_bit (M : Nat → Bool) : ∀ (m i w j : Nat), (sp M m i w).testBit j = true → M j = true ∧ i ≤ j
  | 0, _, _, j, h => by
    have h : Nat.testBit 0 j = true := h
    rw [Nat.zero_testBit] at h
    cases h
  | m + 1, i, w, j, h => by
    have h : (bif M i then w % 2 * 2 ^ i + sp M m (i + 1) (w / 2) else sp M m (i + 1) w).testBit j = true := h
    cases hM : M i with
    | false =>
      rw [hM, cond_false] at h
      have := sp_bit M m (i + 1) w j h
      exact ⟨this.1, by omega⟩
    | true =>
      rw [hM, cond_true] at h
      obtain ⟨r, hr⟩ := sp_dvd M m (i + 1) (w / 2)
      have hp : 0 < 2 ^ i := Nat.pow_pos (by decide)
      have lt : w % 2 * 2 ^ i < 2 ^ (i + 1) := by
        rw [Nat.pow_succ, Nat.mul_comm (2 ^ i)]
        exact Nat.mul_lt_mul_of_pos_right (show w % 2 < 2 by omega) hp
      rw [hr, Nat.add_comm, Nat.two_pow_add_eq_or_of_lt lt, Nat.testBit_or, Bool.or_eq_true] at h
      rcases h with h | h
      · have := sp_bit M m (i + 1) (w / 2) j (by rw [hr]; exact h)
        exact ⟨this.1, by omega⟩
      · have hw : w % 2 = 0 ∨ w % 2 = 1 := by omega
        rcases hw with e | e
        · rw [e, Nat.zero_mul, Nat.zero_testBit] at h
          cases h
        · rw [e, Nat.one_mul, Nat.testBit_two_pow] at h
          have := of_decide_eq_true h
          subst this
          exact ⟨hM, Nat.le_refl _⟩
theorem bif_ex {α : Type} {c : Bool} {A B : Option (α × px_H)} {v : α} {G : px_H → Prop} (h1 : ∃ h', A = some (v, h') ∧ G h') (h2 : ∃ h', B = some (v, h') ∧ G h') : ∃ h', (bif c then A else B) = some (v, h') ∧ G h' := by
  cases c
  · exact h2
  · exact h1
section tb_V
variable {h hX hM hX0 hM0 : px_H} {z dn nx ln D b p A : Nat} {s a : Int32}
theorem spk_sz {q : Int32} {w : Nat} (hq : sz z q) (ha : sz z (Int32.ofNat A)) : sz z (pkS q (Int32.ofNat A) (sp (ib (Int32.ofNat A)) 10 0 w)) := fun i hi => by
  unfold pkS
  rw [ib_or, ib_and, hq i hi, Bool.false_and, Bool.false_or]
  by_cases h32 : i < 32
  · rw [ib_nat _ h32]
    cases hb : (sp (ib (Int32.ofNat A)) 10 0 w).testBit i with
    | false => rfl
    | true =>
      have := (sp_bit _ _ _ _ _ hb).1
      rw [ha i hi] at this
      cases this
  · exact ib_ge _ (by omega)
theorem gd_drw (h8 : gI h 1 8 = Int32.ofNat dn) (d6 : dn ≤ 6) (a : Int32) : fn_Town_hasDrawing a h = some (b01 (inN a dn)) := by
  unfold fn_Town_hasDrawing
  rw [h8, cmp_lt, cmp_ge, nm_ofNat_toInt dn (by omega), show (0 : Int32).toInt = 0 from by decide]
  unfold inN
  by_cases h1 : a.toInt < 0
  · rw [decide_eq_true h1, cond_true, decide_eq_false (by omega)]; rfl
  · rw [decide_eq_false h1, cond_false]
    by_cases h2 : (dn : Int) ≤ a.toInt
    · rw [decide_eq_true h2, cond_true, decide_eq_false (by omega)]; rfl
    · rw [decide_eq_false h2, cond_false, decide_eq_true (by omega)]; rfl
def cP (a1 a2 : Int32) (z : Nat) : Bool := inN a1 2 && (inS a2 z && !px_cmp .gt (nm_bc a2) (Int8.ofInt 6).toInt32)
theorem gd_canPack (hz : gI h 1 0 = Int32.ofNat z) (z9 : z ≤ 10) (a1 a2 : Int32) : fn_X_canPack a1 a2 h = some (b01 (cP a1 a2 z)) := by
  unfold fn_X_canPack
  rw [gd_isBag, Option.bind_some, cmp_b01, gd_hasAll hz z9, Option.bind_some, cmp_b01]
  unfold cP
  cases inN a1 2 <;> cases inS a2 z <;> cases px_cmp .gt (nm_bc a2) (Int8.ofInt 6).toInt32 <;> rfl
theorem gd_isPacking (hz : gI h 69 3 = Int32.ofNat z) (z9 : z ≤ 10) (h11 : gI h 69 11 = Int32.ofNat dn) (d6 : dn ≤ 6) (a1 a2 a3 : Int32) : fn_M_isPacking a1 a2 a3 h = some (b01 (cP a1 a2 z && inN a3 dn)) := by
  have e : sx_in a3.toInt64 (Int64.ofNat 0) ((gI h 69 11) - (Int32.ofInt 1)).toInt64 = b01 (inN a3 dn) := by
    rw [h11, b01_in, sub1_toInt (by omega), Int32.toInt_toInt64, i64c.1]
    unfold inN
    congr 1
    simp only [decide_eq_decide]
    omega
  unfold fn_M_isPacking
  rw [gd_MisBag, Option.bind_some, cmp_b01, gd_isSet hz z9, Option.bind_some, cmp_b01, e, cmp_b01]
  unfold cP
  cases inN a1 2 <;> cases inS a2 z <;> cases px_cmp .gt (nm_bc a2) (Int8.ofInt 6).toInt32 <;> cases inN a3 dn <;> rfl
theorem cP_t {a1 a2 : Int32} (z9 : z ≤ 10) (hc : cP a1 a2 z = true) : ∃ b A, b < 2 ∧ A < 1024 ∧ a1 = Int32.ofNat b ∧ a2 = Int32.ofNat A ∧ sz z a2 ∧ nbM (ib a2) 10 0 ≤ 6 := by
  unfold cP at hc
  simp only [Bool.and_eq_true] at hc
  obtain ⟨h1, h2, h3⟩ := hc
  obtain ⟨b, b2, rfl⟩ := inN_t h1
  have hz := inS_sz h2
  have h2 := of_decide_eq_true h2
  have p10 : (2 : Int) ^ z ≤ 1024 := by
    have e := (p2 z9).1
    have : (List.range 11).all (fun z => decide ((2 : Int) ^ z ≤ 1024)) = true := by decide +kernel
    exact of_decide_eq_true (List.all_eq_true.mp this z (List.mem_range.mpr (by omega)))
  obtain ⟨A, hA, rfl⟩ := nat_of (a := a2) (n := 1024) h2.1 (by omega)
  refine ⟨b, A, b2, hA, rfl, rfl, hz, ?_⟩
  have hs := sz_sm z9 hz
  rw [bc_cb hs] at h3
  have hl := cb_le (ib (Int32.ofNat A)) 10
  have e : nbM (ib (Int32.ofNat A)) 10 0 = cb (ib (Int32.ofNat A)) 10 := by
    rw [nb_cb]
    exact congrArg (fun f => cb f 10) (funext (fun j => by rw [Nat.zero_add]))
  rw [e]
  refine Nat.le_of_not_lt (fun hlt => ?_)
  rw [show (Int8.ofInt 6).toInt32 = Int32.ofNat 6 from by decide, cmp_gt, nm_ofNat_toInt 6 (by omega), nm_ofNat_toInt _ (by omega), decide_eq_true (by omega)] at h3
  cases h3
theorem rp_of (oX : oS hX) (hR : RLz z dn nx ln hX hM) : RPt z dn ln hX hM := by
  obtain ⟨hT, h2, h3, hC, ⟨n6, hn1, hn2⟩, h8, ⟨h9, h10⟩, h11⟩ := hR
  exact ⟨hT, RR_of oX h3, h9, h10, CL_sms hT.1 hC n6⟩
theorem GT_w48 {x x' : px_H} (f : fz W48 V49 x x') (gt : GT x) : GT x' := by
  obtain ⟨Q, E, xt⟩ := gt
  exact ⟨Q, E, XT_w48 f xt⟩
/-- two numbers told, of one side -/
theorem tell2X {x : px_H} (ox : oS x) (oM : oS hM) (gt : GT x) (v v' : Int64) : ∃ x4 x5, fn_Row_tellOne v x = some x4 ∧ fn_Row_tell v' x4 = some x5 ∧ GT x5 := by
  obtain ⟨x4, y4, t1, t2, t3, t4, t5, t6, t7⟩ := tell1 ox oM v
  obtain ⟨x5, y5, r1, r2, r3, r4, r5, r6, r7⟩ := row_tell t3 t4 t7 (by omega) v'
  exact ⟨x4, x5, t1, r1, GT_w48 (fz_tr t5 r5) gt⟩
theorem tell2M {y : px_H} (oX : oS hX) (oy : oS y) (v v' : Int64) : ∃ y4 y5, fn_M_enters v (wF y 69 1 (.int (Int32.ofInt 0))) = some y4 ∧ fn_M_enters v' y4 = some y5 := by
  obtain ⟨x4, y4, t1, t2, t3, t4, t5, t6, t7⟩ := tell1 oX oy v
  obtain ⟨x5, y5, r1, r2, r3, r4, r5, r6, r7⟩ := row_tell t3 t4 t7 (by omega) v'
  exact ⟨y4, y5, t2, r2⟩
/-! how they fail -/
noncomputable def okF (b : Nat) (hM0 : px_H) (D : Nat) (q a : Int32) (x : Nat) : Nat := bif (rsM b hM0 (D + 1) (pkS q a x)).isSome then 0 else 1
def ansF (n : Nat) (v : Int32) : Int32 := bif decide (n = 0) then v else (Int8.ofInt (-3)).toInt32
theorem ansF_z {n : Nat} {v : Int32} (h : n = 0) : ansF n v = v := by
  unfold ansF
  rw [decide_eq_true h, cond_true]
theorem ansF_n {n : Nat} {v : Int32} (h : n ≠ 0) : ansF n v = (Int8.ofInt (-3)).toInt32 := by
  unfold ansF
  rw [decide_eq_false h, cond_false]
theorem ans_X {n : Nat} {v : Int32} {x : px_H} : some ((Int8.ofInt (-3)).toInt32, x) = some (ansF (n + 1) v, x) := by rw [ansF_n (Nat.succ_ne_zero n)]
theorem ans_M {n : Nat} {v : Int32} {x : px_H} : some ((Int8.ofInt (-3)).toInt32, x) = some (ansF (1 + n) v, x) := by rw [ansF_n (show 1 + n ≠ 0 by omega)]
theorem ans_0 {v : Int32} {x : px_H} : some (v, x) = some (ansF 0 v, x) := by rw [ansF_z rfl]
section tb_V1
theorem e76 (oX0 : oS hX0) (oM0 : oS hM0) (rp : RPt z dn ln hX0 hM0) (b2 : b < 2) (hz : sz z (Int32.ofNat A)) (hD : D < dn) {x : px_H} (f : fz WSU VBY hX0 x) : aI x 7 b = aI hM0 76 b := by
  rw [(f.2 7 rfl).1]
  exact (rp.1.2.2.2.2.2.2.2.1 b b2).1
theorem z76 (oX0 : oS hX0) (oM0 : oS hM0) (rp : RPt z dn ln hX0 hM0) (b2 : b < 2) (hz : sz z (Int32.ofNat A)) (hD : D < dn) : sz z (aI hM0 76 b) := (rp.1.2.2.2.2.2.2.2.1 b b2).2.2
theorem bestX (oX0 : oS hX0) (oM0 : oS hM0) (rp : RPt z dn ln hX0 hM0) (b2 : b < 2) (hz : sz z (Int32.ofNat A)) (hD : D < dn) {a5 : Int32} : ∀ (k N : Nat) (v6 : Int32) (v7 : Int64) (x : px_H), k ≤ 64 → k < N → oS x → fz WSU VBY hX0 x → GT x → ∃ hX', fn_X_best_L59 (Int32.ofNat b) (Int32.ofNat A) (Int32.ofNat p) (Int32.ofNat D) a5 N v6 v7 (wy k) x = some (ansF (suN (fun w => okF b hM0 D (aI hM0 76 b) (Int32.ofNat A) (sp (ib (Int32.ofNat A)) 10 0 w)) k) (Int32.ofInt 0), hX') ∧ GT hX' := by
  intro k
  induction k with
  | zero =>
    intro N v6 v7 x _ hN ox f gt
    obtain ⟨N, rfl⟩ : ∃ k, N = k + 1 := ⟨N - 1, by omega⟩
    obtain ⟨x4, x5, t1, t2, t3⟩ := tell2X ox oM0 gt v6.toInt64 v7
    refine ⟨x5, ?_, t3⟩
    show fb_X_best_L59 (Int32.ofNat b) (Int32.ofNat A) (Int32.ofNat p) (Int32.ofNat D) a5 (fn_X_best_L59 (Int32.ofNat b) (Int32.ofNat A) (Int32.ofNat p) (Int32.ofNat D) a5 N) v6 v7 (Int32.ofInt (-1)) x = _
    unfold fb_X_best_L59
    rw [show px_cmp .lt (Int32.ofInt (-1)) 0 = true from by decide, cond_true, t1, Option.bind_some, t2, Option.bind_some]
    exact ans_0
  | succ k ih =>
    intro N v6 v7 x hk hN ox f gt
    obtain ⟨N, rfl⟩ : ∃ k, N = k + 1 := ⟨N - 1, by omega⟩
    have hs : sz z (pkS (aI hM0 76 b) (Int32.ofNat A) (sp (ib (Int32.ofNat A)) 10 0 k)) := spk_sz (z76 oX0 oM0 rp b2 hz hD) hz
    obtain ⟨x3, q1, q2, q3, q4, q5⟩ := itX oX0 oM0 rp b2 hs hD ox f gt
    show ∃ hX', fb_X_best_L59 (Int32.ofNat b) (Int32.ofNat A) (Int32.ofNat p) (Int32.ofNat D) a5 (fn_X_best_L59 (Int32.ofNat b) (Int32.ofNat A) (Int32.ofNat p) (Int32.ofNat D) a5 N) v6 v7 (Int32.ofNat k) x = _ ∧ _
    unfold fb_X_best_L59
    rw [(wy_s (show k ≤ 1024 by omega)).2.2, cond_false, pk_X b2 (show k < 64 by omega), Option.bind_some, e76 oX0 oM0 rp b2 hz hD f, q1, Option.bind_some, (wy_s (show k ≤ 1024 by omega)).1, cmp_b01n]
    show ∃ hX', _ = some (ansF (suN (fun w => okF b hM0 D (aI hM0 76 b) (Int32.ofNat A) (sp (ib (Int32.ofNat A)) 10 0 w)) k + okF b hM0 D (aI hM0 76 b) (Int32.ofNat A) (sp (ib (Int32.ofNat A)) 10 0 k)) (Int32.ofInt 0), hX') ∧ _
    unfold okF
    cases hr : rsM b hM0 (D + 1) (pkS (aI hM0 76 b) (Int32.ofNat A) (sp (ib (Int32.ofNat A)) 10 0 k)) with
    | none =>
      exact ⟨x3, ans_X, q4⟩
    | some y =>
      obtain ⟨u, w, y7, hA'⟩ := q5 y hr
      have key : ∀ v6 v7, ∃ hX', fn_X_best_L59 (Int32.ofNat b) (Int32.ofNat A) (Int32.ofNat p) (Int32.ofNat D) a5 N v6 v7 (wy k) x3 = some (ansF (suN (fun w => okF b hM0 D (aI hM0 76 b) (Int32.ofNat A) (sp (ib (Int32.ofNat A)) 10 0 w)) k + 0) (Int32.ofInt 0), hX') ∧ GT hX' := fun v6 v7 => ih N v6 v7 x3 (by omega) (by omega) q2 q3 q4
      show ∃ hX', (fn_Walk_chanceOfAny _ x3).bind _ = _ ∧ _
      rw [aq_anyX rp.1.1 q2 hA', Option.bind_some]
      repeat' (first | exact key _ _ | (refine bif_ex ?_ ?_))
theorem bestM (oX0 : oS hX0) (oM0 : oS hM0) (rp : RPt z dn ln hX0 hM0) (b2 : b < 2) (hz : sz z (Int32.ofNat A)) (hD : D < dn) {a5 : Int32} (gt0 : GT hX0) (hA : A < 1024) : ∀ (k v N : Nat) (v6 : Int32) (v7 : Int64) (y : px_H), v + k = A + 1 → k < N → oS y → fz WTR V98 hM0 y → SM hM0 y → ∃ hM', fn_M_best_L46 (Int32.ofNat b) (Int32.ofNat A) (Int32.ofNat p) (Int32.ofNat D) a5 N v6 v7 (Int32.ofNat v) y = some (ansF (tf (fun v => bif sub_ (ib (Int32.ofNat A)) 10 0 v then okF b hM0 D (aI hM0 76 b) (Int32.ofNat A) v else 0) k v) (Int32.ofInt 0), hM') ∧ True := by
  intro k
  induction k with
  | zero =>
    intro v N v6 v7 y hv hN oy f sm'
    obtain ⟨N, rfl⟩ : ∃ k, N = k + 1 := ⟨N - 1, by omega⟩
    obtain ⟨y4, y5, t1, t2⟩ := tell2M oX0 oy v6.toInt64 v7
    refine ⟨y5, ?_, trivial⟩
    show fb_M_best_L46 (Int32.ofNat b) (Int32.ofNat A) (Int32.ofNat p) (Int32.ofNat D) a5 (fn_M_best_L46 (Int32.ofNat b) (Int32.ofNat A) (Int32.ofNat p) (Int32.ofNat D) a5 N) v6 v7 (Int32.ofNat v) y = _
    unfold fb_M_best_L46
    rw [show v = A + 1 from by omega, gt_t (by omega), cond_true, sb_i, t1, Option.bind_some, t2, Option.bind_some]
    exact ans_0
  | succ k ih =>
    intro v N v6 v7 y hv hN oy f sm'
    obtain ⟨N, rfl⟩ : ∃ k, N = k + 1 := ⟨N - 1, by omega⟩
    show ∃ hM', fb_M_best_L46 (Int32.ofNat b) (Int32.ofNat A) (Int32.ofNat p) (Int32.ofNat D) a5 (fn_M_best_L46 (Int32.ofNat b) (Int32.ofNat A) (Int32.ofNat p) (Int32.ofNat D) a5 N) v6 v7 (Int32.ofNat v) y = _ ∧ _
    unfold fb_M_best_L46
    rw [gt_f (show v ≤ A by omega) (by omega), cond_false, sub_M (show v < 1024 by omega), inc1]
    show ∃ hM', _ = some (ansF ((bif sub_ (ib (Int32.ofNat A)) 10 0 v then okF b hM0 D (aI hM0 76 b) (Int32.ofNat A) v else 0) + tf (fun v => bif sub_ (ib (Int32.ofNat A)) 10 0 v then okF b hM0 D (aI hM0 76 b) (Int32.ofNat A) v else 0) k (v + 1)) (Int32.ofInt 0), hM') ∧ _
    cases hsub : sub_ (ib (Int32.ofNat A)) 10 0 v with
    | false =>
      rw [cond_false, cond_false, Nat.zero_add]
      exact ih (v + 1) N v6 v7 y (by omega) (by omega) oy f sm'
    | true =>
      have hs : sz z (pkS (aI hM0 76 b) (Int32.ofNat A) v) := pk_sz rp.1.1 (z76 oX0 oM0 rp b2 hz hD) hz (by omega) hsub
      obtain ⟨y7, q1, q2, q3, q4, q5⟩ := itM oX0 oM0 gt0 rp b2 hs hD oy f sm'
      rw [cond_true, cond_true, pk_M b2 v, Option.bind_some, (f.2 76 rfl).1, q1, Option.bind_some, cmp_b01n]
      unfold okF
      cases hr : rsM b hM0 (D + 1) (pkS (aI hM0 76 b) (Int32.ofNat A) v) with
      | none =>
        exact ⟨y7, ans_M, trivial⟩
      | some r =>
        obtain ⟨u, w, x3, hA'⟩ := q5 r hr
        have key : ∀ v6 v7, ∃ hM', fn_M_best_L46 (Int32.ofNat b) (Int32.ofNat A) (Int32.ofNat p) (Int32.ofNat D) a5 N v6 v7 (Int32.ofNat (v + 1)) y7 = some (ansF (0 + tf (fun v => bif sub_ (ib (Int32.ofNat A)) 10 0 v then okF b hM0 D (aI hM0 76 b) (Int32.ofNat A) v else 0) k (v + 1)) (Int32.ofInt 0), hM') ∧ True := fun v6 v7 => by
          rw [Nat.zero_add]
          exact ih (v + 1) N v6 v7 y7 (by omega) (by omega) q2 q3 q4
        show ∃ hM', (fn_M_anyOf _ y7).bind _ = _ ∧ _
        rw [aq_anyM hA', Option.bind_some]
        repeat' (first | exact key _ _ | (refine bif_ex ?_ ?_))
end tb_V1
theorem sim_best (oX : oS hX) (oM : oS hM) (hR : RLz z dn nx ln hX hM) (gt : GT hX) (a1 a2 a3 a4 a5 : Int32) : ∃ (v : Int32) (hX' hM' : px_H), fn_X_best a1 a2 a3 a4 a5 hX = some (v, hX') ∧ fn_M_best a1 a2 a3 a4 a5 hM = some (v, hM') ∧ GT hX' := by
  obtain ⟨hR1, o1, -⟩ := RLz_thr' (l := 0) hR oM
  unfold fn_X_best fn_M_best
  rw [sb_i]
  generalize wF hM 69 0 (.int (Int32.ofInt 0)) = m1 at hR1 o1 ⊢
  have hT := hR1.1
  have z9 := hT.1
  have d6 := hT.2.1
  rw [gd_canPack hT.2.2.1 z9, gd_isPacking hT.2.2.2.1 z9 hT.2.2.2.2.2.1 d6, gd_hasPerson hT.2.2.1 z9, gd_isPerson hT.2.2.2.1 z9, gd_drw hT.2.2.2.2.1 d6, Option.bind_some, Option.bind_some, Option.bind_some, Option.bind_some, cmp_b01, cmp_b01, cmp_b01, Option.bind_some, cmp_b01n, (gd_bit a5).2]
  have g := (gd_bit a5).1
  cases hc : cP a1 a2 z with
  | false => exact ⟨_, hX, m1, rfl, rfl, gt⟩
  | true =>
    cases hd : inN a4 dn with
    | false =>
      rw [Bool.not_true, cond_false, Bool.and_false, Bool.not_false, cond_true]
      cases inN a3 z with
      | false => exact ⟨_, hX, m1, rfl, rfl, gt⟩
      | true => exact ⟨_, hX, m1, rfl, rfl, gt⟩
    | true =>
      rw [Bool.not_true, cond_false, Bool.and_true, Bool.not_true, cond_false]
      cases hp : inN a3 z with
      | false => exact ⟨_, hX, m1, rfl, rfl, gt⟩
      | true =>
        rw [cond_true, cmp_b01, Bool.not_true, cond_false]
        cases h1 : px_cmp .lt a5 0 with
        | true =>
          rw [h1, cond_true] at g
          rw [← g, cond_true, cond_false]
          exact ⟨_, hX, m1, rfl, rfl, gt⟩
        | false =>
          rw [h1, cond_false] at g
          rw [g, cond_false]
          cases h5 : inN a5 2 with
          | false => exact ⟨_, hX, m1, rfl, rfl, gt⟩
          | true =>
            rw [cond_true, cond_true]
            obtain ⟨b, A, b2, hA, rfl, rfl, hz, n6⟩ := cP_t z9 hc
            obtain ⟨D, hD, rfl⟩ := inN_t hd
            obtain ⟨p, hp', rfl⟩ := inN_t hp
            have rp := rp_of oX hR1
            have h64 : 2 ^ nbM (ib (Int32.ofNat A)) 10 0 ≤ 64 := Nat.pow_le_pow_right (n := 2) (by decide) n6
            obtain ⟨x9, e1, e2⟩ := bestX (p := p) (a5 := a5) oX o1 rp b2 hz hD _ fu (Int32.ofInt (-1)) (Int64.ofNat 0) hX h64 (fu_lt (by omega)) oX fz_rf gt
            obtain ⟨y9, e3, -⟩ := bestM (p := p) (a5 := a5) oX o1 rp b2 hz hD gt hA (A + 1) 0 fu (Int32.ofInt (-1)) (Int64.ofNat 0) m1 (by omega) (fu_lt (by omega)) o1 fz_rf SM_rf
            rw [two_su hA (okF b m1 D (aI m1 76 b) (Int32.ofNat A))] at e1
            refine ⟨_, x9, y9, ?_, e3, e2⟩
            rw [fw_ok (sz_sm z9 hz), Option.bind_some]
            exact e1
end tb_V
end mg_4
