section mg_0
/-! the model notes who sat; both sides asked -/
def sB (z d : Nat) (k : KY) : Int32 := bg (fun p => decide (uq k.2 p = Int32.ofNat (d + 1))) z
def V98 (c : Nat) : Bool := VMW c || Nat.beq c 98
def VN (c : Nat) : Bool := VM c || Nat.beq c 98
def WAS (c k : Nat) : Bool := WMW c k || Wrm c k
section tb_L
variable {h h' h0 hX hM : px_H} {z dn d D nx ln : Nat}
theorem or_0 (v : Int32) : v ||| Int32.ofInt 0 = v := ib_ext (fun i _ => by rw [ib_or, ib_z, Bool.or_false])
theorem sa_L (hz : gI h 69 3 = Int32.ofNat z) (z9 : z ≤ 10) : ∀ (m p N : Nat), p + m = z → m < N → fn_M_satAt_L11 (Int32.ofNat d) h N (bg (fun p => decide (aI h 90 p = Int32.ofNat (d + 1))) p) (Int32.ofNat p) = some (bg (fun p => decide (aI h 90 p = Int32.ofNat (d + 1))) z, h) := by
  intro m
  induction m with
  | zero =>
    intro p N hp hN
    obtain ⟨N, rfl⟩ : ∃ k, N = k + 1 := ⟨N - 1, by omega⟩
    have : p = z := by omega
    subst this
    show fb_M_satAt_L11 (Int32.ofNat d) h (fn_M_satAt_L11 (Int32.ofNat d) h N) _ (Int32.ofNat p) = _
    unfold fb_M_satAt_L11
    rw [hz, ge_t, cond_true]
  | succ m ih =>
    intro p N hp hN
    obtain ⟨N, rfl⟩ : ∃ k, N = k + 1 := ⟨N - 1, by omega⟩
    show fb_M_satAt_L11 (Int32.ofNat d) h (fn_M_satAt_L11 (Int32.ofNat d) h N) _ (Int32.ofNat p) = _
    unfold fb_M_satAt_L11
    rw [hz, ge_f (show p < z by omega) (by omega), cond_false, nm_inR p 10 (by omega) (by omega), cond_true, nm_ofNat_clamp p (by omega), inc1, inc1, cmp_ne]
    have st := ih (p + 1) N (by omega) (by omega)
    by_cases e : aI h 90 p = Int32.ofNat (d + 1)
    · rw [decide_eq_true e, Bool.not_true, cond_false]
      have : bg (fun p => decide (aI h 90 p = Int32.ofNat (d + 1))) (p + 1) = bg (fun p => decide (aI h 90 p = Int32.ofNat (d + 1))) p ||| ((Int32.ofInt 1) <<< (Int32.ofNat p &&& 31)) := by
        show (bif decide (aI h 90 p = Int32.ofNat (d + 1)) then _ else _) = _
        rw [decide_eq_true e, cond_true]
        rfl
      rw [← this]
      exact st
    · rw [decide_eq_false e, Bool.not_false, cond_true, or_0]
      have : bg (fun p => decide (aI h 90 p = Int32.ofNat (d + 1))) (p + 1) = bg (fun p => decide (aI h 90 p = Int32.ofNat (d + 1))) p := by
        show (bif decide (aI h 90 p = Int32.ofNat (d + 1)) then _ else _) = _
        rw [decide_eq_false e, cond_false]
      rw [this] at st
      exact st
theorem bg_cg {f g : Nat → Bool} : ∀ n, (∀ i, i < n → f i = g i) → bg f n = bg g n
  | 0, _ => rfl
  | n + 1, h => by
    show (bif f n then _ else _) = (bif g n then _ else _)
    rw [h n (by omega), bg_cg n (fun i hi => h i (by omega))]
theorem sa_ok {E : TB} {i : Nat} (o : oS h) (hz : gI h 69 3 = Int32.ofNat z) (z9 : z ≤ 10) (g2 : MT 2 E h) (hi : i < E.1) : ∃ h', fn_M_satAt (Int32.ofNat i) (Int32.ofNat d) h = some (sB z d (E.2.1 i), h') ∧ oS h' ∧ fz WM VM h h' := by
  obtain ⟨h1, l1, l2, l3, l4⟩ := mo_look (by omega) o g2 hi
  have l1 : fn_M_looksAt (Int32.ofInt 2) (Int32.ofNat i) h = some h1 := l1
  have e := sa_L (d := d) ((fz_gI l3 rfl).trans hz) z9 z 0 fu (by omega) (fu_lt (by omega))
  have eb : bg (fun p => decide (aI h1 90 p = Int32.ofNat (d + 1))) z = sB z d (E.2.1 i) := bg_cg z (fun p hp => by rw [l4.2.2.2 p (by omega)])
  refine ⟨h1, ?_, l2, l3⟩
  unfold fn_M_satAt
  rw [l1, Option.bind_some]
  rw [eb] at e
  exact e
/-- who sat in each end -/
theorem no_L {E : TB} (z9 : z ≤ 10) : ∀ (m i N : Nat) (h : px_H), i + m = E.1 → m < N → oS h → gI h 69 3 = Int32.ofNat z → fz WM VN h0 h → MT 2 E h → (∀ j, j < i → aI h 98 j = sB z d (E.2.1 j)) →
    ∃ h', oS h' ∧ fz WM VN h0 h' ∧ MT 2 E h' ∧ (∀ j, j < E.1 → aI h' 98 j = sB z d (E.2.1 j)) ∧ fn_M_notes_L6 (Int32.ofNat d) N (Int32.ofNat i) h = (fn_M_comesBack h').bind fun q => some q := by
  intro m
  induction m with
  | zero =>
    intro i N h hi hN o hz f g2 hs
    obtain ⟨N, rfl⟩ : ∃ k, N = k + 1 := ⟨N - 1, by omega⟩
    have : i = E.1 := by omega
    subst this
    refine ⟨h, o, f, g2, hs, ?_⟩
    show fb_M_notes_L6 (Int32.ofNat d) (fn_M_notes_L6 (Int32.ofNat d) N) (Int32.ofNat E.1) h = _
    unfold fb_M_notes_L6
    rw [show (Int32.ofInt 2).toNatClampNeg = 2 from rfl, g2.1, ge_t, cond_true]
  | succ m ih =>
    intro i N h hi hN o hz f g2 hs
    obtain ⟨N, rfl⟩ : ∃ k, N = k + 1 := ⟨N - 1, by omega⟩
    have n3 := g2.2.1
    obtain ⟨h1, l1, l2, l3⟩ := sa_ok (d := d) o hz z9 g2 (show i < E.1 by omega)
    show ∃ h', _ ∧ _ ∧ _ ∧ _ ∧ fb_M_notes_L6 (Int32.ofNat d) (fn_M_notes_L6 (Int32.ofNat d) N) (Int32.ofNat i) h = _
    unfold fb_M_notes_L6
    rw [show (Int32.ofInt 2).toNatClampNeg = 2 from rfl, g2.1, ge_f (show i < E.1 by omega) (by omega), cond_false, l1, Option.bind_some]
    simp only
    rw [nm_inR i 3001 (by omega) (by omega), cond_true, nm_ofNat_clamp i (by omega), sb_i, inc1]
    have a1 : aI (uI h1 98 i (sB z d (E.2.1 i))) 98 = upd (aI h1 98) i (sB z d (E.2.1 i)) := aI_uI (cs := [98]) (t := nr_satBits) (n := 3001) rfl List.mem_cons_self l2
    have f1 : fz WM VN h (uI h1 98 i (sB z d (E.2.1 i))) := fz_tr (fz_mono l3 (fun _ _ e => e) (fun c e => by
      unfold VN at e
      simp only [Bool.or_eq_false_iff] at e
      exact e.1)) (fz_uI rfl)
    refine ih (i + 1) N _ (by omega) (by omega) (oS_uI (cs := [98]) (t := nr_satBits) (n := 3001) rfl List.mem_cons_self l2) ((fz_gI f1 rfl).trans hz) (fz_tr f f1) (MT_fz f1 rfl rfl rfl rfl g2) (fun j hj => ?_)
    rw [a1, upd_eq]
    by_cases e : j = i
    · subst e
      rw [if_pos rfl]
    · rw [if_neg e, (l3.2 98 rfl).1]
      exact hs j (by omega)
theorem was_a (a : fz WMW VMW h h') : fz WAS V98 h h' := fz_mono a (fun c k e => by
  unfold WAS at e
  simp only [Bool.or_eq_false_iff] at e
  exact e.1) (fun c e => by
  unfold V98 at e
  simp only [Bool.or_eq_false_iff] at e
  exact e.1)
theorem was_b (a : fz WM VN h h') : fz WAS V98 h h' := fz_mono a (fun c k e => by
  unfold WAS at e
  simp only [Bool.or_eq_false_iff] at e
  unfold WM
  rcases wmw_c e.1 with x | x
  · rw [x]; rfl
  · rw [x.2.1, x.2.2, Bool.or_self, Bool.and_false]) (fun c e => by
  unfold V98 at e
  simp only [Bool.or_eq_false_iff] at e
  unfold VN VM
  rw [(vmw_c e.1).1, (vmw_c e.1).2.1, (vmw_c e.1).2.2.1, e.2]
  rfl)
theorem was_r (a : fz Wrm V0 h h') : fz WAS V98 h h' := fz_mono a (fun c k e => by
  unfold WAS at e
  simp only [Bool.or_eq_false_iff] at e
  exact e.2) (fun _ _ => rfl)
theorem was_3 (a : fz W3n VM h h') : fz WAS V98 h h' := was_a (fz_mono a (fun c k e => by
  unfold W3n
  rcases wmw_c e with x | x
  · rw [x]; rfl
  · rw [x.1, x.2.1, x.2.2, Bool.or_self, Bool.or_self, Bool.and_false]) (fun c e => by
  unfold VM
  rw [(vmw_c e).1, (vmw_c e).2.1, (vmw_c e).2.2.1]
  rfl))
theorem SMtr {h'' : px_H} (a : SM h h') (b : SM h' h'') : SM h h'' := by
  obtain ⟨⟨a1, a2, a3, a4, a5, a6⟩, a7, a8⟩ := a
  obtain ⟨⟨b1, b2, b3, b4, b5, b6⟩, b7, b8⟩ := b
  exact ⟨⟨b1.trans a1, b2.trans a2, b3.trans a3, b4.trans a4, b5.trans a5, b6.trans a6⟩, fun p hp => (b7 p hp).trans (a7 p hp), b8.trans a8⟩
theorem SMs_of (s : (sm (aI h 88 0) ∧ sm (aI h 88 1) ∧ sm (aI h 89 0) ∧ sm (aI h 89 1) ∧ sm (gI h 69 32) ∧ sm (gI h 69 33)) ∧ ∀ p, p < 10 → s3 (aI h 90 p)) : SMs h := ⟨fun j hj => by
  match j, hj with
  | 0, _ => exact ⟨s.1.1, s.1.2.2.1⟩
  | 1, _ => exact ⟨s.1.2.1, s.1.2.2.2.1⟩
  | j + 2, h => omega, s.1.2.2.2.2.1, s.1.2.2.2.2.2, s.2⟩
theorem sms_SM (s : (sm (aI h 88 0) ∧ sm (aI h 88 1) ∧ sm (aI h 89 0) ∧ sm (aI h 89 1) ∧ sm (gI h 69 32) ∧ sm (gI h 69 33)) ∧ ∀ p, p < 10 → s3 (aI h 90 p)) (a : SM h h') : (sm (aI h' 88 0) ∧ sm (aI h' 88 1) ∧ sm (aI h' 89 0) ∧ sm (aI h' 89 1) ∧ sm (gI h' 69 32) ∧ sm (gI h' 69 33)) ∧ ∀ p, p < 10 → s3 (aI h' 90 p) := by
  obtain ⟨⟨a1, a2, a3, a4, a5, a6⟩, a7, a8⟩ := a
  rw [a1, a2, a3, a4, a5, a6]
  exact ⟨s.1, fun p hp => by rw [a7 p hp]; exact s.2 p hp⟩
/-- notes -/
theorem no_ok {E : TB} (z9 : z ≤ 10) (o : oS h) (hz : gI h 69 3 = Int32.ofNat z) (g2 : MT 2 E h) (s : (sm (aI h 88 0) ∧ sm (aI h 88 1) ∧ sm (aI h 89 0) ∧ sm (aI h 89 1) ∧ sm (gI h 69 32) ∧ sm (gI h 69 33)) ∧ ∀ p, p < 10 → s3 (aI h 90 p)) : ∃ h', fn_M_notes (Int32.ofNat d) h = some h' ∧ oS h' ∧ fz WAS V98 h h' ∧ SM h h' ∧ MT 2 E h' ∧ (∀ j, j < E.1 → aI h' 98 j = sB z d (E.2.1 j)) ∧ gL h' 69 45 = gL h 69 45 ∧ gL h' 69 46 = gL h 69 46 := by
  obtain ⟨h1, r1, r2, r3, r4, r5, r6⟩ := vl_remembers o
  obtain ⟨h2, n1, n2, n3, n4, n5⟩ := no_L (d := d) (h0 := h1) z9 E.1 0 fu h1 (by omega) (fu_lt (by have := g2.2.1; omega)) r2 ((fz_gI r3 rfl).trans hz) fz_rf (MT_fz r3 rfl rfl rfl rfl g2) (fun j hj => by omega)
  obtain ⟨h3, c1, c2, c3, c4⟩ := restore (h := h) (h5 := h1) (h9 := h2) s.1 s.2 r4 r5 r6 (fz_gL n2 rfl) (fz_gL n2 rfl) (fz_gI n2 rfl) n1
  have n5 : fn_M_notes_L6 (Int32.ofNat d) fu (Int32.ofInt 0) h1 = (fn_M_comesBack h2).bind fun q => some q := n5
  refine ⟨h3, ?_, c2, fz_tr (was_r r3) (fz_tr (was_b n2) (was_3 c3)), c4, MT_fz c3 rfl rfl rfl rfl n3, fun j hj => by rw [(c3.2 98 rfl).1]; exact n4 j hj, ?_, ?_⟩
  · unfold fn_M_notes
    rw [r1, Option.bind_some, n5, c1]
    rfl
  · exact (fz_gL c3 rfl).trans ((fz_gL n2 rfl).trans (fz_gL r3 rfl))
  · exact (fz_gL c3 rfl).trans ((fz_gL n2 rfl).trans (fz_gL r3 rfl))
/-! both sides asked -/
def WBY (c k : Nat) : Bool := WPS c k || Nat.beq c 21
def VBY (c : Nat) : Bool := VPS c || Nat.beq c 26
theorem wby_a {hX hX' : px_H} (a : fz WPS VPS hX hX') : fz WBY VBY hX hX' := fz_mono a (fun c k e => by
  unfold WBY at e
  simp only [Bool.or_eq_false_iff] at e
  exact e.1) (fun c e => by
  unfold VBY at e
  simp only [Bool.or_eq_false_iff] at e
  exact e.1)
theorem vl_setc {rc : Nat} (hrc : rc ∈ ruls) (oX : oS hX) (a2 a3 a4 : Int32) : ∃ h', fn_Course_set rc a2 a3 a4 hX = some h' ∧ oS h' ∧ fz (fun c _ => Nat.beq c 21) (fun c => Nat.beq c 26) hX h' ∧ gR h' 21 1 = rc ∧ aI h' 26 0 = a2 ∧ aI h' 26 1 = a3 ∧ gI h' 21 3 = a4 := by
  unfold fn_Course_set
  simp only [sb, show (Int32.ofInt 0).toNatClampNeg = 0 from rfl, show (Int32.ofInt 1).toNatClampNeg = 1 from rfl]
  have s1 : oS (wF hX 21 1 (.ref rc)) := oS_wRm (cs := ruls) (a := 21) (ci := 1) (k := 1) rfl hrc oX
  have g1 : gR (wF hX 21 1 (.ref rc)) 21 1 = rc := gR_wF (cs := [21]) (ci := 1) rfl List.mem_cons_self oX
  have f1 : fz (fun c _ => Nat.beq c 21) (fun c => Nat.beq c 26) hX (wF hX 21 1 (.ref rc)) := fz_wF rfl
  generalize wF hX 21 1 (.ref rc) = h1 at s1 g1 f1 ⊢
  have s2 : oS (uI h1 26 0 a2) := oS_uI (cs := [26]) (t := 3) (n := 2) rfl List.mem_cons_self s1
  have e2 : aI (uI h1 26 0 a2) 26 = upd (aI h1 26) 0 a2 := aI_uI (cs := [26]) (t := 3) (n := 2) rfl List.mem_cons_self s1
  have g2 : gR (uI h1 26 0 a2) 21 1 = rc := gR_uI.trans g1
  have f2 : fz (fun c _ => Nat.beq c 21) (fun c => Nat.beq c 26) hX (uI h1 26 0 a2) := fz_tr f1 (fz_uI rfl)
  generalize uI h1 26 0 a2 = h2 at s2 e2 g2 f2 ⊢
  have s3 : oS (uI h2 26 1 a3) := oS_uI (cs := [26]) (t := 3) (n := 2) rfl List.mem_cons_self s2
  have e3 : aI (uI h2 26 1 a3) 26 = upd (upd (aI h1 26) 0 a2) 1 a3 := by rw [aI_uI (cs := [26]) (t := 3) (n := 2) rfl List.mem_cons_self s2, e2]
  have g3 : gR (uI h2 26 1 a3) 21 1 = rc := gR_uI.trans g2
  have f3 : fz (fun c _ => Nat.beq c 21) (fun c => Nat.beq c 26) hX (uI h2 26 1 a3) := fz_tr f2 (fz_uI rfl)
  generalize uI h2 26 1 a3 = h3 at s3 e3 g3 f3 ⊢
  refine ⟨wF h3 21 3 (.int a4), rfl, oS_wI (cs := [21]) (ci := 1) rfl List.mem_cons_self s3, fz_tr f3 (fz_wF rfl), (gR_wF_ne (by decide)).trans g3, ?_, ?_, gI_wF (cs := [21]) (ci := 1) rfl List.mem_cons_self s3⟩
  · rw [aI_wF, e3]; rfl
  · rw [aI_wF, e3]; rfl
theorem XT_fz {Q : Int64 → Int32 → KY → Prop} {E : TB} {hX hX' : px_H} {W : Nat → Nat → Bool} {V : Nat → Bool} (a : fz W V hX hX') (h1 : ∀ c, c ∈ tbs → W c 3 = false) (h2 : W 28 0 = false ∧ W 28 1 = false ∧ W 28 2 = false) (h3 : ∀ c, 30 ≤ c → c ≤ 46 → V c = false) (xt : XT Q E hX) : XT Q E hX' := by
  obtain ⟨a', bb, e, g, rf, c1, c2, cE⟩ := xt
  have hv : ∀ {t : Nat}, t ∈ tbs → ∀ c, t + 1 ≤ c → c ≤ t + 5 → V c = false := fun ht c q1 q2 => h3 c (by rcases tb_c ht with rfl | rfl | rfl <;> omega) (by rcases tb_c ht with rfl | rfl | rfl <;> omega)
  exact ⟨a', bb, e, g, RF_fz a h2.1 h2.2.1 h2.2.2 rf, CT0_fz a (h1 _ g.1) (hv g.1) c1, CT0_fz a (h1 _ g.2.1) (hv g.2.1) c2, CT_fz a (h1 _ g.2.2.1) (hv g.2.2.1) cE⟩
theorem w21_t (c : Nat) (hc : c ∈ tbs) : Nat.beq c 21 = false := by rcases tb_c hc with rfl | rfl | rfl <;> rfl
theorem v26_t (c : Nat) (h1 : 30 ≤ c) (h2 : c ≤ 46) : Nat.beq c 26 = false := by
  cases hb : Nat.beq c 26 with
  | false => rfl
  | true => have := Nat.eq_of_beq_eq_true hb; omega
theorem w21_r {rc : Nat} (hrc : rc ∈ ruls) : Nat.beq rc 21 = false := all_f (q := fun x => Nat.beq x 21) rfl rc hrc
theorem RR_26 {rc r : Nat} {hX' : px_H} (oX : oS hX) (hrc : rc ∈ ruls) (a : fz (fun c _ => Nat.beq c 21) (fun c => Nat.beq c 26) hX hX') (h : RR rc r ln hX hM) : RR rc r ln hX' hM := by
  obtain ⟨l7, r4, r1, r2, r3⟩ := h
  have nv : ∀ k, k < 3 → Nat.beq (gR hX rc k) 26 = false := by
    intro k hk
    have hmem : ∀ k, k < 3 → gR hX rc k ∈ [15, 16, 17, 23, 24, 25, 55, 56, 57, 59, 60, 61, 63, 64, 65] := by
      intro k hk
      match k, hk with
      | 0, _ => exact (bR_ok (cs := ruls) (ci := 3) (k := 0) (ds := [15, 16, 17, 23, 24, 25, 55, 56, 57, 59, 60, 61, 63, 64, 65]) rfl hrc oX).choose_spec.2.2
      | 1, _ => exact (bR_ok (cs := ruls) (ci := 3) (k := 1) (ds := [15, 16, 17, 23, 24, 25, 55, 56, 57, 59, 60, 61, 63, 64, 65]) rfl hrc oX).choose_spec.2.2
      | 2, _ => exact (bR_ok (cs := ruls) (ci := 3) (k := 2) (ds := [15, 16, 17, 23, 24, 25, 55, 56, 57, 59, 60, 61, 63, 64, 65]) rfl hrc oX).choose_spec.2.2
      | k + 3, h => omega
    have : [15, 16, 17, 23, 24, 25, 55, 56, 57, 59, 60, 61, 63, 64, 65].all (fun c => !Nat.beq c 26) = true := by decide
    have := List.all_eq_true.mp this _ (hmem k hk)
    simpa using this
  have nw := w21_r hrc
  refine ⟨l7, r4, (fz_gI a nw).trans r1, r2, fun k hk => ?_⟩
  rw [fz_gR a nw, fz_gR a nw, fz_gR a nw, (a.2 _ (nv 0 (by omega))).1, (a.2 _ (nv 1 (by omega))).1, (a.2 _ (nv 2 (by omega))).1]
  exact r3 k hk
def x0S (k : KY) : TB × Int64 × Int64 := (tS k, Int64.ofNat 0, Int64.ofNat 0)
/-- what both sides answer from -/
def AQ (z D : Nat) (u : Int64) (w : Int32) (y : TB × Int64 × Int64) (hX hM : px_H) : Prop := FS z D u w y hX hM ∧ ∀ j, j < y.1.1 → aI hM 98 j = sB z D (y.1.2.1 j)
theorem k0_ok {c : Nat} (z9 : z ≤ 10) (n6 : nx ≤ 6) (hC : CL z nx c hX hM) : SMs hM ∧ QO (gL hX c 0) (gI hX c 1) (gL hX c 0) (gI hX c 1) (kyOf hM) ∧ kCL z nx (kyOf hM) := by
  have s : SMs hM := by
    obtain ⟨⟨q0, q1, q2, q3, q4, m2, m3⟩, hs, hz⟩ := hC
    refine ⟨fun j hj => ⟨sz_sm z9 (hz j hj).1, sz_sm z9 (hz j hj).2⟩, by rw [m2]; exact sm_z, by rw [m3]; exact sm_z, fun p hp => ?_⟩
    obtain ⟨-, v, v1, v2⟩ := hs p hp
    rw [v2]
    exact s3_of (by omega)
  have hu := UP_of s
  obtain ⟨⟨q0, q1, q2, q3, q4, m2, m3⟩, hs, hz⟩ := hC
  refine ⟨s, ⟨⟨fun _ _ _ => rfl, fun _ _ _ => rfl⟩, fun x hx => ?_, hu.2.2.1.symm.trans m3, fun p hp => (hs p hp).1.trans (hu.2.2.2 p hp), VK_of s⟩, fun p hp => ?_, fun j hj => ?_, hu.2.1.symm.trans m2, hu.2.2.1.symm.trans m3, VK_of s⟩
  · match x, hx with
    | 0, _ => exact q0.trans (hu.1 0 (by omega)).1
    | 1, _ => exact q1.trans (hu.1 1 (by omega)).1
    | 2, _ => exact q2.trans (hu.1 0 (by omega)).2
    | 3, _ => exact q3.trans (hu.1 1 (by omega)).2
    | 4, _ => exact q4.trans (m2.symm.trans hu.2.1)
    | x + 5, h => omega
  · obtain ⟨-, v, v1, v2⟩ := hs p hp
    rw [← hu.2.2.2 p hp]
    exact ⟨v, v1, v2⟩
  · rw [← (hu.1 j hj).1, ← (hu.1 j hj).2]
    exact hz j hj
theorem RR_m {rc r : Nat} {hM' : px_H} {W : Nat → Nat → Bool} {V : Nat → Bool} (a : fz W V hM hM') (h1 : V 81 = false) (h2 : V 83 = false) (h3 : V 84 = false) (h : RR rc r ln hX hM) : RR rc r ln hX hM' := by
  unfold RR at h ⊢
  rw [(a.2 81 h1).1, (a.2 83 h2).1, (a.2 84 h3).1]
  exact h
theorem aw2 {rc r : Nat} {a : Int32} (hrc : rc ∈ ruls) (oX : oS hX) (oM : oS hM) (hT : TR z dn hX hM) (hRR : RR rc r ln hX hM) (hr : gI hM 69 15 = Int32.ofNat r) (hab : ∀ p, p < z → ib a p = ib (gI hM 69 20) p) (hC : CL z nx 19 hX hM) (n6 : nx ≤ 6) (hn1 : gI hX 19 2 = Int32.ofNat nx) (hn2 : gI hM 69 31 = Int32.ofNat nx) (gt : ∃ Q E, XT Q E hX) (nD : nx ≤ D) (hD : D < dn) :
    ∃ (h0 hX' hM' : px_H), fn_X_walkBy rc a (Int32.ofNat D) hX = some (b01 (sWk h0 (D - nx + 1) nx (x0S (kyOf hM))).isSome, hX') ∧ fn_M_asks (Int32.ofNat D) hM = some (b01 (sWk h0 (D - nx + 1) nx (x0S (kyOf hM))).isSome, hM') ∧ oS hX' ∧ oS hM' ∧ fz WBY VBY hX hX' ∧ fz WAS V98 hM hM' ∧ SM hM hM' ∧ (∃ Q E, XT Q E hX') ∧ (∀ y, sWk h0 (D - nx + 1) nx (x0S (kyOf hM)) = some y → AQ z D (gL hX 19 0) (gI hX 19 1) y hX' hM') ∧ ∃ hN, fn_M_reachesNow (Int32.ofNat D) hM = some (b01 (sWk h0 (D - nx + 1) nx (x0S (kyOf hM))).isSome, hN) ∧ oS hN ∧ fz WAS V98 hM hN ∧ SM hM hN ∧ ∀ y, sWk h0 (D - nx + 1) nx (x0S (kyOf hM)) = some y → FS z D (gL hX 19 0) (gI hX 19 1) y hX' hN := by
  have z9 := hT.1
  have d6 := hT.2.1
  obtain ⟨s, kq, kc⟩ := k0_ok z9 n6 hC
  have ss := CL_sms z9 hC n6
  obtain ⟨Q, E, xt⟩ := gt
  obtain ⟨m, hm⟩ : ∃ m, D = nx + m := ⟨D - nx, by omega⟩
  have em : D - nx + 1 = m + 1 := by omega
  rw [em]
  -- the model remembers
  obtain ⟨y1, c1, c2, c3, c4, c5, c6⟩ := vl_remembers oM
  have ky1 : kyOf y1 = kyOf hM := ky_cg (fun j _ => ⟨by rw [(c3.2 88 rfl).1], by rw [(c3.2 89 rfl).1]⟩) (fz_gI c3 rfl) (fz_gI c3 rfl) (fun p _ => by rw [(c3.2 90 rfl).1])
  obtain ⟨y2, y3, d1, d2, d3, d4, d5, d7⟩ := ms_start (h0 := y1) ⟨c2, fz_rf⟩
  rw [ky1] at d4
  have hr1 : gI y1 69 15 = Int32.ofNat r := (fz_gI c3 rfl).trans hr
  -- the class begins
  obtain ⟨x1, a1, a2, a3, a4, a5, a6, a7⟩ := vl_setc hrc oX (aI hX 7 0) (aI hX 7 1) a
  have xt1 := XT_fz a3 w21_t ⟨rfl, rfl, rfl⟩ v26_t xt
  have g19 : gL x1 19 0 = gL hX 19 0 := fz_gL a3 rfl
  have g19' : gI x1 19 1 = gI hX 19 1 := fz_gI a3 rfl
  obtain ⟨x2, b1, b2, b3, b4⟩ := xs_start (c := 19) (k0 := kyOf hM) (by decide) xt1 a2
  rw [g19, g19'] at b4
  have xs1 : XS z dn rc r ln y1 x1 := ⟨a2, ⟨y1, TR_k a3 c3 (by decide) (by decide) hT, RR_m c3 rfl rfl rfl (RR_26 oX hrc a3 hRR), fz_rf⟩, a4, fun j hj => by
    rw [(c3.2 76 rfl).1]
    refine ⟨?_, (hT.2.2.2.2.2.2.2.1 j hj).2.2⟩
    match j, hj with
    | 0, _ => exact a5.trans (hT.2.2.2.2.2.2.2.1 0 (by omega)).1
    | 1, _ => exact a6.trans (hT.2.2.2.2.2.2.2.1 1 (by omega)).1
    | j + 2, h => omega, fun p hp => by rw [a7, fz_gI c3 (c := 69) (k := 20) rfl]; exact hab p hp⟩
  have xs2 := XS_ps hrc b2 b3 xs1
  have hQ : ∀ s q k, QS (gL hX 19 0) (gI hX 19 1) (kyOf hM) s q k → QO (gL hX 19 0) (gI hX 19 1) s q k := by
    rintro s q k ⟨rfl, rfl, rfl⟩
    exact kq
  obtain ⟨x3, y4, e1, e2, e3, e4, e5, e6, e7⟩ := wk2 (D := D) c2 hr1 hrc hD d6 m nx fu x2 y3 (x0S (kyOf hM)) _ (by omega) (fu_lt (by omega)) xs2 b4 hQ (fun i _ => kc) d3 d4 (Nat.le_refl 1)
  have n31 : gI y1 69 31 = Int32.ofNat nx := (fz_gI c3 rfl).trans hn2
  have eR : fn_M_reaches (Int32.ofNat D) y1 = some (b01 (sWk y1 (m + 1) nx (x0S (kyOf hM))).isSome, y4) := by
    unfold fn_M_reaches
    rw [d1, Option.bind_some, d2, Option.bind_some, n31]
    exact e2
  obtain ⟨y5, f1, f2, f3, f4⟩ := restore (h := hM) (h5 := y1) (h9 := y4) ss.1 ss.2 c4 c5 c6 (fz_gL e4.2 rfl) (fz_gL e4.2 rfl) (fz_gI e4.2 rfl) e4.1
  have eN : fn_M_reachesNow (Int32.ofNat D) hM = some (b01 (sWk y1 (m + 1) nx (x0S (kyOf hM))).isSome, y5) := by
    unfold fn_M_reachesNow
    rw [c1, Option.bind_some, eR, Option.bind_some, f1, Option.bind_some, zr_b01, cond_true]
  have fX : fz WBY VBY hX x3 := fz_tr (fz_mono a3 (fun c k e => by
    unfold WBY at e
    simp only [Bool.or_eq_false_iff] at e
    exact e.2) (fun c e => by
    unfold VBY at e
    simp only [Bool.or_eq_false_iff] at e
    exact e.2)) (wby_a (fz_tr b3 e5))
  have fM : fz WAS V98 hM y5 := fz_tr (was_r c3) (fz_tr (was_a e4.2) (was_3 f3))
  have g19n : gI x2 19 2 = Int32.ofNat nx := (fz_gI b3 rfl).trans ((fz_gI a3 rfl).trans hn1)
  have eX : fn_X_walkBy rc a (Int32.ofNat D) hX = some (b01 (sWk y1 (m + 1) nx (x0S (kyOf hM))).isSome, x3) := by
    unfold fn_X_walkBy
    rw [show (Int32.ofInt 0).toNatClampNeg = 0 from rfl, show (Int32.ofInt 1).toNatClampNeg = 1 from rfl, a1, Option.bind_some, b1, Option.bind_some, g19n]
    exact xRun_by (by omega) (m + 1) nx fu x2 _ (by omega) (fu_lt (by omega)) e1
  cases hW : sWk y1 (m + 1) nx (x0S (kyOf hM)) with
  | none =>
    rw [hW] at eX eN
    refine ⟨y1, x3, y5, by rw [hW]; exact eX, ?_, e3.1, f2, fX, fM, f4, ?_, fun y hy => (by rw [hW] at hy; cases hy), y5, by rw [hW]; exact eN, f2, fM, f4, fun y hy => (by rw [hW] at hy; cases hy)⟩
    · rw [hW]
      unfold fn_M_asks
      rw [eN, Option.bind_some]
      rfl
    · obtain ⟨Q', E', h⟩ := e6
      exact ⟨Q', E', h⟩
  | some y =>
    rw [hW] at eX eN
    obtain ⟨w1, w2, w3, w4, w5, w6, w7, w8, w9⟩ := e7 y hW
    have z5 : gI y5 69 3 = Int32.ofNat z := (fz_gI fM rfl).trans hT.2.2.2.1
    obtain ⟨y6, p1, p2, p3, p4, p5, p6, p7, p8⟩ := no_ok (d := D) z9 f2 z5 (MT_fz f3 rfl rfl rfl rfl w2) (sms_SM ss f4)
    refine ⟨y1, x3, y6, by rw [hW]; exact eX, ?_, e3.1, p2, fX, fz_tr fM p3, SMtr f4 p4, ⟨_, _, w1⟩, fun y' hy' => ?_, y5, by rw [hW]; exact eN, f2, fM, f4, fun y' hy' => ?_⟩
    · rw [hW]
      unfold fn_M_asks
      rw [eN, Option.bind_some]
      show (bif px_cmp .ne (Int32.ofInt 1) 0 then _ else _) = _
      rw [show px_cmp .ne (Int32.ofInt 1) 0 = true from by decide, cond_true]
      show (fn_M_notes (Int32.ofNat D) y5).bind _ = _
      rw [p1]
      rfl
    · rw [hW] at hy'
      cases hy'
      exact ⟨⟨w1, p5, w3, w4, w5, w6, p7.trans ((fz_gL f3 rfl).trans w7), p8.trans ((fz_gL f3 rfl).trans w8), w9⟩, p6⟩
    · rw [hW] at hy'
      cases hy'
      exact ⟨w1, MT_fz f3 rfl rfl rfl rfl w2, w3, w4, w5, w6, (fz_gL f3 rfl).trans w7, (fz_gL f3 rfl).trans w8, w9⟩
end tb_L
end mg_0

section mg_1
/-! questions: guards, rows, sums -/
def GT (hX : px_H) : Prop := ∃ Q E, XT Q E hX
def ahd (nx dn : Nat) (a : Int32) : Bool := decide ((nx : Int) ≤ a.toInt ∧ a.toInt < (dn : Int))
theorem ahd_t {nx dn : Nat} {a : Int32} (h : ahd nx dn a = true) : ∃ D, nx ≤ D ∧ D < dn ∧ a = Int32.ofNat D := by
  have h := of_decide_eq_true h
  obtain ⟨D, d1, d2⟩ := nat_of (a := a) (n := dn) (by omega) h.2
  subst d2
  have h9 := h.2
  refine ⟨D, ?_, d1, rfl⟩
  by_cases e : dn < 2147483648
  · have := h.1
    rw [nm_ofNat_toInt D (by omega)] at this
    omega
  · have h8 := (ab_i32 (Int32.ofNat D)).2
    simp only [ab_topi] at h8
    have := h.1
    by_cases e2 : D < 2147483648
    · rw [nm_ofNat_toInt D e2] at this
      omega
    · omega
section tb_M
variable {h hX hM hX' hM' h0 : px_H} {z dn nx ln D : Nat} {u : Int64} {w : Int32}
theorem gd_ahead (hR : RLz z dn nx ln hX hM) (a : Int32) : fn_X_isAhead a hX = some (b01 (ahd nx dn a)) ∧ fn_M_isLeft a hM = some (b01 (ahd nx dn a)) := by
  obtain ⟨h1, -, -, -, ⟨h5, h6, h7⟩, -⟩ := hR
  have d6 := h1.2.1
  constructor
  · unfold fn_X_isAhead
    rw [h6, h1.2.2.2.2.1, cmp_lt, cmp_ge, nm_ofNat_toInt nx (by omega), nm_ofNat_toInt dn (by omega)]
    unfold ahd
    by_cases e1 : a.toInt < (nx : Int)
    · rw [decide_eq_true e1, cond_true, decide_eq_false (by omega)]; rfl
    · rw [decide_eq_false e1, cond_false]
      by_cases e2 : (dn : Int) ≤ a.toInt
      · rw [decide_eq_true e2, cond_true, decide_eq_false (by omega)]; rfl
      · rw [decide_eq_false e2, cond_false, decide_eq_true (by omega)]; rfl
  · have e : sx_in a.toInt64 (gI hM 69 31).toInt64 ((gI hM 69 11) - (Int32.ofInt 1)).toInt64 = b01 (ahd nx dn a) := by
      rw [h7, h1.2.2.2.2.2.1, b01_in, sub1_toInt (by omega), Int32.toInt_toInt64, Int32.toInt_toInt64, nm_ofNat_toInt nx (by omega)]
      unfold ahd
      congr 1
      simp only [decide_eq_decide]
      omega
    unfold fn_M_isLeft
    rw [e, zr_b01]
    rfl
/-! rows -/
def RWs (s : Nat) (hX hM : px_H) : Prop := s ≤ 13 ∧ gI hX 48 1 = Int32.ofNat s ∧ gI hM 69 1 = Int32.ofNat s ∧ ∀ i, i < s → aL hX 49 i = aL hM 70 i
def W48 (c k : Nat) : Bool := Nat.beq c 48 && Nat.beq k 1
def V49 (c : Nat) : Bool := Nat.beq c 49
def W691 (c k : Nat) : Bool := Nat.beq c 69 && Nat.beq k 1
def V70 (c : Nat) : Bool := Nat.beq c 70
theorem RW_ex : RW hX hM ↔ ∃ s, RWs s hX hM := Iff.rfl
theorem RW_k {W W' : Nat → Nat → Bool} {V V' : Nat → Bool} (a : fz W V hX hX') (b : fz W' V' hM hM') (a1 : W 48 1 = false) (a2 : V 49 = false) (b1 : W' 69 1 = false) (b2 : V' 70 = false) (hR : RW hX hM) : RW hX' hM' := by
  obtain ⟨s, h1, h2, h3, h4⟩ := hR
  exact ⟨s, h1, (fz_gI a a1).trans h2, (fz_gI b b1).trans h3, fun i hi => by rw [(a.2 49 a2).2, (b.2 70 b2).2]; exact h4 i hi⟩
theorem row_clear (oX : oS hX) (oM : oS hM) : ∃ h', fn_Row_clear hX = some h' ∧ oS h' ∧ fz W48 V49 hX h' ∧ oS (wF hM 69 1 (.int (Int32.ofInt 0))) ∧ fz W691 V70 hM (wF hM 69 1 (.int (Int32.ofInt 0))) ∧ RWs 0 h' (wF hM 69 1 (.int (Int32.ofInt 0))) := by
  refine ⟨wF hX 48 1 (.int (Int32.ofInt 0)), rfl, oS_wI (cs := [48]) (ci := 2) rfl List.mem_cons_self oX, fz_wF rfl, oS_wI (cs := [69]) (ci := 9) rfl List.mem_cons_self oM, fz_wF rfl, by omega, gI_wF (cs := [48]) (ci := 2) rfl List.mem_cons_self oX, gI_wF (cs := [69]) (ci := 9) rfl List.mem_cons_self oM, fun i hi => by omega⟩
theorem row_tell {s : Nat} (oX : oS hX) (oM : oS hM) (hR : RWs s hX hM) (h13 : s < 13) (v : Int64) : ∃ hX' hM', fn_Row_tell v hX = some hX' ∧ fn_M_enters v hM = some hM' ∧ oS hX' ∧ oS hM' ∧ fz W48 V49 hX hX' ∧ fz W691 V70 hM hM' ∧ RWs (s + 1) hX' hM' := by
  obtain ⟨r1, r2, r3, r4⟩ := hR
  have o1 : oS (uL hX 49 s v) := oS_uL (cs := [49]) (t := 5) (n := 13) rfl List.mem_cons_self oX
  have a1 : aL (uL hX 49 s v) 49 = vp_updL (aL hX 49) s v := aL_uL (cs := [49]) (t := 5) (n := 13) rfl List.mem_cons_self oX
  have g1 : gI (uL hX 49 s v) 48 1 = Int32.ofNat s := gI_uL.trans r2
  have f1 : fz W48 V49 hX (uL hX 49 s v) := fz_uL rfl
  have o2 : oS (uL hM 70 s v) := oS_uL (cs := [70]) (t := nr_row) (n := 64) rfl List.mem_cons_self oM
  have a2 : aL (uL hM 70 s v) 70 = vp_updL (aL hM 70) s v := aL_uL (cs := [70]) (t := nr_row) (n := 64) rfl List.mem_cons_self oM
  have g2 : gI (uL hM 70 s v) 69 1 = Int32.ofNat s := gI_uL.trans r3
  have f2 : fz W691 V70 hM (uL hM 70 s v) := fz_uL rfl
  refine ⟨wF (uL hX 49 s v) 48 1 (.int (Int32.ofNat (s + 1))), wF (uL hM 70 s v) 69 1 (.int (Int32.ofNat (s + 1))), ?_, ?_, oS_wI (cs := [48]) (ci := 2) rfl List.mem_cons_self o1, oS_wI (cs := [69]) (ci := 9) rfl List.mem_cons_self o2, fz_tr f1 (fz_wF rfl), fz_tr f2 (fz_wF rfl), by omega, gI_wF (cs := [48]) (ci := 2) rfl List.mem_cons_self o1, gI_wF (cs := [69]) (ci := 9) rfl List.mem_cons_self o2, fun i hi => ?_⟩
  · unfold fn_Row_tell
    rw [r2, show (Int8.ofInt 13).toInt32 = Int32.ofNat 13 from by decide, ge_f h13 (by omega), cond_false, nm_inR s 13 h13 (by omega), cond_true, nm_ofNat_clamp s (by omega), sb_i, g1, inc1, sb_i]
  · unfold fn_M_enters
    rw [r3, nm_inR s 64 (by omega) (by omega), cond_true, nm_ofNat_clamp s (by omega), sb_i, g2, inc1, sb_i]
  · rw [aL_wF, aL_wF, a1, a2, vp_updL_eq, vp_updL_eq]
    by_cases e : i = s
    · rw [if_pos e, if_pos e]
    · rw [if_neg e, if_neg e]
      exact r4 i (by omega)
/-! sums -/
def sS (f : Nat → Bool) (C : Nat → Int64) : Nat → Nat → Int64 → Int64
  | 0, _, acc => acc
  | m + 1, i, acc => sS f C m (i + 1) (bif f i then acc + C i else acc)
theorem sS_cg {f g : Nat → Bool} {C C' : Nat → Int64} : ∀ (m i : Nat) (acc : Int64), (∀ j, i ≤ j → j < i + m → f j = g j ∧ C j = C' j) → sS f C m i acc = sS g C' m i acc
  | 0, _, _, _ => rfl
  | m + 1, i, acc, h => by
    unfold sS
    rw [(h i (by omega) (by omega)).1, (h i (by omega) (by omega)).2]
    exact sS_cg m (i + 1) _ (fun j h1 h2 => h j (by omega) (by omega))
theorem sl_L {F : Nat → Int64 → Int32 → Option Int64} {f : Nat → Bool} {C : Nat → Int64} {n : Nat} (h1 : ∀ N acc i, i < n → F (N + 1) acc (Int32.ofNat i) = F N (bif f i then acc + C i else acc) (Int32.ofNat (i + 1))) (h2 : ∀ N acc, F (N + 1) acc (Int32.ofNat n) = some acc) : ∀ (m i N : Nat) (acc : Int64), i + m = n → m < N → F N acc (Int32.ofNat i) = some (sS f C m i acc)
  | 0, i, N, acc, hi, hN => by
    obtain ⟨N, rfl⟩ : ∃ k, N = k + 1 := ⟨N - 1, by omega⟩
    have : i = n := by omega
    subst this
    exact h2 N acc
  | m + 1, i, N, acc, hi, hN => by
    obtain ⟨N, rfl⟩ : ∃ k, N = k + 1 := ⟨N - 1, by omega⟩
    rw [h1 N acc i (by omega)]
    exact sl_L h1 h2 m (i + 1) N _ (by omega) (by omega)
theorem bf_c {f : Bool} {a c : Int64} {F : Int64 → Option Int64} : (bif f then F (a + c) else F a) = F (bif f then a + c else a) := by cases f <;> rfl
theorem bf_n {f : Bool} {a c : Int64} {F : Int64 → Option Int64} : (bif !f then F a else F (a + c)) = F (bif f then a + c else a) := by cases f <;> rfl
theorem si_at {t i : Nat} (ht : t ∈ tbs) (o : oS h) (hi : i < 3000) : fn_Table_sittingAt t (Int32.ofNat i) h = some (pv (aL h (t + 1) i) 5) := by
  unfold fn_Table_sittingAt
  rw [nm_inR i 3000 hi (by omega), cond_true, (tb_ref ht o).1, nm_ofNat_clamp i (by omega), show (Int8.ofInt 50).toInt32 = (Int8.ofInt 10).toInt32 * Int32.ofNat 5 from by decide]
  rfl
theorem sit_eq {s : Int64} {q : Int32} {k : KY} (z9 : z ≤ 10) (hq : QE D u w s q k) (hz : kZ z D k) : pv s 5 = sB z D k := by
  refine sm_ext (pv_sm _ _) (bg_sm _ z9) (fun i hi => ?_)
  unfold sB
  rw [hq.2 i hi, bg_ib _ _ _ z9]
  by_cases e : i < z
  · rw [decide_eq_true e, Bool.true_and]
  · rw [decide_eq_false e, Bool.false_and, decide_eq_false (hz i (by omega) hi)]
/-- sums over all ends: of the class .. -/
theorem cs_any {Q : Int64 → Int32 → KY → Prop} {e : Nat} {E : TB} (o : oS h) (he : e ∈ tbs) (hr : gR h 28 2 = e) (hC : CT Q e E h) (a : Int32) : fn_Walk_chanceOfAny a h = some (sS (fun i => !px_cmp .eq (pv (aL h (e + 1) i) 5 &&& a) 0) E.2.2 E.1 0 (Int64.ofNat 0)) := by
  have n3 := hC.2.1
  refine sl_L (F := fun N acc i => fn_Walk_chanceOfAny_L5 a h N acc i) (n := E.1) (fun N acc i hi => ?_) (fun N acc => ?_) E.1 0 fu _ (by omega) (fu_lt (by omega))
  · show fb_Walk_chanceOfAny_L5 a h (fn_Walk_chanceOfAny_L5 a h N) acc (Int32.ofNat i) = _
    unfold fb_Walk_chanceOfAny_L5
    rw [hr, hC.1, ge_f hi (by omega), cond_false, si_at he o (by omega), Option.bind_some, inc1, nm_inR i 3000 (by omega) (by omega), cond_true, (tb_ref he o).2.2.1, nm_ofNat_clamp i (by omega), (hC.2.2.1 i hi).2]
    cases px_cmp .eq (pv (aL h (e + 1) i) 5 &&& a) 0 <;> rfl
  · show fb_Walk_chanceOfAny_L5 a h (fn_Walk_chanceOfAny_L5 a h N) acc (Int32.ofNat E.1) = _
    unfold fb_Walk_chanceOfAny_L5
    rw [hr, hC.1, ge_t, cond_true]
theorem cs_fil {Q : Int64 → Int32 → KY → Prop} {e : Nat} {E : TB} (o : oS h) (he : e ∈ tbs) (hr : gR h 28 2 = e) (hC : CT Q e E h) (a : Int32) : fn_Walk_chanceOfFilled a h = some (sS (fun i => !px_cmp .ne (nm_bc (pv (aL h (e + 1) i) 5)) a) E.2.2 E.1 0 (Int64.ofNat 0)) := by
  have n3 := hC.2.1
  refine sl_L (F := fun N acc i => fn_Walk_chanceOfFilled_L5 a h N acc i) (n := E.1) (fun N acc i hi => ?_) (fun N acc => ?_) E.1 0 fu _ (by omega) (fu_lt (by omega))
  · show fb_Walk_chanceOfFilled_L5 a h (fn_Walk_chanceOfFilled_L5 a h N) acc (Int32.ofNat i) = _
    unfold fb_Walk_chanceOfFilled_L5
    rw [hr, hC.1, ge_f hi (by omega), cond_false, si_at he o (by omega), Option.bind_some, inc1, nm_inR i 3000 (by omega) (by omega), cond_true, (tb_ref he o).2.2.1, nm_ofNat_clamp i (by omega), (hC.2.2.1 i hi).2]
    cases px_cmp .ne (nm_bc (pv (aL h (e + 1) i) 5)) a <;> rfl
  · show fb_Walk_chanceOfFilled_L5 a h (fn_Walk_chanceOfFilled_L5 a h N) acc (Int32.ofNat E.1) = _
    unfold fb_Walk_chanceOfFilled_L5
    rw [hr, hC.1, ge_t, cond_true]
theorem ep_ok {E : TB} {i : Nat} (hM2 : MT 2 E h) (hi : i < E.1) : fn_M_endPart (Int32.ofNat i) h = some (E.2.2 i) := by
  have n3 := hM2.2.1
  unfold fn_M_endPart
  rw [show (Int16.ofInt 6002).toInt32 + Int32.ofNat i = Int32.ofNat (2 * 3001 + i) from by rw [show (Int16.ofInt 6002).toInt32 = Int32.ofNat 6002 from by decide, ← Int32.ofNat_add], nm_inR _ 9003 (show 2 * 3001 + i < 9003 by omega) (by omega), cond_true, nm_ofNat_clamp _ (show 2 * 3001 + i < 2147483648 by omega), (hM2.2.2 i hi).2.2]
theorem add0L (x : Int64) : x + Int64.ofNat 0 = x := Int64.add_zero x
/-- .. and of the model -/
theorem ms_any {E : TB} (hM2 : MT 2 E h) (a : Int32) : fn_M_anyOf a h = some (sS (fun i => !px_cmp .eq (aI h 98 i &&& a) 0) E.2.2 E.1 0 (Int64.ofNat 0)) := by
  have n3 := hM2.2.1
  refine sl_L (F := fun N acc i => fn_M_anyOf_L5 a h N acc i) (n := E.1) (fun N acc i hi => ?_) (fun N acc => ?_) E.1 0 fu _ (by omega) (fu_lt (by omega))
  · show fb_M_anyOf_L5 a h (fn_M_anyOf_L5 a h N) acc (Int32.ofNat i) = _
    unfold fb_M_anyOf_L5
    rw [show (Int32.ofInt 2).toNatClampNeg = 2 from rfl, hM2.1, ge_f hi (by omega), cond_false, nm_inR i 3001 (by omega) (by omega), cond_true, nm_ofNat_clamp i (by omega), ep_ok hM2 hi, Option.bind_some, inc1, add0L]
    cases px_cmp .eq (aI h 98 i &&& a) 0 <;> rfl
  · show fb_M_anyOf_L5 a h (fn_M_anyOf_L5 a h N) acc (Int32.ofNat E.1) = _
    unfold fb_M_anyOf_L5
    rw [show (Int32.ofInt 2).toNatClampNeg = 2 from rfl, hM2.1, ge_t, cond_true]
theorem ms_fil {E : TB} (hM2 : MT 2 E h) (a : Int32) : fn_M_filled a h = some (sS (fun i => !px_cmp .ne (nm_bc (aI h 98 i)) a) E.2.2 E.1 0 (Int64.ofNat 0)) := by
  have n3 := hM2.2.1
  refine sl_L (F := fun N acc i => fn_M_filled_L5 a h N acc i) (n := E.1) (fun N acc i hi => ?_) (fun N acc => ?_) E.1 0 fu _ (by omega) (fu_lt (by omega))
  · show fb_M_filled_L5 a h (fn_M_filled_L5 a h N) acc (Int32.ofNat i) = _
    unfold fb_M_filled_L5
    rw [show (Int32.ofInt 2).toNatClampNeg = 2 from rfl, hM2.1, ge_f hi (by omega), cond_false, nm_inR i 3001 (by omega) (by omega), cond_true, nm_ofNat_clamp i (by omega), ep_ok hM2 hi, Option.bind_some, inc1, add0L]
    cases px_cmp .ne (nm_bc (aI h 98 i)) a <;> rfl
  · show fb_M_filled_L5 a h (fn_M_filled_L5 a h N) acc (Int32.ofNat E.1) = _
    unfold fb_M_filled_L5
    rw [show (Int32.ofInt 2).toNatClampNeg = 2 from rfl, hM2.1, ge_t, cond_true]
/-! both sides, behind the last drawing -/
def sAny (z D : Nat) (y : TB × Int64 × Int64) (a : Int32) : Int64 := sS (fun i => !px_cmp .eq (sB z D (y.1.2.1 i) &&& a) 0) y.1.2.2 y.1.1 0 (Int64.ofNat 0)
def sFil (z D : Nat) (y : TB × Int64 × Int64) (a : Int32) : Int64 := sS (fun i => !px_cmp .ne (nm_bc (sB z D (y.1.2.1 i))) a) y.1.2.2 y.1.1 0 (Int64.ofNat 0)
variable {y : TB × Int64 × Int64}
theorem aq_anyX (z9 : z ≤ 10) (o : oS hX) (hA : AQ z D u w y hX hM) (a : Int32) : fn_Walk_chanceOfAny a hX = some (sAny z D y a) := by
  obtain ⟨⟨⟨_, _, e, g, rf, c1, c2, cE⟩, -, hk, -⟩, -⟩ := hA
  rw [cs_any o g.2.2.1 rf.2.2 cE a]
  refine congrArg some (sS_cg _ _ _ (fun j _ hj => ⟨?_, rfl⟩))
  rw [sit_eq z9 (cE.2.2.1 j (by omega)).1 (hk j (by omega)).2]
theorem aq_filX (z9 : z ≤ 10) (o : oS hX) (hA : AQ z D u w y hX hM) (a : Int32) : fn_Walk_chanceOfFilled a hX = some (sFil z D y a) := by
  obtain ⟨⟨⟨_, _, e, g, rf, c1, c2, cE⟩, -, hk, -⟩, -⟩ := hA
  rw [cs_fil o g.2.2.1 rf.2.2 cE a]
  refine congrArg some (sS_cg _ _ _ (fun j _ hj => ⟨?_, rfl⟩))
  rw [sit_eq z9 (cE.2.2.1 j (by omega)).1 (hk j (by omega)).2]
theorem aq_anyM (hA : AQ z D u w y hX hM) (a : Int32) : fn_M_anyOf a hM = some (sAny z D y a) := by
  rw [ms_any hA.1.2.1 a]
  refine congrArg some (sS_cg _ _ _ (fun j _ hj => ⟨?_, rfl⟩))
  rw [hA.2 j (by omega)]
theorem aq_filM (hA : AQ z D u w y hX hM) (a : Int32) : fn_M_filled a hM = some (sFil z D y a) := by
  rw [ms_fil hA.1.2.1 a]
  refine congrArg some (sS_cg _ _ _ (fun j _ hj => ⟨?_, rfl⟩))
  rw [hA.2 j (by omega)]
/-- frames that leave the answers -/
theorem XT_w48 {Q : Int64 → Int32 → KY → Prop} {E : TB} (a : fz W48 V49 hX hX') (xt : XT Q E hX) : XT Q E hX' := XT_fz a (fun c hc => by rcases tb_c hc with rfl | rfl | rfl <;> rfl) ⟨rfl, rfl, rfl⟩ (fun c h1 h2 => by
  unfold V49
  cases hb : Nat.beq c 49 with
  | false => rfl
  | true => have := Nat.eq_of_beq_eq_true hb; omega) xt
theorem AQ_k (a : fz W48 V49 hX hX') (b : fz W691 V70 hM hM') (hA : AQ z D u w y hX hM) : AQ z D u w y hX' hM' := by
  obtain ⟨⟨a1, a2, a3, a4, a5, a6, a7, a8, a10⟩, a9⟩ := hA
  exact ⟨⟨XT_w48 a a1, MT_fz b rfl rfl rfl rfl a2, a3, a4, (fz_gL a rfl).trans a5, (fz_gL a rfl).trans a6, (fz_gL b rfl).trans a7, (fz_gL b rfl).trans a8, a10⟩, fun j hj => by rw [(b.2 98 rfl).1]; exact a9 j hj⟩
theorem AQ_gt (hA : AQ z D u w y hX hM) : GT hX := ⟨_, _, hA.1.1⟩
/-- both sides asked by THE RULE, none away at war -/
theorem ask2 (oX : oS hX) (oM : oS hM) (hR : RLz z dn nx ln hX hM) (gt : GT hX) (nD : nx ≤ D) (hD : D < dn) :
    ∃ (h0 hX' hM' : px_H), fn_X_walkBy 14 (Int32.ofInt 0) (Int32.ofNat D) hX = some (b01 (sWk h0 (D - nx + 1) nx (x0S (kyOf hM))).isSome, hX') ∧ fn_M_asks (Int32.ofNat D) hM = some (b01 (sWk h0 (D - nx + 1) nx (x0S (kyOf hM))).isSome, hM') ∧ oS hX' ∧ oS hM' ∧ fz WBY VBY hX hX' ∧ fz WAS V98 hM hM' ∧ SM hM hM' ∧ GT hX' ∧ (∀ y, sWk h0 (D - nx + 1) nx (x0S (kyOf hM)) = some y → AQ z D (gL hX 19 0) (gI hX 19 1) y hX' hM') ∧ ∃ hN, fn_M_reachesNow (Int32.ofNat D) hM = some (b01 (sWk h0 (D - nx + 1) nx (x0S (kyOf hM))).isSome, hN) ∧ oS hN ∧ fz WAS V98 hM hN ∧ SM hM hN ∧ ∀ y, sWk h0 (D - nx + 1) nx (x0S (kyOf hM)) = some y → FS z D (gL hX 19 0) (gI hX 19 1) y hX' hN := by
  obtain ⟨h1, h2, h3, h4, ⟨h5, h6, h7⟩, h8, ⟨h9, h10⟩, h11⟩ := hR
  exact aw2 (rc := 14) (r := 0) (by decide) oX oM h1 (RR_of oX h3) h9 (fun p _ => by rw [h10]) h4 h5 h6 h7 gt nD hD
/-- the row: nothing (0), how many numbers (1), all of it (2) -/
def RWv (l s : Nat) (hX hM : px_H) : Prop := s ≤ 13 ∧ (1 ≤ l → gI hX 48 1 = Int32.ofNat s ∧ gI hM 69 1 = Int32.ofNat s) ∧ (2 ≤ l → ∀ i, i < s → aL hX 49 i = aL hM 70 i)
def RWq (l : Nat) (hX hM : px_H) : Prop := ∃ s, RWv l s hX hM
theorem RWs_v {l s : Nat} (h : RWs s hX hM) : RWv l s hX hM := ⟨h.1, fun _ => ⟨h.2.1, h.2.2.1⟩, fun _ => h.2.2.2⟩
theorem RWq_k {l : Nat} {W W' : Nat → Nat → Bool} {V V' : Nat → Bool} (a : fz W V hX hX') (b : fz W' V' hM hM') (a1 : W 48 1 = false) (a2 : V 49 = false) (b1 : W' 69 1 = false) (b2 : V' 70 = false) (hR : RWq l hX hM) : RWq l hX' hM' := by
  obtain ⟨s, h1, h2, h3⟩ := hR
  exact ⟨s, h1, fun x => ⟨(fz_gI a a1).trans (h2 x).1, (fz_gI b b1).trans (h2 x).2⟩, fun x i hi => by rw [(a.2 49 a2).2, (b.2 70 b2).2]; exact h3 x i hi⟩
theorem RWq_1 {l : Nat} (h : RWq l hX hM) (l1 : l ≤ 1) (e : gI hX' 48 1 = gI hM' 69 1) (s : Nat) (hs : s ≤ 13) (es : gI hM' 69 1 = Int32.ofNat s) : RWq l hX' hM' := ⟨s, hs, fun _ => ⟨e.trans es, es⟩, fun x => by omega⟩
variable {l : Nat}
/-- what a question leaves on both sides, the relation aside -/
def QR (l : Nat) (hX' hM' : px_H) : Prop := GT hX' ∧ RWq l hX' hM'
theorem RWq_by (a : fz WBY VBY hX hX') (b : fz WAS V98 hM hM') (hR : RWq l hX hM) : RWq l hX' hM' := RWq_k a b rfl rfl rfl rfl hR
theorem RLz_thr' (hR : RLz z dn nx ln hX hM) (oM : oS hM) : RLz z dn nx ln hX (wF hM 69 0 (.int (Int32.ofInt 0))) ∧ oS (wF hM 69 0 (.int (Int32.ofInt 0))) ∧ (∀ {hX}, RWq l hX hM → RWq l hX (wF hM 69 0 (.int (Int32.ofInt 0)))) := ⟨RLz_thr hR oM, (vl_thr oM).1, fun hr => RWq_k (W := W0) (V := V0) fz_rf (vl_thr oM).2 rfl rfl rfl rfl hr⟩
theorem sim_chance (oX : oS hX) (oM : oS hM) (hR : RLz z dn nx ln hX hM) (gt : GT hX) (hW : RWq l hX hM) (a1 a2 : Int32) : ∃ (v : Int32) (hX' hM' : px_H), fn_X_chance a1 a2 hX = some (v, hX') ∧ fn_M_chance a1 a2 hM = some (v, hM') ∧ QR l hX' hM' := by
  obtain ⟨hR1, o1, hW1⟩ := RLz_thr' hR oM
  have hW1 := hW1 hW
  unfold fn_X_chance fn_M_chance
  rw [sb_i]
  generalize wF hM 69 0 (.int (Int32.ofInt 0)) = m1 at hR1 o1 hW1 ⊢
  have hT := hR1.1
  rw [gd_hasPerson hT.2.2.1 hT.1, gd_isPerson hT.2.2.2.1 hT.1, Option.bind_some, Option.bind_some, cmp_b01, (gd_ahead hR1 a2).1, (gd_ahead hR1 a2).2, Option.bind_some, Option.bind_some, cmp_b01n]
  cases hp : inN a1 z with
  | false => exact ⟨_, hX, m1, rfl, rfl, gt, hW1⟩
  | true =>
    rw [Bool.not_true, cond_false, cond_false]
    cases ha : ahd nx dn a2 with
    | false => exact ⟨_, hX, m1, rfl, rfl, gt, hW1⟩
    | true =>
      obtain ⟨D, nD, hD, rfl⟩ := ahd_t ha
      obtain ⟨h0, x1, y1, b1, b2, b3, b4, b5, b6, b7, b8, b9, -⟩ := ask2 oX o1 hR1 gt nD hD
      rw [cond_true, cond_true, b1, b2, Option.bind_some, Option.bind_some]
      simp only [cmp_b01n]
      cases hS : sWk h0 (D - nx + 1) nx (x0S (kyOf m1)) with
      | none => exact ⟨_, x1, y1, rfl, rfl, b8, RWq_by b5 b6 hW1⟩
      | some y =>
        have hA := b9 y hS
        obtain ⟨x2, r1, r2, r3, r4, r5, r6⟩ := row_clear b3 b4
        have hA2 := AQ_k r3 r5 hA
        have eA := aq_anyX hT.1 b3 hA ((Int32.ofInt 1) <<< (a1 &&& 31))
        have eM := aq_anyM hA2 ((Int32.ofInt 1) <<< (a1 &&& 31))
        obtain ⟨x3, y3, t1, t2, t3, t4, t5, t6, t7⟩ := row_tell r2 r4 r6 (by omega) (sAny z D y ((Int32.ofInt 1) <<< (a1 &&& 31)))
        refine ⟨Int32.ofInt 0, x3, y3, ?_, ?_, AQ_gt (AQ_k t5 t6 hA2), _, RWs_v t7⟩
        · show (fn_Walk_chanceOfAny _ x1).bind _ = _
          rw [eA, Option.bind_some]
          unfold fn_Row_tellOne
          rw [r1, Option.bind_some, t1]
          rfl
        · show (fn_M_anyOf _ _).bind _ = _
          rw [eM, Option.bind_some, t2]
          rfl
end tb_M
end mg_1

section mg_2
/-! questions: each, ever, empty, vain, house, ways -/
section tb_N
variable {h hX hM hX' hM' h0 : px_H} {z dn nx ln D : Nat} {u : Int64} {w : Int32} {y : TB × Int64 × Int64}
variable {l : Nat}
theorem ask_K {GX GM : Int32 × px_H → Option (Int32 × px_H)} {c : Int32} (oX : oS hX) (oM : oS hM) (hR : RLz z dn nx ln hX hM) (gt : GT hX) (hW : RWq l hX hM) (nD : nx ≤ D) (hD : D < dn) (n1 : ∀ h, GX (b01 false, h) = some (c, h)) (n2 : ∀ h, GM (b01 false, h) = some (c, h))
    (hK : ∀ (y : TB × Int64 × Int64) (x1 y1 : px_H), oS x1 → oS y1 → fz WBY VBY hX x1 → fz WAS V98 hM y1 → RWq l x1 y1 → AQ z D (gL hX 19 0) (gI hX 19 1) y x1 y1 → (∃ h0 m k, sWk h0 m nx (x0S k) = some y) → ∃ (v : Int32) (hX' hM' : px_H), GX (b01 true, x1) = some (v, hX') ∧ GM (b01 true, y1) = some (v, hM') ∧ QR l hX' hM') :
    ∃ (v : Int32) (hX' hM' : px_H), (fn_X_walkBy 14 (Int32.ofInt 0) (Int32.ofNat D) hX).bind GX = some (v, hX') ∧ (fn_M_asks (Int32.ofNat D) hM).bind GM = some (v, hM') ∧ QR l hX' hM' := by
  obtain ⟨h0, x1, y1, b1, b2, b3, b4, b5, b6, b7, b8, b9, -⟩ := ask2 oX oM hR gt nD hD
  rw [b1, b2, Option.bind_some, Option.bind_some]
  cases hS : sWk h0 (D - nx + 1) nx (x0S (kyOf hM)) with
  | none => exact ⟨c, x1, y1, n1 x1, n2 y1, b8, RWq_by b5 b6 hW⟩
  | some y => exact hK y x1 y1 b3 b4 b5 b6 (RWq_by b5 b6 hW) (b9 y hS) ⟨_, _, _, hS⟩
theorem ask_N {GX GM : Int32 × px_H → Option (Int32 × px_H)} {c : Int32} (oX : oS hX) (oM : oS hM) (hR : RLz z dn nx ln hX hM) (gt : GT hX) (hW : RWq l hX hM) (nD : nx ≤ D) (hD : D < dn) (n1 : ∀ h, GX (b01 false, h) = some (c, h)) (n2 : ∀ h, GM (b01 false, h) = some (c, h))
    (hK : ∀ (y : TB × Int64 × Int64) (x1 y1 : px_H), oS x1 → oS y1 → fz WBY VBY hX x1 → fz WAS V98 hM y1 → SM hM y1 → RWq l x1 y1 → FS z D (gL hX 19 0) (gI hX 19 1) y x1 y1 → ∃ (v : Int32) (hX' hM' : px_H), GX (b01 true, x1) = some (v, hX') ∧ GM (b01 true, y1) = some (v, hM') ∧ QR l hX' hM') :
    ∃ (v : Int32) (hX' hM' : px_H), (fn_X_walkBy 14 (Int32.ofInt 0) (Int32.ofNat D) hX).bind GX = some (v, hX') ∧ (fn_M_reachesNow (Int32.ofNat D) hM).bind GM = some (v, hM') ∧ QR l hX' hM' := by
  obtain ⟨h0, x1, y1, b1, b2, b3, b4, b5, b6, b7, b8, b9, hN, c1, c2, c3, c4, c5⟩ := ask2 oX oM hR gt nD hD
  rw [b1, c1, Option.bind_some, Option.bind_some]
  cases hS : sWk h0 (D - nx + 1) nx (x0S (kyOf hM)) with
  | none => exact ⟨c, x1, hN, n1 x1, n2 hN, b8, RWq_by b5 c3 hW⟩
  | some y => exact hK y x1 hN b3 c2 b5 c3 c4 (RWq_by b5 c3 hW) (c5 y hS)
/-- one number told -/
theorem tell1 (oX : oS hX) (oM : oS hM) (v : Int64) : ∃ hX' hM', fn_Row_tellOne v hX = some hX' ∧ fn_M_enters v (wF hM 69 1 (.int (Int32.ofInt 0))) = some hM' ∧ oS hX' ∧ oS hM' ∧ fz W48 V49 hX hX' ∧ fz W691 V70 hM hM' ∧ RWs 1 hX' hM' := by
  obtain ⟨x2, r1, r2, r3, r4, r5, r6⟩ := row_clear oX oM
  obtain ⟨x3, y3, t1, t2, t3, t4, t5, t6, t7⟩ := row_tell r2 r4 r6 (by omega) v
  refine ⟨x3, y3, ?_, t2, t3, t4, fz_tr r3 t5, fz_tr r5 t6, t7⟩
  unfold fn_Row_tellOne
  rw [r1, Option.bind_some, t1]
  rfl
/-! each -/
theorem each_L (z9 : z ≤ 10) : ∀ (m i N : Nat) (x y' : px_H), i + m = z → m < N → oS x → oS y' → gI x 1 0 = Int32.ofNat z → gI y' 69 3 = Int32.ofNat z → AQ z D u w y x y' → RWs i x y' → ∃ hX' hM', fn_X_each_L35 N (Int32.ofNat i) x = some (Int32.ofInt 0, hX') ∧ fn_M_each_L33 N (Int32.ofNat i) y' = some (Int32.ofInt 0, hM') ∧ QR l hX' hM' := by
  intro m
  induction m with
  | zero =>
    intro i N x y' hi hN ox oy g1 g2 hA hR
    obtain ⟨N, rfl⟩ : ∃ k, N = k + 1 := ⟨N - 1, by omega⟩
    have hi : i = z := by omega
    rw [hi]
    refine ⟨x, y', ?_, ?_, AQ_gt hA, _, RWs_v hR⟩
    · show fb_X_each_L35 (fn_X_each_L35 N) (Int32.ofNat z) x = _
      unfold fb_X_each_L35
      rw [g1, ge_t, cond_true]
    · show fb_M_each_L33 (fn_M_each_L33 N) (Int32.ofNat z) y' = _
      unfold fb_M_each_L33
      rw [g2, ge_t, cond_true]
  | succ m ih =>
    intro i N x y' hi hN ox oy g1 g2 hA hR
    obtain ⟨N, rfl⟩ : ∃ k, N = k + 1 := ⟨N - 1, by omega⟩
    obtain ⟨x3, y3, t1, t2, t3, t4, t5, t6, t7⟩ := row_tell ox oy hR (by omega) (sAny z D y ((Int32.ofInt 1) <<< (Int32.ofNat i &&& 31)))
    obtain ⟨hX', hM', q1, q2, q3⟩ := ih (i + 1) N x3 y3 (by omega) (by omega) t3 t4 ((fz_gI t5 rfl).trans g1) ((fz_gI t6 rfl).trans g2) (AQ_k t5 t6 hA) t7
    refine ⟨hX', hM', ?_, ?_, q3⟩
    · show fb_X_each_L35 (fn_X_each_L35 N) (Int32.ofNat i) x = _
      unfold fb_X_each_L35
      rw [g1, ge_f (show i < z by omega) (by omega), cond_false, aq_anyX z9 ox hA, Option.bind_some, t1, Option.bind_some, inc1]
      exact q1
    · show fb_M_each_L33 (fn_M_each_L33 N) (Int32.ofNat i) y' = _
      unfold fb_M_each_L33
      rw [g2, ge_f (show i < z by omega) (by omega), cond_false, aq_anyM hA, Option.bind_some, t2, Option.bind_some, inc1]
      exact q2
theorem sim_each (oX : oS hX) (oM : oS hM) (hR : RLz z dn nx ln hX hM) (gt : GT hX) (hW : RWq l hX hM) (a1 : Int32) : ∃ (v : Int32) (hX' hM' : px_H), fn_X_each a1 hX = some (v, hX') ∧ fn_M_each a1 hM = some (v, hM') ∧ QR l hX' hM' := by
  obtain ⟨hR1, o1, hW1⟩ := RLz_thr' hR oM
  have hW1 := hW1 hW
  unfold fn_X_each fn_M_each
  rw [sb_i]
  generalize wF hM 69 0 (.int (Int32.ofInt 0)) = m1 at hR1 o1 hW1 ⊢
  have hT := hR1.1
  rw [(gd_ahead hR1 a1).1, (gd_ahead hR1 a1).2, Option.bind_some, Option.bind_some, cmp_b01n]
  cases ha : ahd nx dn a1 with
  | false => exact ⟨_, hX, m1, rfl, rfl, gt, hW1⟩
  | true =>
    obtain ⟨D, nD, hD, rfl⟩ := ahd_t ha
    rw [cond_true, cond_true]
    refine ask_K oX o1 hR1 gt hW1 nD hD (fun _ => rfl) (fun _ => rfl) (fun y x1 y1 s1 s2 f1 f2 hw hA _ => ?_)
    obtain ⟨x2, r1, r2, r3, r4, r5, r6⟩ := row_clear s1 s2
    obtain ⟨x3, y3, e1, e2, e3⟩ := each_L (D := D) hT.1 z 0 fu x2 _ (by omega) (fu_lt (by have := hT.1; omega)) r2 r4 ((fz_gI r3 rfl).trans ((fz_gI f1 rfl).trans hT.2.2.1)) ((fz_gI r5 rfl).trans ((fz_gI f2 rfl).trans hT.2.2.2.1)) (AQ_k r3 r5 hA) r6
    refine ⟨Int32.ofInt 0, x3, y3, ?_, ?_, e3⟩
    · show (fn_Row_clear x1).bind _ = _
      rw [r1]
      exact e1
    · exact e2
/-! vain -/
theorem sim_vain (oX : oS hX) (oM : oS hM) (hR : RLz z dn nx ln hX hM) (gt : GT hX) (hW : RWq l hX hM) (a1 : Int32) : ∃ (v : Int32) (hX' hM' : px_H), fn_X_vain a1 hX = some (v, hX') ∧ fn_M_vain a1 hM = some (v, hM') ∧ QR l hX' hM' := by
  obtain ⟨hR1, o1, hW1⟩ := RLz_thr' hR oM
  have hW1 := hW1 hW
  unfold fn_X_vain fn_M_vain
  rw [sb_i]
  generalize wF hM 69 0 (.int (Int32.ofInt 0)) = m1 at hR1 o1 hW1 ⊢
  rw [(gd_ahead hR1 a1).1, (gd_ahead hR1 a1).2, Option.bind_some, Option.bind_some, cmp_b01n]
  cases ha : ahd nx dn a1 with
  | false => exact ⟨_, hX, m1, rfl, rfl, gt, hW1⟩
  | true =>
    obtain ⟨D, nD, hD, rfl⟩ := ahd_t ha
    rw [cond_true, cond_true]
    refine ask_K oX o1 hR1 gt hW1 nD hD (fun _ => rfl) (fun _ => rfl) (fun y x1 y1 s1 s2 f1 f2 hw hA _ => ?_)
    obtain ⟨-, -, -, -, d1, d2, d3, d4, -⟩ := hA.1
    obtain ⟨x2, y2, r1, r2, r3, r4, r5, r6, r7⟩ := tell1 s1 s2 y.2.1
    obtain ⟨x3, y3, t1, t2, t3, t4, t5, t6, t7⟩ := row_tell r3 r4 r7 (by omega) y.2.2
    refine ⟨Int32.ofInt 0, x3, y3, ?_, ?_, AQ_gt (AQ_k (fz_tr r5 t5) (fz_tr r6 t6) hA), _, RWs_v t7⟩
    · show (fn_Row_tellOne (gL x1 28 4) x1).bind (fun q10 => (fn_Row_tell (gL q10 28 5) q10).bind fun q14 => some (Int32.ofInt 0, q14)) = _
      rw [d1, r1, Option.bind_some, (fz_gL r5 rfl).trans d2, t1]
      rfl
    · show (fn_M_enters (gL (wF y1 69 1 (.int (Int32.ofInt 0))) 69 45) (wF y1 69 1 (.int (Int32.ofInt 0)))).bind (fun q14 => (fn_M_enters (gL q14 69 46) q14).bind fun q18 => some (Int32.ofInt 0, q18)) = _
      rw [gL_wF_ne (by decide), d3, r2, Option.bind_some, (fz_gL r6 rfl).trans d4, t2]
      rfl
/-! ways -/
theorem sim_ways (oX : oS hX) (oM : oS hM) (hR : RLz z dn nx ln hX hM) (gt : GT hX) (hW : RWq l hX hM) (a1 : Int32) : ∃ (v : Int32) (hX' hM' : px_H), fn_X_ways a1 hX = some (v, hX') ∧ fn_M_ways a1 hM = some (v, hM') ∧ QR l hX' hM' := by
  obtain ⟨hR1, o1, hW1⟩ := RLz_thr' hR oM
  have hW1 := hW1 hW
  unfold fn_X_ways fn_M_ways
  rw [sb_i]
  generalize wF hM 69 0 (.int (Int32.ofInt 0)) = m1 at hR1 o1 hW1 ⊢
  rw [(gd_ahead hR1 a1).1, (gd_ahead hR1 a1).2, Option.bind_some, Option.bind_some, cmp_b01n]
  cases ha : ahd nx dn a1 with
  | false => exact ⟨_, hX, m1, rfl, rfl, gt, hW1⟩
  | true =>
    obtain ⟨D, nD, hD, rfl⟩ := ahd_t ha
    rw [cond_true, cond_true]
    refine ask_N oX o1 hR1 gt hW1 nD hD (fun _ => rfl) (fun _ => rfl) (fun y x1 y1 s1 s2 f1 f2 _ hw hF => ?_)
    obtain ⟨⟨a, bb, e, g, rf, c1, c2, cE⟩, m2, -⟩ := hF
    refine ⟨Int32.ofNat y.1.1, x1, y1, ?_, ?_, ⟨_, _, a, bb, e, g, rf, c1, c2, cE⟩, hw⟩
    · show some (gI x1 (gR x1 28 2) 3, x1) = _
      rw [rf.2.2, cE.1]
    · show some (aI y1 96 2, y1) = _
      rw [m2.1]
/-! house -/
theorem gd_house (a : Int32) : (bif px_cmp .lt a 0 then true else px_cmp .ge a (Int8.ofInt 6).toInt32) = !inN a 6 ∧ px_cmp .eq (sx_in a.toInt64 (Int64.ofNat 0) (Int64.ofInt 5)) 0 = !inN a 6 := by
  have e6 : (Int8.ofInt 6).toInt32.toInt = 6 := by decide
  have e0 : (0 : Int32).toInt = 0 := by decide
  have e5 : (Int64.ofInt 5).toInt = 5 := by decide
  constructor
  · rw [cmp_lt, cmp_ge, e6, e0]
    unfold inN
    by_cases h1 : a.toInt < 0
    · rw [decide_eq_true h1, cond_true, decide_eq_false (by omega)]; rfl
    · rw [decide_eq_false h1, cond_false]
      by_cases h2 : 6 ≤ a.toInt
      · rw [decide_eq_true h2, decide_eq_false (by omega)]; rfl
      · rw [decide_eq_false h2, decide_eq_true (by omega)]; rfl
  · have e : sx_in a.toInt64 (Int64.ofNat 0) (Int64.ofInt 5) = b01 (inN a 6) := by
      rw [b01_in, Int32.toInt_toInt64, i64c.1, e5]
      unfold inN
      congr 1
      simp only [decide_eq_decide]
      omega
    rw [e, cmp_b01]
theorem vl_housed (hz : gI h 69 3 = Int32.ofNat z) (z9 : z ≤ 10) (a : Int32) : fn_M_housed a h = some (bg (fun p => !px_cmp .ne (aI h 71 p) a) z) := by
  refine bg_loop (F := fn_M_housed_L4 a h) (fun n v p hp => ?_) (fun n v => ?_) z 0 fu (by omega) (fu_lt (by omega))
  · show fb_M_housed_L4 a h (fn_M_housed_L4 a h n) v (Int32.ofNat p) = _
    unfold fb_M_housed_L4
    rw [hz, ge_f hp (by omega), nm_inR p 10 (by omega) (by omega), nm_ofNat_clamp p (by omega), inc1]
    cases px_cmp .ne (aI h 71 p) a
    · rfl
    · show fn_M_housed_L4 a h n (v ||| Int32.ofInt 0) _ = _
      rw [or_0]
      rfl
  · show fb_M_housed_L4 a h (fn_M_housed_L4 a h n) v (Int32.ofNat z) = _
    unfold fb_M_housed_L4
    rw [hz, ge_t]
    rfl
def sHo (z D : Nat) (y : TB × Int64 × Int64) (f : Nat → Bool) : Nat → Nat → Int64 → Int64
  | 0, _, acc => acc
  | m + 1, i, acc => sHo z D y f m (i + 1) (bif f i then acc + sAny z D y ((Int32.ofInt 1) <<< (Int32.ofNat i &&& 31)) else acc)
theorem house_X {f : Nat → Bool} (z9 : z ≤ 10) (o : oS hX) (hz : gI hX 1 0 = Int32.ofNat z) (hA : AQ z D u w y hX hM) : ∀ (m i N : Nat) (acc : Int64), i + m = z → m < N → fn_X_house_L51 (bg f z) N acc (Int32.ofNat i) hX = (fn_Walk_chanceOfAny (bg f z) hX).bind fun q16 => (fn_Row_tellOne q16 hX).bind fun q19 => (fn_Row_tell (sHo z D y f m i acc) q19).bind fun q23 => some (Int32.ofInt 0, q23)
  | 0, i, N, acc, hi, hN => by
    obtain ⟨N, rfl⟩ : ∃ k, N = k + 1 := ⟨N - 1, by omega⟩
    have hi : i = z := by omega
    show fb_X_house_L51 (bg f z) (fn_X_house_L51 (bg f z) N) acc (Int32.ofNat i) hX = _
    unfold fb_X_house_L51
    rw [hz, hi, ge_t, cond_true]
    rfl
  | m + 1, i, N, acc, hi, hN => by
    obtain ⟨N, rfl⟩ : ∃ k, N = k + 1 := ⟨N - 1, by omega⟩
    show fb_X_house_L51 (bg f z) (fn_X_house_L51 (bg f z) N) acc (Int32.ofNat i) hX = _
    unfold fb_X_house_L51
    rw [hz, ge_f (show i < z by omega) (by omega), cond_false, hb_eq _ (show i < 32 by omega), bg_ib f i z z9, decide_eq_true (show i < z by omega), Bool.true_and, inc1]
    show _ = (fn_Walk_chanceOfAny (bg f z) hX).bind fun q16 => (fn_Row_tellOne q16 hX).bind fun q19 => (fn_Row_tell (sHo z D y f m (i + 1) (bif f i then acc + sAny z D y ((Int32.ofInt 1) <<< (Int32.ofNat i &&& 31)) else acc)) q19).bind fun q23 => some (Int32.ofInt 0, q23)
    cases f i with
    | false =>
      rw [Bool.not_false, cond_true]
      exact house_X z9 o hz hA m (i + 1) N _ (by omega) (by omega)
    | true =>
      rw [Bool.not_true, cond_false, aq_anyX z9 o hA, Option.bind_some]
      exact house_X z9 o hz hA m (i + 1) N _ (by omega) (by omega)
theorem house_M {f : Nat → Bool} {a : Int32} (z9 : z ≤ 10) (hz : gI hM 69 3 = Int32.ofNat z) (hA : AQ z D u w y hX hM) (hf : ∀ i, i < z → f i = !px_cmp .ne (aI hM 71 i) a) : ∀ (m i N : Nat) (acc : Int64), i + m = z → m < N → fn_M_house_L43 a N acc (Int32.ofNat i) hM = (fn_M_housed a (wF hM 69 1 (.int (Int32.ofInt 0)))).bind fun q16 => (fn_M_anyOf q16 (wF hM 69 1 (.int (Int32.ofInt 0)))).bind fun q19 => (fn_M_enters q19 (wF hM 69 1 (.int (Int32.ofInt 0)))).bind fun q22 => (fn_M_enters (sHo z D y f m i acc) q22).bind fun q26 => some (Int32.ofInt 0, q26)
  | 0, i, N, acc, hi, hN => by
    obtain ⟨N, rfl⟩ : ∃ k, N = k + 1 := ⟨N - 1, by omega⟩
    have hi : i = z := by omega
    show fb_M_house_L43 a (fn_M_house_L43 a N) acc (Int32.ofNat i) hM = _
    unfold fb_M_house_L43
    rw [hz, hi, ge_t, cond_true]
    rfl
  | m + 1, i, N, acc, hi, hN => by
    obtain ⟨N, rfl⟩ : ∃ k, N = k + 1 := ⟨N - 1, by omega⟩
    show fb_M_house_L43 a (fn_M_house_L43 a N) acc (Int32.ofNat i) hM = _
    unfold fb_M_house_L43
    rw [hz, ge_f (show i < z by omega) (by omega), cond_false, nm_inR i 10 (by omega) (by omega), cond_true, nm_ofNat_clamp i (by omega), inc1]
    show _ = (fn_M_housed a (wF hM 69 1 (.int (Int32.ofInt 0)))).bind fun q16 => (fn_M_anyOf q16 (wF hM 69 1 (.int (Int32.ofInt 0)))).bind fun q19 => (fn_M_enters q19 (wF hM 69 1 (.int (Int32.ofInt 0)))).bind fun q22 => (fn_M_enters (sHo z D y f m (i + 1) (bif f i then acc + sAny z D y ((Int32.ofInt 1) <<< (Int32.ofNat i &&& 31)) else acc)) q22).bind fun q26 => some (Int32.ofInt 0, q26)
    rw [hf i (by omega)]
    cases px_cmp .ne (aI hM 71 i) a with
    | true =>
      rw [cond_true, Bool.not_true, cond_false, add0L]
      exact house_M z9 hz hA hf m (i + 1) N _ (by omega) (by omega)
    | false =>
      rw [cond_false, Bool.not_false, cond_true, aq_anyM hA, Option.bind_some]
      exact house_M z9 hz hA hf m (i + 1) N _ (by omega) (by omega)
theorem sim_house (oX : oS hX) (oM : oS hM) (hR : RLz z dn nx ln hX hM) (gt : GT hX) (hW : RWq l hX hM) (a1 a2 : Int32) : ∃ (v : Int32) (hX' hM' : px_H), fn_X_house a1 a2 hX = some (v, hX') ∧ fn_M_house a1 a2 hM = some (v, hM') ∧ QR l hX' hM' := by
  obtain ⟨hR1, o1, hW1⟩ := RLz_thr' hR oM
  have hW1 := hW1 hW
  unfold fn_X_house fn_M_house
  rw [sb_i]
  generalize wF hM 69 0 (.int (Int32.ofInt 0)) = m1 at hR1 o1 hW1 ⊢
  have hT := hR1.1
  have z9 := hT.1
  rw [(gd_house a1).2]
  have g := (gd_house a1).1
  cases h1 : px_cmp .lt a1 0 with
  | true =>
    rw [h1, cond_true] at g
    rw [← g, cond_true, cond_true]
    exact ⟨_, hX, m1, rfl, rfl, gt, hW1⟩
  | false =>
    rw [h1, cond_false] at g
    rw [g, cond_false]
    cases h2 : inN a1 6 with
    | false => exact ⟨_, hX, m1, rfl, rfl, gt, hW1⟩
    | true =>
      rw [Bool.not_true, cond_false, cond_false, (gd_ahead hR1 a2).1, (gd_ahead hR1 a2).2, Option.bind_some, Option.bind_some, cmp_b01n]
      cases ha : ahd nx dn a2 with
      | false => exact ⟨_, hX, m1, rfl, rfl, gt, hW1⟩
      | true =>
        obtain ⟨D, nD, hD, rfl⟩ := ahd_t ha
        rw [cond_true, cond_true]
        refine ask_K oX o1 hR1 gt hW1 nD hD (fun _ => rfl) (fun _ => rfl) (fun y x1 y1 s1 s2 f1 f2 hw hA _ => ?_)
        have zX : gI x1 1 0 = Int32.ofNat z := (fz_gI f1 rfl).trans hT.2.2.1
        have zM : gI y1 69 3 = Int32.ofNat z := (fz_gI f2 rfl).trans hT.2.2.2.1
        have hf : ∀ i, i < z → (fun p => !px_cmp .ne (aI x1 2 p) a1) i = !px_cmp .ne (aI y1 71 i) a1 := fun i hi => by
          show (!px_cmp .ne (aI x1 2 i) a1) = _
          rw [(f1.2 2 rfl).1, (f2.2 71 rfl).1, (hT.2.2.2.2.2.2.1 i (by omega)).1]
        have eX := house_X (f := fun p => !px_cmp .ne (aI x1 2 p) a1) z9 s1 zX hA z 0 fu (Int64.ofNat 0) (by omega) (fu_lt (by omega))
        have eM := house_M (f := fun p => !px_cmp .ne (aI x1 2 p) a1) z9 zM hA hf z 0 fu (Int64.ofNat 0) (by omega) (fu_lt (by omega))
        have eB : bg (fun p => !px_cmp .ne (aI (wF y1 69 1 (.int (Int32.ofInt 0))) 71 p) a1) z = bg (fun p => !px_cmp .ne (aI x1 2 p) a1) z := bg_cg z (fun i hi => by rw [aI_wF]; exact (hf i hi).symm)
        obtain ⟨x2, r1, r2, r3, r4, r5, r6⟩ := row_clear s1 s2
        have hA2 := AQ_k r3 r5 hA
        generalize hb : bg (fun p => !px_cmp .ne (aI x1 2 p) a1) z = B at eX eB
        obtain ⟨x3, y3, t1, t2, t3, t4, t5, t6, t7⟩ := tell1 s1 s2 (sAny z D y B)
        obtain ⟨x4, y4, v1, v2, v3, v4, v5, v6, v7⟩ := row_tell t3 t4 t7 (by omega) (sHo z D y (fun p => !px_cmp .ne (aI x1 2 p) a1) z 0 (Int64.ofNat 0))
        refine ⟨Int32.ofInt 0, x4, y4, ?_, ?_, AQ_gt (AQ_k (fz_tr t5 v5) (fz_tr t6 v6) hA), _, RWs_v v7⟩
        · show (fn_Town_ofHouse a1 x1).bind (fun q12 => fn_X_house_L51 q12 fu (Int64.ofNat 0) (Int32.ofInt 0) x1) = _
          rw [vl_ofHouse zX z9 a1, Option.bind_some, hb]
          refine (show fn_X_house_L51 B fu (Int64.ofNat 0) (Int32.ofInt 0) x1 = _ from eX).trans ?_
          rw [aq_anyX z9 s1 hA, Option.bind_some, t1, Option.bind_some, v1]
          rfl
        · show fn_M_house_L43 a1 fu (Int64.ofNat 0) (Int32.ofInt 0) y1 = _
          refine (show fn_M_house_L43 a1 fu (Int64.ofNat 0) (Int32.ofInt 0) y1 = _ from eM).trans ?_
          rw [vl_housed ((gI_wF_ne (by decide)).trans zM) z9 a1, Option.bind_some, eB, aq_anyM hA2, Option.bind_some, t2, Option.bind_some, v2]
          rfl
/-! empty -/
def sLe (z D : Nat) (y : TB × Int64 × Int64) : Nat → Nat → Int64 → Int64
  | 0, _, acc => acc
  | m + 1, v, acc => sLe z D y m (v + 1) (acc + sFil z D y (Int32.ofNat v))
theorem less_X {s : Nat} (z9 : z ≤ 10) (s9 : s < 100) (o : oS hX) (hA : AQ z D u w y hX hM) : ∀ (m v N : Nat) (acc : Int64), v + m = s → m < N → fn_Walk_chanceOfLess_L5 (Int32.ofNat s) hX N acc (Int32.ofNat v) = some (sLe z D y m v acc)
  | 0, v, N, acc, hi, hN => by
    obtain ⟨N, rfl⟩ : ∃ k, N = k + 1 := ⟨N - 1, by omega⟩
    have hi : v = s := by omega
    show fb_Walk_chanceOfLess_L5 (Int32.ofNat s) hX (fn_Walk_chanceOfLess_L5 (Int32.ofNat s) hX N) acc (Int32.ofNat v) = _
    unfold fb_Walk_chanceOfLess_L5
    rw [hi, ge_t, cond_true]
    rfl
  | m + 1, v, N, acc, hi, hN => by
    obtain ⟨N, rfl⟩ : ∃ k, N = k + 1 := ⟨N - 1, by omega⟩
    show fb_Walk_chanceOfLess_L5 (Int32.ofNat s) hX (fn_Walk_chanceOfLess_L5 (Int32.ofNat s) hX N) acc (Int32.ofNat v) = _
    unfold fb_Walk_chanceOfLess_L5
    rw [ge_f (show v < s by omega) (by omega), cond_false, aq_filX z9 o hA, Option.bind_some, inc1]
    exact less_X z9 s9 o hA m (v + 1) N _ (by omega) (by omega)
theorem less_M {s d : Nat} (d6 : d < 6) (s9 : s < 100) (hs : aI hM 80 d = Int32.ofNat s) (hA : AQ z D u w y hX hM) : ∀ (m v N : Nat) (acc : Int64), v + m = s → m < N → fn_M_empty_L36 (Int32.ofNat d) N acc (Int32.ofNat v) hM = (fn_M_enters (sLe z D y m v acc) hM).bind fun q16 => fn_M_empty_L70 (Int32.ofNat d) fu (Int32.ofInt 0) q16
  | 0, v, N, acc, hi, hN => by
    obtain ⟨N, rfl⟩ : ∃ k, N = k + 1 := ⟨N - 1, by omega⟩
    have hi : v = s := by omega
    show fb_M_empty_L36 (Int32.ofNat d) (fn_M_empty_L36 (Int32.ofNat d) N) acc (Int32.ofNat v) hM = _
    unfold fb_M_empty_L36
    rw [nm_inR d 6 d6 (by omega), cond_true, nm_ofNat_clamp d (by omega), hs, hi, ge_t, cond_true]
    rfl
  | m + 1, v, N, acc, hi, hN => by
    obtain ⟨N, rfl⟩ : ∃ k, N = k + 1 := ⟨N - 1, by omega⟩
    show fb_M_empty_L36 (Int32.ofNat d) (fn_M_empty_L36 (Int32.ofNat d) N) acc (Int32.ofNat v) hM = _
    unfold fb_M_empty_L36
    rw [nm_inR d 6 d6 (by omega), cond_true, nm_ofNat_clamp d (by omega), hs, ge_f (show v < s by omega) (by omega), cond_false, aq_filM hA, Option.bind_some, inc1]
    exact less_M d6 s9 hs hA m (v + 1) N _ (by omega) (by omega)
theorem gt_f {a b : Nat} (h : a ≤ b) (hb : b < 2147483648) : px_cmp .gt (Int32.ofNat a) (Int32.ofNat b) = false := by
  rw [cmp_gt, nm_ofNat_toInt a (by omega), nm_ofNat_toInt b hb, decide_eq_false (by omega)]
theorem gt_t {b : Nat} (hb : b + 1 < 2147483648) : px_cmp .gt (Int32.ofNat (b + 1)) (Int32.ofNat b) = true := by
  rw [cmp_gt, nm_ofNat_toInt _ hb, nm_ofNat_toInt b (by omega), decide_eq_true (by omega)]
theorem empty_L {s d : Nat} (z9 : z ≤ 10) (d6 : d < 6) (s9 : s ≤ 3) : ∀ (m v N : Nat) (x y' : px_H), v + m = s + 1 → m < N → oS x → oS y' → aI y' 80 d = Int32.ofNat s → AQ z D u w y x y' → RWs (v + 1) x y' → ∃ hX' hM', fn_X_empty_L53 (Int32.ofNat s) N (Int32.ofNat v) x = some (Int32.ofInt 0, hX') ∧ fn_M_empty_L70 (Int32.ofNat d) N (Int32.ofNat v) y' = some (Int32.ofInt 0, hM') ∧ QR l hX' hM' := by
  intro m
  induction m with
  | zero =>
    intro v N x y' hi hN ox oy hs hA hR
    obtain ⟨N, rfl⟩ : ∃ k, N = k + 1 := ⟨N - 1, by omega⟩
    have hi : v = s + 1 := by omega
    subst hi
    refine ⟨x, y', ?_, ?_, AQ_gt hA, _, RWs_v hR⟩
    · show fb_X_empty_L53 (Int32.ofNat s) (fn_X_empty_L53 (Int32.ofNat s) N) (Int32.ofNat (s + 1)) x = _
      unfold fb_X_empty_L53
      rw [gt_t (by omega), cond_true]
    · show fb_M_empty_L70 (Int32.ofNat d) (fn_M_empty_L70 (Int32.ofNat d) N) (Int32.ofNat (s + 1)) y' = _
      unfold fb_M_empty_L70
      rw [nm_inR d 6 d6 (by omega), cond_true, nm_ofNat_clamp d (by omega), hs, gt_t (by omega), cond_true]
  | succ m ih =>
    intro v N x y' hi hN ox oy hs hA hR
    obtain ⟨N, rfl⟩ : ∃ k, N = k + 1 := ⟨N - 1, by omega⟩
    obtain ⟨x3, y3, t1, t2, t3, t4, t5, t6, t7⟩ := row_tell ox oy hR (by omega) (sFil z D y (Int32.ofNat v))
    obtain ⟨hX', hM', q1, q2, q3⟩ := ih (v + 1) N x3 y3 (by omega) (by omega) t3 t4 (by rw [(t6.2 80 rfl).1]; exact hs) (AQ_k t5 t6 hA) t7
    refine ⟨hX', hM', ?_, ?_, q3⟩
    · show fb_X_empty_L53 (Int32.ofNat s) (fn_X_empty_L53 (Int32.ofNat s) N) (Int32.ofNat v) x = _
      unfold fb_X_empty_L53
      rw [gt_f (show v ≤ s by omega) (by omega), cond_false, aq_filX z9 ox hA, Option.bind_some, t1, Option.bind_some, inc1]
      exact q1
    · show fb_M_empty_L70 (Int32.ofNat d) (fn_M_empty_L70 (Int32.ofNat d) N) (Int32.ofNat v) y' = _
      unfold fb_M_empty_L70
      rw [nm_inR d 6 d6 (by omega), cond_true, nm_ofNat_clamp d (by omega), hs, gt_f (show v ≤ s by omega) (by omega), cond_false, aq_filM hA, Option.bind_some, t2, Option.bind_some, inc1]
      exact q2
theorem sim_empty (oX : oS hX) (oM : oS hM) (hR : RLz z dn nx ln hX hM) (s8 : ∀ d, d < 6 → (aI hM 80 d).toInt ≤ 3) (gt : GT hX) (hW : RWq l hX hM) (a1 : Int32) : ∃ (v : Int32) (hX' hM' : px_H), fn_X_empty a1 hX = some (v, hX') ∧ fn_M_empty a1 hM = some (v, hM') ∧ QR l hX' hM' := by
  obtain ⟨hR1, o1, hW1⟩ := RLz_thr' hR oM
  have hW1 := hW1 hW
  have s8 : ∀ d, d < 6 → (aI (wF hM 69 0 (.int (Int32.ofInt 0))) 80 d).toInt ≤ 3 := fun d hd => by rw [aI_wF]; exact s8 d hd
  unfold fn_X_empty fn_M_empty
  rw [sb_i]
  generalize wF hM 69 0 (.int (Int32.ofInt 0)) = m1 at hR1 o1 hW1 s8 ⊢
  have hT := hR1.1
  have z9 := hT.1
  rw [(gd_ahead hR1 a1).1, (gd_ahead hR1 a1).2, Option.bind_some, Option.bind_some, cmp_b01n]
  cases ha : ahd nx dn a1 with
  | false => exact ⟨_, hX, m1, rfl, rfl, gt, hW1⟩
  | true =>
    obtain ⟨D, nD, hD, rfl⟩ := ahd_t ha
    rw [cond_true, cond_true]
    have d6 : D < 6 := by have := hT.2.1; omega
    obtain ⟨-, -, e11, e0, -⟩ := hT.2.2.2.2.2.2.2.2 D d6
    obtain ⟨s, hs, es⟩ : ∃ s : Nat, s ≤ 3 ∧ aI m1 80 D = Int32.ofNat s := by
      obtain ⟨s, hs, es⟩ := nat_of (a := aI m1 80 D) (n := 4) e0 (by have := s8 D d6; omega)
      exact ⟨s, by omega, es⟩
    refine ask_K oX o1 hR1 gt hW1 nD hD (fun _ => rfl) (fun _ => rfl) (fun y x1 y1 s1 s2 f1 f2 hw hA _ => ?_)
    have eX : aI x1 11 D = Int32.ofNat s := by rw [(f1.2 11 rfl).1, e11]; exact es
    have eM : aI y1 80 D = Int32.ofNat s := by rw [(f2.2 80 rfl).1]; exact es
    obtain ⟨x2, y2, t1, t2, t3, t4, t5, t6, t7⟩ := tell1 s1 s2 (sLe z D y s 0 (Int64.ofNat 0))
    obtain ⟨x3, y3, q1, q2, q3⟩ := empty_L (d := D) (s := s) z9 d6 hs (s + 1) 0 fu x2 y2 (by omega) (fu_lt (by omega)) t3 t4 (by rw [(t6.2 80 rfl).1]; exact eM) (AQ_k t5 t6 hA) t7
    refine ⟨Int32.ofInt 0, x3, y3, ?_, ?_, q3⟩
    · show (bif px_inR (Int32.ofNat D) 6 then (fn_Walk_chanceOfLess (aI x1 11 (Int32.ofNat D).toNatClampNeg) x1).bind (fun q11 => (fn_Row_tellOne q11 x1).bind fun q14 => fn_X_empty_L53 (aI x1 11 (Int32.ofNat D).toNatClampNeg) fu (Int32.ofInt 0) q14) else none) = _
      rw [nm_inR D 6 d6 (by omega), cond_true, nm_ofNat_clamp D (by omega), eX, show fn_Walk_chanceOfLess (Int32.ofNat s) x1 = _ from less_X z9 (show s < 100 by omega) s1 hA s 0 fu (Int64.ofNat 0) (by omega) (fu_lt (by omega)), Option.bind_some, t1, Option.bind_some]
      exact q1
    · show fn_M_empty_L36 (Int32.ofNat D) fu (Int64.ofNat 0) (Int32.ofInt 0) (wF y1 69 1 (.int (Int32.ofInt 0))) = _
      obtain ⟨x9, r1, r2, r3, r4, r5, r6⟩ := row_clear s1 s2
      refine (less_M (hX := x9) (z := z) (D := D) (y := y) d6 (show s < 100 by omega) ((congrFun aI_wF D).trans eM) (AQ_k r3 r5 hA) s 0 fu (Int64.ofNat 0) (by omega) (fu_lt (by omega))).trans ?_
      rw [t2, Option.bind_some]
      exact q2
end tb_N
end mg_2

section mg_3
/-! questions: ever, sure -/
section tb_O
variable {h hX hM hX' hM' h0 : px_H} {z dn nx ln D p : Nat} {u : Int64} {w : Int32} {y : TB × Int64 × Int64}
variable {l : Nat}
theorem ev_w {v n : Nat} (hv : v ≤ 6) (hn : n ≤ 6) : px_cmp .lt (Int32.ofNat v - Int32.ofInt 1) (Int32.ofNat n) = px_cmp .le (Int32.ofNat v) (Int32.ofNat n) := by
  have : (List.range 7).all (fun v => (List.range 7).all (fun n => decide (px_cmp .lt (Int32.ofNat v - Int32.ofInt 1) (Int32.ofNat n) = px_cmp .le (Int32.ofNat v) (Int32.ofNat n)))) = true := by decide +kernel
  have := List.all_eq_true.mp this v (List.mem_range.mpr (by omega))
  exact of_decide_eq_true (List.all_eq_true.mp this n (List.mem_range.mpr (by omega)))
theorem cs_since {Q : Int64 → Int32 → KY → Prop} {e : Nat} {E : TB} (o : oS h) (he : e ∈ tbs) (hr : gR h 28 2 = e) (hC : CT Q e E h) (b : Int32) : fn_Walk_chanceSince (Int32.ofNat p) b h = some (sS (fun i => !px_cmp .lt (sq (aI h (e + 2) i) p - Int32.ofInt 1) b) E.2.2 E.1 0 (Int64.ofNat 0)) := by
  have n3 := hC.2.1
  refine sl_L (F := fun N acc i => fn_Walk_chanceSince_L5 (Int32.ofNat p) b h N acc i) (n := E.1) (fun N acc i hi => ?_) (fun N acc => ?_) E.1 0 fu _ (by omega) (fu_lt (by omega))
  · show fb_Walk_chanceSince_L5 (Int32.ofNat p) b h (fn_Walk_chanceSince_L5 (Int32.ofNat p) b h N) acc (Int32.ofNat i) = _
    unfold fb_Walk_chanceSince_L5
    rw [hr, hC.1, ge_f hi (by omega), cond_false, nm_inR i 3000 (by omega) (by omega), cond_true, (tb_ref he o).2.1, nm_ofNat_clamp i (by omega), show fn_X_lastIn (aI h (e + 2) i) (Int32.ofNat p) h = some (sq (aI h (e + 2) i) p - Int32.ofInt 1) from rfl, Option.bind_some, inc1, cond_true, (tb_ref he o).2.2.1, (hC.2.2.1 i hi).2]
    cases px_cmp .lt (sq (aI h (e + 2) i) p - Int32.ofInt 1) b <;> rfl
  · show fb_Walk_chanceSince_L5 (Int32.ofNat p) b h (fn_Walk_chanceSince_L5 (Int32.ofNat p) b h N) acc (Int32.ofNat E.1) = _
    unfold fb_Walk_chanceSince_L5
    rw [hr, hC.1, ge_t, cond_true]
theorem ev_M {E : TB} (p10 : p < 10) : ∀ (m i N : Nat) (acc : Int64) (h : px_H), i + m = E.1 → m < N → oS h → fz WM VM h0 h → MT 2 E h →
    ∃ h', oS h' ∧ fz WM VM h0 h' ∧ fn_M_ever_L56 (Int32.ofNat p) (Int32.ofNat nx) N acc (Int32.ofNat i) h = (fn_M_comesBack h').bind fun q18 => sb (wF q18 69 1 (.int (Int32.ofInt 0))) fun h22 => (fn_M_enters (sS (fun i => !px_cmp .le (uq (E.2.1 i).2 p) (Int32.ofNat nx)) E.2.2 m i acc) h22).bind fun q24 => some (Int32.ofInt 0, q24) := by
  intro m
  induction m with
  | zero =>
    intro i N acc h hi hN o f g2
    obtain ⟨N, rfl⟩ : ∃ k, N = k + 1 := ⟨N - 1, by omega⟩
    have hi : i = E.1 := by omega
    refine ⟨h, o, f, ?_⟩
    show fb_M_ever_L56 (Int32.ofNat p) (Int32.ofNat nx) (fn_M_ever_L56 (Int32.ofNat p) (Int32.ofNat nx) N) acc (Int32.ofNat i) h = _
    unfold fb_M_ever_L56
    rw [show (Int32.ofInt 2).toNatClampNeg = 2 from rfl, g2.1, hi, ge_t, cond_true]
    rfl
  | succ m ih =>
    intro i N acc h hi hN o f g2
    obtain ⟨N, rfl⟩ : ∃ k, N = k + 1 := ⟨N - 1, by omega⟩
    have n3 := g2.2.1
    obtain ⟨h1, l1, l2, l3, l4⟩ := mo_look (by omega) o g2 (show i < E.1 by omega)
    have l1 : fn_M_looksAt (Int32.ofInt 2) (Int32.ofNat i) h = some h1 := l1
    have g3 : MT 2 E h1 := MT_fz l3 rfl rfl rfl rfl g2
    obtain ⟨h', q1, q2, q3⟩ := ih (i + 1) N (bif !px_cmp .le (uq (E.2.1 i).2 p) (Int32.ofNat nx) then acc + E.2.2 i else acc) h1 (by omega) (by omega) l2 (fz_tr f l3) g3
    refine ⟨h', q1, q2, ?_⟩
    refine Eq.trans ?_ q3
    show fb_M_ever_L56 (Int32.ofNat p) (Int32.ofNat nx) (fn_M_ever_L56 (Int32.ofNat p) (Int32.ofNat nx) N) acc (Int32.ofNat i) h = _
    unfold fb_M_ever_L56
    rw [show (Int32.ofInt 2).toNatClampNeg = 2 from rfl, g2.1, ge_f (show i < E.1 by omega) (by omega), cond_false, l1, Option.bind_some, nm_inR p 10 p10 (by omega), cond_true, nm_ofNat_clamp p (by omega), l4.2.2.2 p p10, ep_ok g3 (show i < E.1 by omega), Option.bind_some, inc1, add0L]
    cases px_cmp .le (uq (E.2.1 i).2 p) (Int32.ofNat nx) <;> rfl
theorem sub1n {n : Nat} (h : 1 ≤ n) : Int32.ofNat n - Int32.ofInt 1 = Int32.ofNat (n - 1) := by
  obtain ⟨k, rfl⟩ : ∃ k, n = k + 1 := ⟨n - 1, by omega⟩
  rw [← inc1 k, Int32.add_sub_cancel, Nat.add_sub_cancel]
theorem sim_ever (oX : oS hX) (oM : oS hM) (hR : RLz z dn nx ln hX hM) (gt : GT hX) (hW : RWq l hX hM) (a1 : Int32) : ∃ (v : Int32) (hX' hM' : px_H), fn_X_ever a1 hX = some (v, hX') ∧ fn_M_ever a1 hM = some (v, hM') ∧ QR l hX' hM' := by
  obtain ⟨hR1, o1, hW1⟩ := RLz_thr' hR oM
  have hW1 := hW1 hW
  unfold fn_X_ever fn_M_ever
  rw [sb_i]
  generalize wF hM 69 0 (.int (Int32.ofInt 0)) = m1 at hR1 o1 hW1 ⊢
  have hT := hR1.1
  have n6 := hR1.2.2.2.2.1.1
  have d6 := hT.2.1
  rw [gd_hasPerson hT.2.2.1 hT.1, gd_isPerson hT.2.2.2.1 hT.1, Option.bind_some, Option.bind_some, cmp_b01]
  cases hb : inN a1 z with
  | false => exact ⟨_, hX, m1, rfl, rfl, gt, hW1⟩
  | true =>
    obtain ⟨p, pz, rfl⟩ := inN_t hb
    have p10 : p < 10 := by have := hT.1; omega
    rw [Bool.not_true, cond_false, cond_false, (left_eq hR1).1, (left_eq hR1).2, Option.bind_some, cmp_b01n]
    by_cases e : nx < dn
    · rw [decide_eq_true e, cond_true, cond_true, hT.2.2.2.2.1, hT.2.2.2.2.2.1, sub1n (show 1 ≤ dn by omega), hR1.2.2.2.2.1.2.2]
      refine ask_N oX o1 hR1 gt hW1 (show nx ≤ dn - 1 by omega) (show dn - 1 < dn by omega) (fun _ => rfl) (fun _ => rfl) (fun y x1 y1 s1 s2 f1 f2 f3 hw hF => ?_)
      obtain ⟨⟨a, bb, e, g, rf, c1, c2, cE⟩, m2, hk, -⟩ := hF
      have ss := sms_SM (CL_sms hT.1 hR1.2.2.2.1 n6) f3
      obtain ⟨y2, r1, r2, r3, r4, r5, r6⟩ := vl_remembers s2
      obtain ⟨y3, v1, v2, v3⟩ := ev_M (nx := nx) (h0 := y2) p10 y.1.1 0 fu (Int64.ofNat 0) y2 (by omega) (fu_lt (by have := m2.2.1; omega)) r2 fz_rf (MT_fz r3 rfl rfl rfl rfl m2)
      obtain ⟨y4, w1, w2, w3, -⟩ := restore (h := y1) (h5 := y2) (h9 := y3) ss.1 ss.2 r4 r5 r6 (fz_gL v2 rfl) (fz_gL v2 rfl) (fz_gI v2 rfl) v1
      have v3 : fn_M_ever_L56 (Int32.ofNat p) (Int32.ofNat nx) fu (Int64.ofNat 0) (Int32.ofInt 0) y2 = _ := v3
      obtain ⟨x5, y5, t1, t2, t3, t4, t5, t6, t7⟩ := tell1 s1 w2 (sS (fun i => !px_cmp .le (uq (y.1.2.1 i).2 p) (Int32.ofNat nx)) y.1.2.2 y.1.1 0 (Int64.ofNat 0))
      have xt : XT (QE (dn - 1) (gL hX 19 0) (gI hX 19 1)) y.1 x1 := ⟨a, bb, e, g, rf, c1, c2, cE⟩
      have g19 : gI x1 19 2 = Int32.ofNat nx := (fz_gI f1 rfl).trans hR1.2.2.2.2.1.2.1
      have eS : sS (fun i => !px_cmp .lt (sq (aI x1 (e + 2) i) p - Int32.ofInt 1) (Int32.ofNat nx)) y.1.2.2 y.1.1 0 (Int64.ofNat 0) = sS (fun i => !px_cmp .le (uq (y.1.2.1 i).2 p) (Int32.ofNat nx)) y.1.2.2 y.1.1 0 (Int64.ofNat 0) := sS_cg _ _ _ (fun j _ hj => ⟨by
        obtain ⟨v, q1, q2⟩ := (hk j (by omega)).1.1 p p10
        rw [(cE.2.2.1 j (by omega)).1.1.2.2.2.1 p p10, q2, ev_w (by omega) (by omega)], rfl⟩)
      refine ⟨Int32.ofInt 0, x5, y5, ?_, ?_, ⟨_, _, XT_w48 t5 xt⟩, _, RWs_v t7⟩
      · show (fn_Walk_chanceSince (Int32.ofNat p) (gI x1 19 2) x1).bind (fun q14 => (fn_Row_tellOne q14 x1).bind fun q17 => some (Int32.ofInt 0, q17)) = _
        rw [g19, cs_since s1 g.2.2.1 rf.2.2 cE, Option.bind_some, eS, t1]
        rfl
      · show (fn_M_remembers y1).bind (fun q13 => fn_M_ever_L56 (Int32.ofNat p) (Int32.ofNat nx) fu (Int64.ofNat 0) (Int32.ofInt 0) q13) = _
        rw [r1, Option.bind_some, v3, w1, Option.bind_some, sb_i, t2]
        rfl
    · rw [decide_eq_false e]
      exact ⟨_, hX, m1, rfl, rfl, gt, hW1⟩
/-! sure -/
def fo (g : Nat → Int32 → Int32) : Nat → Nat → Int32 → Int32
  | 0, _, v => v
  | m + 1, i, v => fo g m (i + 1) (g i v)
theorem fo_cg {g g' : Nat → Int32 → Int32} : ∀ (m i : Nat) (v : Int32), (∀ j v, i ≤ j → j < i + m → g j v = g' j v) → fo g m i v = fo g' m i v
  | 0, _, _, _ => rfl
  | m + 1, i, v, h => by
    show fo g m (i + 1) (g i v) = fo g' m (i + 1) (g' i v)
    rw [h i v (by omega) (by omega)]
    exact fo_cg m (i + 1) _ (fun j v h1 h2 => h j v (by omega) (by omega))
theorem fo_L {F : Nat → Int32 → Int32 → Option Int32} {g : Nat → Int32 → Int32} {n : Nat} (h1 : ∀ N v i, i < n → F (N + 1) v (Int32.ofNat i) = F N (g i v) (Int32.ofNat (i + 1))) (h2 : ∀ N v, F (N + 1) v (Int32.ofNat n) = some v) : ∀ (m i N : Nat) (v : Int32), i + m = n → m < N → F N v (Int32.ofNat i) = some (fo g m i v)
  | 0, i, N, v, hi, hN => by
    obtain ⟨N, rfl⟩ : ∃ k, N = k + 1 := ⟨N - 1, by omega⟩
    have : i = n := by omega
    subst this
    exact h2 N v
  | m + 1, i, N, v, hi, hN => by
    obtain ⟨N, rfl⟩ : ∃ k, N = k + 1 := ⟨N - 1, by omega⟩
    rw [h1 N v i (by omega)]
    exact fo_L h1 h2 m (i + 1) N _ (by omega) (by omega)
def sMay (z D : Nat) (y : TB × Int64 × Int64) : Int32 := fo (fun i v => v ||| sB z D (y.1.2.1 i)) y.1.1 0 (Int32.ofInt 0)
def sAlw (z D : Nat) (y : TB × Int64 × Int64) (v0 : Int32) : Int32 := fo (fun i v => v &&& sB z D (y.1.2.1 i)) y.1.1 0 v0
theorem aq_mayX (z9 : z ≤ 10) (o : oS hX) (hA : AQ z D u w y hX hM) : fn_Walk_whoMaySit hX = some (sMay z D y) := by
  obtain ⟨⟨⟨_, _, e, g, rf, c1, c2, cE⟩, -, hk, -⟩, -⟩ := hA
  have n3 := cE.2.1
  refine fo_L (F := fun N v i => fn_Walk_whoMaySit_L4 hX N v i) (n := y.1.1) (fun N v i hi => ?_) (fun N v => ?_) y.1.1 0 fu _ (by omega) (fu_lt (by omega))
  · show fb_Walk_whoMaySit_L4 hX (fn_Walk_whoMaySit_L4 hX N) v (Int32.ofNat i) = _
    unfold fb_Walk_whoMaySit_L4
    rw [rf.2.2, cE.1, ge_f hi (by omega), cond_false, si_at g.2.2.1 o (by omega), Option.bind_some, inc1, sit_eq z9 (cE.2.2.1 i hi).1 (hk i hi).2]
  · show fb_Walk_whoMaySit_L4 hX (fn_Walk_whoMaySit_L4 hX N) v (Int32.ofNat y.1.1) = _
    unfold fb_Walk_whoMaySit_L4
    rw [rf.2.2, cE.1, ge_t, cond_true]
theorem aq_mayM (hA : AQ z D u w y hX hM) : fn_M_someBits hM = some (sMay z D y) := by
  have n3 := hA.1.2.1.2.1
  refine fo_L (F := fun N v i => fn_M_someBits_L4 hM N v i) (n := y.1.1) (fun N v i hi => ?_) (fun N v => ?_) y.1.1 0 fu _ (by omega) (fu_lt (by omega))
  · show fb_M_someBits_L4 hM (fn_M_someBits_L4 hM N) v (Int32.ofNat i) = _
    unfold fb_M_someBits_L4
    rw [show (Int32.ofInt 2).toNatClampNeg = 2 from rfl, hA.1.2.1.1, ge_f hi (by omega), cond_false, nm_inR i 3001 (by omega) (by omega), cond_true, nm_ofNat_clamp i (by omega), hA.2 i hi, inc1]
  · show fb_M_someBits_L4 hM (fn_M_someBits_L4 hM N) v (Int32.ofNat y.1.1) = _
    unfold fb_M_someBits_L4
    rw [show (Int32.ofInt 2).toNatClampNeg = 2 from rfl, hA.1.2.1.1, ge_t, cond_true]
theorem all_bits_t : (List.range 11).all (fun z => (List.range 32).all (fun i => decide (ib (((Int32.ofInt 1) <<< (Int32.ofNat z &&& 31)) - (Int32.ofInt 1)) i = decide (i < z)))) = true := by decide +kernel
theorem all_bits (z9 : z ≤ 10) {i : Nat} (hi : i < 32) : ib (((Int32.ofInt 1) <<< (Int32.ofNat z &&& 31)) - (Int32.ofInt 1)) i = decide (i < z) := by
  have := List.all_eq_true.mp all_bits_t z (List.mem_range.mpr (by omega))
  exact of_decide_eq_true (List.all_eq_true.mp this i (List.mem_range.mpr hi))
theorem sB_ib (z9 : z ≤ 10) {k : KY} (i : Nat) : ib (sB z D k) i = (decide (i < z) && decide (uq k.2 i = Int32.ofNat (D + 1))) := by
  unfold sB
  rw [bg_ib _ _ _ z9]
theorem alw_eq (z9 : z ≤ 10) (n1 : 1 ≤ y.1.1) : sAlw z D y (Int16.ofInt 1023).toInt32 = sAlw z D y (((Int32.ofInt 1) <<< (Int32.ofNat z &&& 31)) - (Int32.ofInt 1)) := by
  unfold sAlw
  obtain ⟨k, hk⟩ : ∃ k, y.1.1 = k + 1 := ⟨y.1.1 - 1, by omega⟩
  rw [hk]
  show fo _ k (0 + 1) _ = fo _ k (0 + 1) _
  have : ((Int16.ofInt 1023).toInt32 &&& sB z D (y.1.2.1 0)) = ((((Int32.ofInt 1) <<< (Int32.ofNat z &&& 31)) - (Int32.ofInt 1)) &&& sB z D (y.1.2.1 0)) := by
    refine ib_ext (fun i hi => ?_)
    rw [ib_and, ib_and, all_bits z9 hi, ib_1023, sB_ib z9]
    by_cases e : i < z
    · rw [decide_eq_true e, decide_eq_true (show i < 10 by omega)]
    · rw [decide_eq_false e, Bool.false_and, Bool.and_false, Bool.and_false]
  exact congrArg (fo (fun i v => v &&& sB z D (y.1.2.1 i)) k (0 + 1)) this
theorem aq_alwX (z9 : z ≤ 10) (o : oS hX) (hA : AQ z D u w y hX hM) : fn_Walk_whoAlwaysSit hX = some (sAlw z D y (Int16.ofInt 1023).toInt32) := by
  obtain ⟨⟨⟨_, _, e, g, rf, c1, c2, cE⟩, -, hk, -, -, -, -, -, n1⟩, -⟩ := hA
  have n3 := cE.2.1
  unfold fn_Walk_whoAlwaysSit
  rw [rf.2.2, cE.1, show px_cmp .le (Int32.ofNat y.1.1) 0 = false from by
    rw [cmp_le, nm_ofNat_toInt _ (by omega)]
    exact decide_eq_false (by show ¬ ((y.1.1 : Int) ≤ 0); omega), cond_false]
  refine fo_L (F := fun N v i => fn_Walk_whoAlwaysSit_L20 hX N v i) (n := y.1.1) (fun N v i hi => ?_) (fun N v => ?_) y.1.1 0 fu _ (by omega) (fu_lt (by omega))
  · show fb_Walk_whoAlwaysSit_L20 hX (fn_Walk_whoAlwaysSit_L20 hX N) v (Int32.ofNat i) = _
    unfold fb_Walk_whoAlwaysSit_L20
    rw [rf.2.2, cE.1, ge_f hi (by omega), cond_false, si_at g.2.2.1 o (by omega), Option.bind_some, inc1, sit_eq z9 (cE.2.2.1 i hi).1 (hk i hi).2]
  · show fb_Walk_whoAlwaysSit_L20 hX (fn_Walk_whoAlwaysSit_L20 hX N) v (Int32.ofNat y.1.1) = _
    unfold fb_Walk_whoAlwaysSit_L20
    rw [rf.2.2, cE.1, ge_t, cond_true]
theorem aq_alwM (z9 : z ≤ 10) (hz : gI hM 69 3 = Int32.ofNat z) (hA : AQ z D u w y hX hM) : fn_M_sureBits hM = some (sAlw z D y (Int16.ofInt 1023).toInt32) := by
  have n3 := hA.1.2.1.2.1
  rw [alw_eq z9 hA.1.2.2.2.2.2.2.2.2]
  unfold fn_M_sureBits
  rw [hz]
  refine fo_L (F := fun N v i => fn_M_sureBits_L11 hM N v i) (n := y.1.1) (fun N v i hi => ?_) (fun N v => ?_) y.1.1 0 fu _ (by omega) (fu_lt (by omega))
  · show fb_M_sureBits_L11 hM (fn_M_sureBits_L11 hM N) v (Int32.ofNat i) = _
    unfold fb_M_sureBits_L11
    rw [show (Int32.ofInt 2).toNatClampNeg = 2 from rfl, hA.1.2.1.1, ge_f hi (by omega), cond_false, nm_inR i 3001 (by omega) (by omega), cond_true, nm_ofNat_clamp i (by omega), hA.2 i hi, inc1]
  · show fb_M_sureBits_L11 hM (fn_M_sureBits_L11 hM N) v (Int32.ofNat y.1.1) = _
    unfold fb_M_sureBits_L11
    rw [show (Int32.ofInt 2).toNatClampNeg = 2 from rfl, hA.1.2.1.1, ge_t, cond_true]
theorem gd_bit (a : Int32) : (bif px_cmp .lt a 0 then false else px_cmp .le a (Int32.ofInt 1)) = inN a 2 ∧ px_cmp .ne (sx_in a.toInt64 (Int64.ofNat 0) (Int64.ofNat 1)) 0 = inN a 2 := by
  have e0 : (0 : Int32).toInt = 0 := by decide
  have e1 : (Int32.ofInt 1).toInt = 1 := by decide
  constructor
  · rw [cmp_lt, cmp_le, e0, e1]
    unfold inN
    by_cases h1 : a.toInt < 0
    · rw [decide_eq_true h1, cond_true, decide_eq_false (by omega)]
    · rw [decide_eq_false h1, cond_false]
      by_cases h2 : a.toInt ≤ 1
      · rw [decide_eq_true h2, decide_eq_true (by omega)]
      · rw [decide_eq_false h2, decide_eq_false (by omega)]
  · have e : sx_in a.toInt64 (Int64.ofNat 0) (Int64.ofNat 1) = b01 (inN a 2) := by
      rw [b01_in, Int32.toInt_toInt64, i64c.1, i64c.2.1]
      unfold inN
      congr 1
      simp only [decide_eq_decide]
      omega
    rw [e, cmp_b01n]
theorem sim_sure (oX : oS hX) (oM : oS hM) (hR : RLz z dn nx ln hX hM) (gt : GT hX) (hW : RWq l hX hM) (a1 a2 : Int32) : ∃ (v : Int32) (hX' hM' : px_H), fn_X_sure a1 a2 hX = some (v, hX') ∧ fn_M_sure a1 a2 hM = some (v, hM') ∧ QR l hX' hM' := by
  obtain ⟨hR1, o1, hW1⟩ := RLz_thr' hR oM
  have hW1 := hW1 hW
  unfold fn_X_sure fn_M_sure
  rw [sb_i]
  generalize wF hM 69 0 (.int (Int32.ofInt 0)) = m1 at hR1 o1 hW1 ⊢
  have hT := hR1.1
  have z9 := hT.1
  rw [(gd_ahead hR1 a1).1, (gd_ahead hR1 a1).2, Option.bind_some, Option.bind_some, cmp_b01]
  cases ha : ahd nx dn a1 with
  | false => exact ⟨_, hX, m1, rfl, rfl, gt, hW1⟩
  | true =>
    obtain ⟨D, nD, hD, rfl⟩ := ahd_t ha
    rw [Bool.not_true, cond_false, cond_false, (gd_bit a2).2]
    have g := (gd_bit a2).1
    cases h1 : px_cmp .lt a2 0 with
    | true =>
      rw [h1, cond_true] at g
      rw [← g, cond_true, cond_false]
      exact ⟨_, hX, m1, rfl, rfl, gt, hW1⟩
    | false =>
      rw [h1, cond_false] at g
      rw [g, cond_false]
      cases h2 : inN a2 2 with
      | false => exact ⟨_, hX, m1, rfl, rfl, gt, hW1⟩
      | true =>
        rw [cond_true, cond_true]
        refine ask_K oX o1 hR1 gt hW1 nD hD (fun _ => rfl) (fun _ => rfl) (fun y x1 y1 s1 s2 f1 f2 hw hA _ => ?_)
        have zM : gI y1 69 3 = Int32.ofNat z := (fz_gI f2 rfl).trans hT.2.2.2.1
        show ∃ (v : Int32) (hX' hM' : px_H), (bif px_cmp .ne a2 0 then (fn_Walk_whoMaySit x1).bind (fun q13 => some (q13, x1)) else (fn_Walk_whoAlwaysSit x1).bind (fun q16 => some (q16, x1))) = some (v, hX') ∧ (bif px_cmp .ne a2 0 then (fn_M_someBits y1).bind (fun q13 => some (q13, y1)) else (fn_M_sureBits y1).bind (fun q16 => some (q16, y1))) = some (v, hM') ∧ QR l hX' hM'
        cases px_cmp .ne a2 0 with
        | true =>
          rw [cond_true, cond_true, aq_mayX z9 s1 hA, aq_mayM hA]
          exact ⟨_, x1, y1, rfl, rfl, AQ_gt hA, hw⟩
        | false =>
          rw [cond_false, cond_false, aq_alwX z9 s1 hA, aq_alwM z9 zM hA]
          exact ⟨_, x1, y1, rfl, rfl, AQ_gt hA, hw⟩
end tb_O
end mg_3

section mg_4
/-! questions: sit -/
def sFt (f : Nat → Bool) (E : TB) : Nat → Nat → TB → TB
  | 0, _, B => B
  | m + 1, i, B => sFt f E m (i + 1) (bif f i then adI B (E.2.1 i) (E.2.2 i) else B)
def sAy (f : Nat → Bool) : Nat → Nat → Bool → Bool
  | 0, _, t => t
  | m + 1, i, t => sAy f m (i + 1) (t || f i)
def sSum (B : TB) : Int64 := sS (fun _ => true) B.2.2 B.1 0 (Int64.ofNat 0)
theorem sS_snoc {C : Nat → Int64} : ∀ (m i : Nat) (acc : Int64), sS (fun _ => true) C (m + 1) i acc = sS (fun _ => true) C m i acc + C (i + m)
  | 0, i, acc => rfl
  | m + 1, i, acc => by
    show sS (fun _ => true) C (m + 1) (i + 1) (acc + C i) = sS (fun _ => true) C m (i + 1) (acc + C i) + C (i + (m + 1))
    rw [sS_snoc m (i + 1), show i + 1 + m = i + (m + 1) from by omega]
theorem sFt_ok {f : Nat → Bool} {E : TB} (dE : dT E) (n3 : E.1 ≤ 3000) : ∀ (m i : Nat) (B : TB), i + m = E.1 → (∀ j, j < B.1 → ∃ j', j' < i ∧ B.2.1 j = E.2.1 j') → B.1 ≤ i → sSum (sFt f E m i B) = sS f E.2.2 m i (sSum B) ∧ decide (1 ≤ (sFt f E m i B).1) = sAy f m i (decide (1 ≤ B.1))
  | 0, _, _, _, _, _ => ⟨rfl, rfl⟩
  | m + 1, i, B, hi, hB, hn => by
    show sSum (sFt f E m (i + 1) (bif f i then adI B (E.2.1 i) (E.2.2 i) else B)) = sS f E.2.2 m (i + 1) (bif f i then sSum B + E.2.2 i else sSum B) ∧ decide (1 ≤ (sFt f E m (i + 1) (bif f i then adI B (E.2.1 i) (E.2.2 i) else B)).1) = sAy f m (i + 1) (decide (1 ≤ B.1) || f i)
    cases f i with
    | false =>
      rw [cond_false, cond_false, Bool.or_false]
      exact sFt_ok dE n3 m (i + 1) B (by omega) (fun j hj => by obtain ⟨j', h1, h2⟩ := hB j hj; exact ⟨j', by omega, h2⟩) (by omega)
    | true =>
      rw [cond_true, cond_true, Bool.or_true]
      have hf : ∀ j, j < B.1 → B.2.1 j ≠ E.2.1 i := fun j hj x => by
        obtain ⟨j', h1, h2⟩ := hB j hj
        have := dE j' i (by omega) (by omega) (h2.symm.trans x)
        omega
      have e : adI B (E.2.1 i) (E.2.2 i) = (B.1 + 1, fun j => if j = B.1 then E.2.1 i else B.2.1 j, vp_updL B.2.2 B.1 (E.2.2 i)) := by
        unfold adI adT
        rw [fnd_of hf, if_neg (by omega)]
        rfl
      have es : sSum (adI B (E.2.1 i) (E.2.2 i)) = sSum B + E.2.2 i := by
        rw [e]
        show sS (fun _ => true) (vp_updL B.2.2 B.1 (E.2.2 i)) (B.1 + 1) 0 (Int64.ofNat 0) = _
        rw [sS_snoc, Nat.zero_add, vp_updL_eq, if_pos rfl]
        refine congrArg (· + E.2.2 i) (sS_cg _ _ _ (fun j _ hj => ⟨rfl, ?_⟩))
        rw [vp_updL_eq, if_neg (by omega)]
      have := sFt_ok (f := f) dE n3 m (i + 1) (adI B (E.2.1 i) (E.2.2 i)) (by omega) (fun j hj => by
        rw [e] at hj ⊢
        have hj : j < B.1 + 1 := hj
        show ∃ j', j' < i + 1 ∧ (if j = B.1 then E.2.1 i else B.2.1 j) = E.2.1 j'
        by_cases x : j = B.1
        · rw [if_pos x]
          exact ⟨i, by omega, rfl⟩
        · rw [if_neg x]
          obtain ⟨j', h1, h2⟩ := hB j (by omega)
          exact ⟨j', by omega, h2⟩) (by rw [e]; show B.1 + 1 ≤ i + 1; omega)
      rw [es, decide_eq_true (show 1 ≤ (adI B (E.2.1 i) (E.2.2 i)).1 from adI_1)] at this
      exact this
section tb_P
variable {h hX hM hX' hM' h0 : px_H} {z dn nx ln D p : Nat} {u : Int64} {w aa : Int32} {y : TB × Int64 × Int64}
variable {l : Nat}
theorem go_X {E : TB} {a bb e : Nat} (z9 : z ≤ 10) (g : D3 a bb e) (hk : pT (kEN z D) E) : ∀ (m i N : Nat) (h : px_H) (B : TB), i + m = E.1 → m < N → oS h → RF a bb e h → CT0 a h → CT (QE D u w) bb B h → CT (QE D u w) e E h →
    ∃ h', fn_Walk_goOnWith_L9 aa N (Int32.ofNat i) h = some h' ∧ oS h' ∧ fz WPS VPS h h' ∧ RF a e bb h' ∧ CT0 a h' ∧ CT0 e h' ∧ CT (QE D u w) bb (sFt (fun j => !px_cmp .ne (sB z D (E.2.1 j)) aa) E m i B) h' := by
  intro m
  induction m with
  | zero =>
    intro i N h B hi hN o rf cA cB cE
    obtain ⟨N, rfl⟩ : ∃ k, N = k + 1 := ⟨N - 1, by omega⟩
    have hi : i = E.1 := by omega
    show ∃ h', fb_Walk_goOnWith_L9 aa (fn_Walk_goOnWith_L9 aa N) (Int32.ofNat i) h = _ ∧ _
    unfold fb_Walk_goOnWith_L9
    rw [rf.2.2, cE.1, hi, ge_t, cond_true, rf.2.1, sb_i]
    have o1 : oS (wF h 28 2 (.ref bb)) := oS_wRm (cs := tbs) (a := 28) (ci := 7) (k := 2) rfl g.2.1 o
    have x2 : gR (wF h 28 2 (.ref bb)) 28 2 = bb := gR_wF (cs := [28]) (ci := 7) rfl List.mem_cons_self o
    have x0 : gR (wF h 28 2 (.ref bb)) 28 0 = a := (gR_wF_ne (by decide)).trans rf.1
    have f1 : fz (fun c j => Nat.beq c 28 && (Nat.beq j 1 || Nat.beq j 2)) V0 h (wF h 28 2 (.ref bb)) := fz_wF rfl
    generalize wF h 28 2 (.ref bb) = h1 at o1 x2 x0 f1 ⊢
    rw [sb_i]
    have o2 : oS (wF h1 28 1 (.ref e)) := oS_wRm (cs := tbs) (a := 28) (ci := 7) (k := 1) rfl g.2.2.1 o1
    have y1 : gR (wF h1 28 1 (.ref e)) 28 1 = e := gR_wF (cs := [28]) (ci := 7) rfl List.mem_cons_self o1
    have y0 : gR (wF h1 28 1 (.ref e)) 28 0 = a := (gR_wF_ne (by decide)).trans x0
    have y2 : gR (wF h1 28 1 (.ref e)) 28 2 = bb := (gR_wF_ne (by decide)).trans x2
    have f2 : fz (fun c j => Nat.beq c 28 && (Nat.beq j 1 || Nat.beq j 2)) V0 h (wF h1 28 1 (.ref e)) := fz_tr f1 (fz_wF rfl)
    generalize wF h1 28 1 (.ref e) = h2 at o2 y0 y1 y2 f2 ⊢
    have hw : ∀ {t : Nat}, t ∈ tbs → (fun c j => Nat.beq c 28 && (Nat.beq j 1 || Nat.beq j 2)) t 3 = false := fun ht => by rcases tb_c ht with rfl | rfl | rfl <;> rfl
    refine ⟨h2, rfl, o2, fz_mono f2 (fun c k e => ?_) (fun _ _ => rfl), ⟨y0, y1, y2⟩, CT0_fz f2 (hw g.1) (fun _ _ _ => rfl) cA, CT0_fz f2 (hw g.2.2.1) (fun _ _ _ => rfl) (CT_0 cE), CT_fz f2 (hw g.2.1) (fun _ _ _ => rfl) cB⟩
    cases hx : (Nat.beq c 28 && (Nat.beq k 1 || Nat.beq k 2)) with
    | false => rfl
    | true =>
      simp only [Bool.and_eq_true, Bool.or_eq_true, Nat.beq_eq] at hx
      obtain ⟨rfl, rfl | rfl⟩ := hx <;> cases e
  | succ m ih =>
    intro i N h B hi hN o rf cA cB cE
    obtain ⟨N, rfl⟩ : ∃ k, N = k + 1 := ⟨N - 1, by omega⟩
    have n3 := cE.2.1
    have hiE : i < E.1 := by omega
    show ∃ h', fb_Walk_goOnWith_L9 aa (fn_Walk_goOnWith_L9 aa N) (Int32.ofNat i) h = _ ∧ _
    unfold fb_Walk_goOnWith_L9
    rw [rf.2.2, cE.1, ge_f hiE (by omega), cond_false, si_at g.2.2.1 o (by omega), Option.bind_some, sit_eq z9 (cE.2.2.1 i hiE).1 (hk i hiE).2, inc1]
    show ∃ h', _ ∧ oS h' ∧ fz WPS VPS h h' ∧ RF a e bb h' ∧ CT0 a h' ∧ CT0 e h' ∧ CT (QE D u w) bb (sFt (fun j => !px_cmp .ne (sB z D (E.2.1 j)) aa) E m (i + 1) (bif !px_cmp .ne (sB z D (E.2.1 i)) aa then adI B (E.2.1 i) (E.2.2 i) else B)) h'
    cases px_cmp .ne (sB z D (E.2.1 i)) aa with
    | true =>
      rw [cond_true, Bool.not_true, cond_false]
      exact ih (i + 1) N h B (by omega) (by omega) o rf cA cB cE
    | false =>
      rw [cond_false, Bool.not_false, cond_true, nm_inR i 3000 (by omega) (by omega), cond_true, cond_true, cond_true, rf.2.1, (tb_ref g.2.2.1 o).1, (tb_ref g.2.2.1 o).2.1, (tb_ref g.2.2.1 o).2.2.1, nm_ofNat_clamp i (by omega), (cE.2.2.1 i hiE).2]
      obtain ⟨h4, a1, a2, a3, a4⟩ := ca_add (Q := QE D u w) (s := aL h (e + 1) i) (q := aI h (e + 2) i) (c := E.2.2 i) QE_inj g.2.1 o cB (cE.2.2.1 i hiE).1
      rw [a1, Option.bind_some]
      have f4 : fz WPS VPS h h4 := wps_a (px_t g.2.1 (fun _ hv => hv) a3)
      obtain ⟨h', q1, q2, q3, q4, q5, q6, q7⟩ := ih (i + 1) N h4 (adI B (E.2.1 i) (E.2.2 i)) (by omega) (by omega) a2 (RF_fz a3 (wt_28 g.2.1 0) (wt_28 g.2.1 1) (wt_28 g.2.1 2) rf) (CT0_fz a3 (wt_ne g.2.2.2.1) (fun c h1 h2 => vt_ne g.1 g.2.1 g.2.2.2.1 h1 h2) cA) a4 (CT_t g.2.2.1 g.2.1 (fun x => g.2.2.2.2.2 x.symm) (fun _ hv => hv) a3 cE)
      exact ⟨h', q1, q2, fz_tr f4 q3, q4, q5, q6, q7⟩
theorem all_X {Q : Int64 → Int32 → KY → Prop} {e : Nat} {E : TB} (o : oS h) (he : e ∈ tbs) (hr : gR h 28 2 = e) (hC : CT Q e E h) : fn_Walk_chanceOfAll h = some (sSum E) := by
  have n3 := hC.2.1
  refine sl_L (F := fun N acc i => fn_Walk_chanceOfAll_L4 h N acc i) (f := fun _ => true) (n := E.1) (fun N acc i hi => ?_) (fun N acc => ?_) E.1 0 fu _ (by omega) (fu_lt (by omega))
  · show fb_Walk_chanceOfAll_L4 h (fn_Walk_chanceOfAll_L4 h N) acc (Int32.ofNat i) = _
    unfold fb_Walk_chanceOfAll_L4
    rw [hr, hC.1, ge_f hi (by omega), cond_false, nm_inR i 3000 (by omega) (by omega), cond_true, (tb_ref he o).2.2.1, nm_ofNat_clamp i (by omega), (hC.2.2.1 i hi).2, inc1]
    rfl
  · show fb_Walk_chanceOfAll_L4 h (fn_Walk_chanceOfAll_L4 h N) acc (Int32.ofNat E.1) = _
    unfold fb_Walk_chanceOfAll_L4
    rw [hr, hC.1, ge_t, cond_true]
theorem si_M (hA : AQ z D u w y hX hM) : ∀ (m i N : Nat) (acc : Int64) (t : Bool), i + m = y.1.1 → m < N → fn_M_sit_L42 aa N acc (b01 t) (Int32.ofNat i) hM = sb (wF hM 69 1 (.int (Int32.ofInt 0))) fun h17 => (fn_M_enters (sS (fun j => !px_cmp .ne (sB z D (y.1.2.1 j)) aa) y.1.2.2 m i acc) h17).bind fun q19 => some (b01 (sAy (fun j => !px_cmp .ne (sB z D (y.1.2.1 j)) aa) m i t), q19)
  | 0, i, N, acc, t, hi, hN => by
    obtain ⟨N, rfl⟩ : ∃ k, N = k + 1 := ⟨N - 1, by omega⟩
    have hi : i = y.1.1 := by omega
    show fb_M_sit_L42 aa (fn_M_sit_L42 aa N) acc (b01 t) (Int32.ofNat i) hM = _
    unfold fb_M_sit_L42
    rw [show (Int32.ofInt 2).toNatClampNeg = 2 from rfl, hA.1.2.1.1, hi, ge_t, cond_true]
    rfl
  | m + 1, i, N, acc, t, hi, hN => by
    obtain ⟨N, rfl⟩ : ∃ k, N = k + 1 := ⟨N - 1, by omega⟩
    have n3 := hA.1.2.1.2.1
    have hiE : i < y.1.1 := by omega
    show fb_M_sit_L42 aa (fn_M_sit_L42 aa N) acc (b01 t) (Int32.ofNat i) hM = _
    unfold fb_M_sit_L42
    rw [show (Int32.ofInt 2).toNatClampNeg = 2 from rfl, hA.1.2.1.1, ge_f hiE (by omega), cond_false, nm_inR i 3001 (by omega) (by omega), cond_true, nm_ofNat_clamp i (by omega), hA.2 i hiE, ep_ok hA.1.2.1 hiE, Option.bind_some, inc1]
    show _ = sb (wF hM 69 1 (.int (Int32.ofInt 0))) fun h17 => (fn_M_enters (sS (fun j => !px_cmp .ne (sB z D (y.1.2.1 j)) aa) y.1.2.2 m (i + 1) (bif !px_cmp .ne (sB z D (y.1.2.1 i)) aa then acc + y.1.2.2 i else acc)) h17).bind fun q19 => some (b01 (sAy (fun j => !px_cmp .ne (sB z D (y.1.2.1 j)) aa) m (i + 1) (t || !px_cmp .ne (sB z D (y.1.2.1 i)) aa)), q19)
    cases px_cmp .ne (sB z D (y.1.2.1 i)) aa with
    | true =>
      rw [cond_true, Bool.not_true, cond_false, Bool.or_false]
      exact si_M hA m (i + 1) N _ t (by omega) (by omega)
    | false =>
      rw [cond_false, Bool.not_false, cond_true, Bool.or_true]
      exact si_M hA m (i + 1) N _ true (by omega) (by omega)
theorem sim_sit (oX : oS hX) (oM : oS hM) (hR : RLz z dn nx ln hX hM) (gt : GT hX) (hW : RWq l hX hM) (a1 a2 : Int32) : ∃ (v : Int32) (hX' hM' : px_H), fn_X_sit a1 a2 hX = some (v, hX') ∧ fn_M_sit a1 a2 hM = some (v, hM') ∧ QR l hX' hM' := by
  obtain ⟨hR1, o1, hW1⟩ := RLz_thr' hR oM
  have hW1 := hW1 hW
  unfold fn_X_sit fn_M_sit
  rw [sb_i]
  generalize wF hM 69 0 (.int (Int32.ofInt 0)) = m1 at hR1 o1 hW1 ⊢
  have hT := hR1.1
  have z9 := hT.1
  rw [(gd_ahead hR1 a1).1, (gd_ahead hR1 a1).2, Option.bind_some, Option.bind_some, cmp_b01]
  cases ha : ahd nx dn a1 with
  | false => exact ⟨_, hX, m1, rfl, rfl, gt, hW1⟩
  | true =>
    obtain ⟨D, nD, hD, rfl⟩ := ahd_t ha
    rw [Bool.not_true, cond_false, cond_false, gd_hasAll hT.2.2.1 z9, gd_isSet hT.2.2.2.1 z9, Option.bind_some, Option.bind_some, cmp_b01n]
    cases hs : inS a2 z with
    | false => exact ⟨_, hX, m1, rfl, rfl, gt, hW1⟩
    | true =>
      rw [cond_true, cond_true]
      refine ask_K oX o1 hR1 gt hW1 nD hD (fun _ => rfl) (fun _ => rfl) (fun y x1 y1 s1 s2 f1 f2 hw hA _ => ?_)
      have hA0 := hA
      obtain ⟨⟨⟨a, bb, e, g, rf, c1, c2, cE⟩, m2, hk, dE, -⟩, -⟩ := hA
      have n3 := m2.2.1
      obtain ⟨x2, q1, q2, q3, q4⟩ := ca_clear g.2.1 s1 c2
      have hV : ∀ c, Nat.beq c (bb + 4) = true → Vt bb c = true := vt_4
      obtain ⟨x3, r1, r2, r3, r4, r5, r6, r7⟩ := go_X (aa := a2) (D := D) z9 g hk y.1.1 0 fu x2 tE (by omega) (fu_lt (by omega)) q2 (RF_fz q3 (wt_28 g.2.1 0) (wt_28 g.2.1 1) (wt_28 g.2.1 2) rf) (CT0_fz q3 (wt_ne g.2.2.2.1) (fun c h1 h2 => by
        cases hv : Nat.beq c (bb + 4) with
        | false => rfl
        | true =>
          have := hV c hv
          rw [vt_ne g.1 g.2.1 g.2.2.2.1 h1 h2] at this
          cases this) c1) (q4 _) (CT_t g.2.2.1 g.2.1 (fun x => g.2.2.2.2.2 x.symm) hV q3 cE)
      have f3 : fz WBY VBY x1 x3 := fz_tr (wby_a (wps_a (px_t g.2.1 hV q3))) (wby_a r3)
      obtain ⟨u1, u2⟩ := sFt_ok (f := fun j => !px_cmp .ne (sB z D (y.1.2.1 j)) a2) dE n3 y.1.1 0 tE (by omega) (fun j hj => by cases hj) (Nat.zero_le _)
      generalize hB : sFt (fun j => !px_cmp .ne (sB z D (y.1.2.1 j)) a2) y.1 y.1.1 0 tE = B at r7 u1 u2
      have hw3 : RWq l x3 y1 := RWq_k f3 (fz_rf (W := W0) (V := V0)) rfl rfl rfl rfl hw
      obtain ⟨x5, y5, t1, t2, t3, t4, t5, t6, t7⟩ := tell1 r2 s2 (sSum B)
      have xt : XT (QE D (gL hX 19 0) (gI hX 19 1)) B x3 := ⟨a, e, bb, ⟨g.1, g.2.2.1, g.2.1, g.2.2.2.2.1, g.2.2.2.1, fun x => g.2.2.2.2.2 x.symm⟩, r4, r5, r6, r7⟩
      have xt5 := XT_w48 t5 xt
      have e5 : gI x5 (gR x5 28 2) 3 = Int32.ofNat B.1 := by
        obtain ⟨_, _, e', _, rf5, _, _, cE5⟩ := xt5
        rw [rf5.2.2]
        exact cE5.1
      have eM := si_M (aa := a2) hA0 y.1.1 0 fu (Int64.ofNat 0) false (by omega) (fu_lt (by omega))
      have u1 : sSum B = sS (fun j => !px_cmp .ne (sB z D (y.1.2.1 j)) a2) y.1.2.2 y.1.1 0 (Int64.ofNat 0) := u1
      have u2 : decide (1 ≤ B.1) = sAy (fun j => !px_cmp .ne (sB z D (y.1.2.1 j)) a2) y.1.1 0 false := u2
      have b3 : B.1 ≤ 3000 := r7.2.1
      refine ⟨b01 (decide (1 ≤ B.1)), x5, y5, ?_, ?_, ⟨_, _, xt5⟩, _, RWs_v t7⟩
      · show (fn_Walk_goOnWith a2 x1).bind (fun q14 => (fn_Walk_chanceOfAll q14).bind fun q18 => (fn_Row_tellOne q18 q14).bind fun q21 => bif px_cmp .le (gI q21 (gR q21 28 2) 3) 0 then some (Int32.ofInt 0, q21) else some (Int32.ofInt 1, q21)) = _
        unfold fn_Walk_goOnWith
        rw [rf.2.1, q1, Option.bind_some, show fn_Walk_goOnWith_L9 a2 fu (Int32.ofInt 0) x2 = some x3 from r1, Option.bind_some, all_X r2 g.2.1 r4.2.2 r7, Option.bind_some, t1, Option.bind_some, e5, cmp_le, nm_ofNat_toInt _ (by omega)]
        by_cases e1 : 1 ≤ B.1
        · rw [decide_eq_true e1, decide_eq_false (by show ¬ ((B.1 : Int) ≤ 0); omega)]; rfl
        · rw [decide_eq_false e1, decide_eq_true (by show ((B.1 : Int) ≤ 0); omega)]; rfl
      · show fn_M_sit_L42 a2 fu (Int64.ofNat 0) (Int32.ofInt 0) (Int32.ofInt 0) y1 = _
        refine (show fn_M_sit_L42 a2 fu (Int64.ofNat 0) (Int32.ofInt 0) (Int32.ofInt 0) y1 = _ from eM).trans ?_
        rw [sb_i, ← u1, t2, Option.bind_some, u2]
end tb_P
end mg_4

section mg_5
/-! questions: known -/
section tb_Q
variable {h hX hM hX' hM' h0 x2 : px_H} {z dn nx ln D p r rc : Nat} {u : Int64} {w : Int32} {k0 : KY} {y : TB × Int64 × Int64}
variable {l : Nat}
theorem vmw_98 {c : Nat} (e : VMW c = false) : Nat.beq c 98 = false := by
  unfold VMW at e
  simp only [Bool.or_eq_false_iff] at e
  exact e.2.2.2.1
theorem fv_L {cs : List Nat} {a ci k : Nat} (hb : bF cs ci k 1 = true) (hm : a ∈ cs) (o : oS h) : ac_fv h a k = some (.long (gL h a k)) := by
  obtain ⟨fs, h1, h2⟩ := bL_ok hb hm o
  unfold ac_fv
  rw [h1]
  exact h2
theorem fv_I {cs : List Nat} {a ci k : Nat} (hb : bF cs ci k 0 = true) (hm : a ∈ cs) (o : oS h) : ac_fv h a k = some (.int (gI h a k)) := by
  obtain ⟨fs, h1, h2⟩ := bI_ok hb hm o
  unfold ac_fv
  rw [h1]
  exact h2
theorem rm_same {y0 y1 : px_H} (oM : oS hM) (oM' : oS hM') (s : SM hM hM') (f : fz WAS V98 hM hM') (e0 : fn_M_remembers hM = some y0) (e1 : fn_M_remembers hM' = some y1) : fz WMW VMW y0 y1 := by
  obtain ⟨y0', a1, a2, a3, a4, a5, a6⟩ := vl_remembers oM
  rw [a1] at e0
  cases e0
  obtain ⟨y1', b1, b2, b3, b4, b5, b6⟩ := vl_remembers oM'
  rw [b1] at e1
  cases e1
  obtain ⟨⟨s1, s2, s3, s4, s5, s6⟩, s7, s8⟩ := s
  have g34 : gL y1 69 34 = gL y0 69 34 := by rw [b4, a4, s1, s2, s3, s4, s5, s6]
  have g35 : gL y1 69 35 = gL y0 69 35 := by rw [b5, a5]; exact sc_cg 10 s7
  have g36 : gI y1 69 36 = gI y0 69 36 := by rw [b6, a6, s8]
  refine ⟨fun c k hw => ?_, fun c hv => ?_⟩
  · cases hr : Wrm c k with
    | true =>
      unfold Wrm at hr
      simp only [Bool.and_eq_true, Bool.or_eq_true, Nat.beq_eq] at hr
      obtain ⟨rfl, rfl | rfl | rfl⟩ := hr
      · rw [fv_L (cs := [69]) (ci := 9) rfl List.mem_cons_self b2, fv_L (cs := [69]) (ci := 9) rfl List.mem_cons_self a2, g34]
      · rw [fv_L (cs := [69]) (ci := 9) rfl List.mem_cons_self b2, fv_L (cs := [69]) (ci := 9) rfl List.mem_cons_self a2, g35]
      · rw [fv_I (cs := [69]) (ci := 9) rfl List.mem_cons_self b2, fv_I (cs := [69]) (ci := 9) rfl List.mem_cons_self a2, g36]
    | false => exact (b3.1 c k hr).trans ((f.1 c k (by unfold WAS; rw [hw, hr]; rfl)).trans (a3.1 c k hr).symm)
  · have f1 := f.2 c (by unfold V98; rw [hv, vmw_98 hv]; rfl)
    exact ⟨((b3.2 c rfl).1.trans f1.1).trans (a3.2 c rfl).1.symm, ((b3.2 c rfl).2.trans f1.2).trans (a3.2 c rfl).2.symm⟩
/-- the class has begun; the model begins anew -/
theorem aw3 (hrc : rc ∈ ruls) (o0 : oS h0) (hr : gI h0 69 15 = Int32.ofNat r) (oM : oS hM) (z9 : z ≤ 10) (zM : gI hM 69 3 = Int32.ofNat z) (d6 : dn ≤ 6) (ss : (sm (aI hM 88 0) ∧ sm (aI hM 88 1) ∧ sm (aI hM 89 0) ∧ sm (aI hM 89 1) ∧ sm (gI hM 69 32) ∧ sm (gI hM 69 33)) ∧ ∀ p, p < 10 → s3 (aI hM 90 p)) (kq : QO u w u w k0) (kc : kCL z nx k0) (ek : kyOf hM = k0) (n31 : gI hM 69 31 = Int32.ofNat nx) (hm0 : ∀ y1, fn_M_remembers hM = some y1 → fz WMW VMW h0 y1) (xs : XS z dn rc r ln h0 x2) (xt : XT (QS u w k0) (tS k0) x2) (nD : nx ≤ D) (hD : D < dn) :
    ∃ x3 y6, xRun (D - nx + 1) nx x2 = some (b01 (sWk h0 (D - nx + 1) nx (x0S k0)).isSome, x3) ∧ fn_M_asks (Int32.ofNat D) hM = some (b01 (sWk h0 (D - nx + 1) nx (x0S k0)).isSome, y6) ∧ oS x3 ∧ oS y6 ∧ fz WPS VPS x2 x3 ∧ fz WAS V98 hM y6 ∧ SM hM y6 ∧ GT x3 ∧ ∀ y, sWk h0 (D - nx + 1) nx (x0S k0) = some y → AQ z D u w y x3 y6 := by
  obtain ⟨m, hm⟩ : ∃ m, D = nx + m := ⟨D - nx, by omega⟩
  have em : D - nx + 1 = m + 1 := by omega
  rw [em]
  obtain ⟨y1, c1, c2, c3, c4, c5, c6⟩ := vl_remembers oM
  have ky1 : kyOf y1 = k0 := (ky_cg (fun j _ => ⟨by rw [(c3.2 88 rfl).1], by rw [(c3.2 89 rfl).1]⟩) (fz_gI c3 rfl) (fz_gI c3 rfl) (fun p _ => by rw [(c3.2 90 rfl).1])).trans ek
  have mx0 : MX h0 y1 := ⟨c2, hm0 y1 c1⟩
  obtain ⟨y2, y3, d1, d2, d3, d4, d5, d7⟩ := ms_start mx0
  rw [ky1] at d4
  have hQ : ∀ s q k, QS u w k0 s q k → QO u w s q k := by
    rintro s q k ⟨rfl, rfl, rfl⟩
    exact kq
  obtain ⟨x3, y4, e1, e2, e3, e4, e5, e6, e7⟩ := wk2 (D := D) o0 hr hrc hD d6 m nx fu x2 y3 (x0S k0) _ (by omega) (fu_lt (by omega)) xs xt hQ (fun i _ => kc) d3 d4 (Nat.le_refl 1)
  have n31' : gI y1 69 31 = Int32.ofNat nx := (fz_gI c3 rfl).trans n31
  have f14 : fz WMW VMW y1 y4 := fz_tr (fz_sy mx0.2) e4.2
  have eR : fn_M_reaches (Int32.ofNat D) y1 = some (b01 (sWk h0 (m + 1) nx (x0S k0)).isSome, y4) := by
    unfold fn_M_reaches
    rw [d1, Option.bind_some, d2, Option.bind_some, n31']
    exact e2
  obtain ⟨y5, f1, f2, f3, f4⟩ := restore (h := hM) (h5 := y1) (h9 := y4) ss.1 ss.2 c4 c5 c6 (fz_gL f14 rfl) (fz_gL f14 rfl) (fz_gI f14 rfl) e4.1
  have eN : fn_M_reachesNow (Int32.ofNat D) hM = some (b01 (sWk h0 (m + 1) nx (x0S k0)).isSome, y5) := by
    unfold fn_M_reachesNow
    rw [c1, Option.bind_some, eR, Option.bind_some, f1, Option.bind_some, zr_b01, cond_true]
  have fM : fz WAS V98 hM y5 := fz_tr (was_r c3) (fz_tr (was_a f14) (was_3 f3))
  cases hW : sWk h0 (m + 1) nx (x0S k0) with
  | none =>
    rw [hW] at e1 eN
    obtain ⟨Q', E', h⟩ := e6
    refine ⟨x3, y5, e1, ?_, e3.1, f2, e5, fM, f4, ⟨Q', E', h⟩, fun y hy => (by cases hy)⟩
    unfold fn_M_asks
    rw [eN, Option.bind_some]
    rfl
  | some y =>
    rw [hW] at e1 eN
    obtain ⟨w1, w2, w3, w4, w5, w6, w7, w8, w9⟩ := e7 y hW
    have z5 : gI y5 69 3 = Int32.ofNat z := (fz_gI fM rfl).trans zM
    obtain ⟨y6, p1, p2, p3, p4, p5, p6, p7, p8⟩ := no_ok (d := D) z9 f2 z5 (MT_fz f3 rfl rfl rfl rfl w2) (sms_SM ss f4)
    refine ⟨x3, y6, e1, ?_, e3.1, p2, e5, fz_tr fM p3, SMtr f4 p4, ⟨_, _, w1⟩, fun y' hy' => ?_⟩
    · unfold fn_M_asks
      rw [eN, Option.bind_some]
      show (bif px_cmp .ne (Int32.ofInt 1) 0 then _ else _) = _
      rw [show px_cmp .ne (Int32.ofInt 1) 0 = true from by decide, cond_true]
      show (fn_M_notes (Int32.ofNat D) y5).bind _ = _
      rw [p1]
      rfl
    · cases hy'
      exact ⟨⟨w1, p5, w3, w4, w5, w6, p7.trans ((fz_gL f3 rfl).trans w7), p8.trans ((fz_gL f3 rfl).trans w8), w9⟩, p6⟩
theorem pass_of {o : Option (Int32 × px_H)} {t : Bool} {x3 : px_H} (h : (o.bind fun q' => if q'.1 = Int32.ofInt 1 then some (Int32.ofInt 1, q'.2) else if q'.1 = Int32.ofInt 0 then some (Int32.ofInt 0, q'.2) else none) = some (b01 t, x3)) : o = some (b01 t, x3) := by
  obtain ⟨q, hq, h⟩ := bd_e h
  obtain ⟨q1, q2⟩ := q
  by_cases e1 : q1 = Int32.ofInt 1
  · rw [if_pos e1] at h
    rw [hq, e1]
    exact h
  · rw [if_neg e1] at h
    by_cases e0 : q1 = Int32.ofInt 0
    · rw [if_pos e0] at h
      rw [hq, e0]
      exact h
    · rw [if_neg e0] at h
      cases h
theorem known_L (o0 : oS h0) (hr : gI h0 69 15 = Int32.ofNat 0) (oM : oS hM) (z9 : z ≤ 10) (d6 : dn ≤ 6) (ss : (sm (aI hM 88 0) ∧ sm (aI hM 88 1) ∧ sm (aI hM 89 0) ∧ sm (aI hM 89 1) ∧ sm (gI hM 69 32) ∧ sm (gI hM 69 33)) ∧ ∀ p, p < 10 → s3 (aI hM 90 p)) (zM : gI hM 69 3 = Int32.ofNat z) (dM : gI hM 69 11 = Int32.ofNat dn) (kq : QO u w u w k0) (kc : kCL z nx k0) (ek : kyOf hM = k0) (n31 : gI hM 69 31 = Int32.ofNat nx) (e0 : fn_M_remembers hM = some h0) (dX : gI x2 1 8 = Int32.ofNat dn) (xs : XS z dn 14 0 ln h0 x2) (xt : XT (QS u w k0) (tS k0) x2) :
    ∀ (m d N : Nat) (x y' : px_H), d + m = dn → nx ≤ d → m < N → oS y' → SM hM y' → fz WAS V98 hM y' → xRun (d - nx) nx x2 = some (Int32.ofInt 1, x) → GT x → fz WPS VPS x2 x → oS x → RWq l x y' →
      ∃ (v : Int32) (hX' hM' : px_H), fn_X_known_L58 N (Int32.ofNat d) x = some (v, hX') ∧ fn_M_known_L23 N (Int32.ofNat d) y' = some (v, hM') ∧ QR l hX' hM' := by
  intro m
  induction m with
  | zero =>
    intro d N x y' hd hn hN oy s f hx gt fx ox hw
    obtain ⟨N, rfl⟩ : ∃ k, N = k + 1 := ⟨N - 1, by omega⟩
    have hd : d = dn := by omega
    refine ⟨(Int8.ofInt (-2)).toInt32, x, y', ?_, ?_, gt, hw⟩
    · show fb_X_known_L58 (fn_X_known_L58 N) (Int32.ofNat d) x = _
      unfold fb_X_known_L58
      rw [(fz_gI fx rfl).trans dX, hd, ge_t, cond_true]
    · show fb_M_known_L23 (fn_M_known_L23 N) (Int32.ofNat d) y' = _
      unfold fb_M_known_L23
      rw [(fz_gI f rfl).trans dM, hd, ge_t, cond_true]
  | succ m ih =>
    intro d N x y' hd hn hN oy s f hx gt fx ox hw
    obtain ⟨N, rfl⟩ : ∃ k, N = k + 1 := ⟨N - 1, by omega⟩
    have hD : d < dn := by omega
    have eky : kyOf y' = k0 := (ky_cg (fun j hj => by
      match j, hj with
      | 0, _ => exact ⟨s.1.1, s.1.2.2.1⟩
      | 1, _ => exact ⟨s.1.2.1, s.1.2.2.2.1⟩
      | j + 2, h => omega) s.1.2.2.2.2.1 s.1.2.2.2.2.2 s.2.1).trans ek
    obtain ⟨x3, y6, a1, a2, a3, a4, a5, a6, a7, a8, a9⟩ := aw3 (D := d) (by decide) o0 hr oy z9 ((fz_gI f rfl).trans zM) d6 (sms_SM ss s) kq kc eky (s.2.2.trans n31) (fun y1 hy1 => rm_same oM oy s f e0 hy1) xs xt hn hD
    rw [xRun_snoc, hx, Option.bind_some, if_pos rfl, show nx + (d - nx) = d from by omega] at a1
    have a1 := pass_of a1
    have hw3 : RWq l x3 y6 := by
      have f3 : fz WPS VPS x x3 := by
        have := fz_tr (fz_sy fx) a5
        exact this
      exact RWq_k f3 a6 rfl rfl rfl rfl hw
    have eX : fn_X_known_L58 (N + 1) (Int32.ofNat d) x = fb_X_known_L58 (fn_X_known_L58 N) (Int32.ofNat d) x := rfl
    have eM : fn_M_known_L23 (N + 1) (Int32.ofNat d) y' = fb_M_known_L23 (fn_M_known_L23 N) (Int32.ofNat d) y' := rfl
    rw [eX, eM]
    unfold fb_X_known_L58 fb_M_known_L23
    rw [(fz_gI fx rfl).trans dX, (fz_gI f rfl).trans dM, ge_f hD (by omega), cond_false, cond_false, a1, a2, Option.bind_some, Option.bind_some, cmp_b01n]
    cases hW : sWk h0 (d - nx + 1) nx (x0S k0) with
    | none =>
      exact ⟨_, x3, y6, rfl, rfl, a8, hw3⟩
    | some y =>
      have hA := a9 y hW
      have z6 : gI y6 69 3 = Int32.ofNat z := (fz_gI a6 rfl).trans ((fz_gI f rfl).trans zM)
      show ∃ (v : Int32) (hX' hM' : px_H), ((fn_Walk_whoAlwaysSit x3).bind fun q19 => bif px_cmp .eq q19 0 then fn_X_known_L58 N (Int32.ofNat d + Int32.ofInt 1) x3 else (fn_Row_tellOne q19.toInt64 x3).bind fun q27 => some (Int32.ofNat d, q27)) = some (v, hX') ∧ ((fn_M_sureBits y6).bind fun q10 => bif px_cmp .eq q10 0 then fn_M_known_L23 N (Int32.ofNat d + Int32.ofInt 1) y6 else sb (wF y6 69 1 (.int (Int32.ofInt 0))) fun h16 => (fn_M_sureBits h16).bind fun q18 => (fn_M_enters q18.toInt64 h16).bind fun q21 => some (Int32.ofNat d, q21)) = some (v, hM') ∧ QR l hX' hM'
      rw [aq_alwX z9 a3 hA, aq_alwM z9 z6 hA, Option.bind_some, Option.bind_some, inc1]
      cases px_cmp .eq (sAlw z d y (Int16.ofInt 1023).toInt32) 0 with
      | true =>
        rw [cond_true, cond_true]
        refine ih (d + 1) N x3 y6 (by omega) (by omega) (by omega) a4 (SMtr s a7) (fz_tr f a6) ?_ a8 a5 a3 hw3
        rw [show d + 1 - nx = d - nx + 1 from by omega, xRun_snoc, hx, Option.bind_some, if_pos rfl, show nx + (d - nx) = d from by omega, a1, Option.bind_some, hW]
        rfl
      | false =>
        obtain ⟨x9, r1, r2, r3, r4, r5, r6⟩ := row_clear a3 a4
        obtain ⟨x5, y5, t1, t2, t3, t4, t5, t6, t7⟩ := tell1 a3 a4 (sAlw z d y (Int16.ofInt 1023).toInt32).toInt64
        refine ⟨Int32.ofNat d, x5, y5, ?_, ?_, AQ_gt (AQ_k t5 t6 hA), _, RWs_v t7⟩
        · rw [cond_false, t1]
          rfl
        · rw [cond_false, sb_i, aq_alwM z9 ((gI_wF_ne (by decide)).trans z6) (AQ_k r3 r5 hA), Option.bind_some, t2]
          rfl
theorem sim_known (oX : oS hX) (oM : oS hM) (hR : RLz z dn nx ln hX hM) (gt : GT hX) (hW : RWq l hX hM) : ∃ (v : Int32) (hX' hM' : px_H), fn_X_known hX = some (v, hX') ∧ fn_M_known hM = some (v, hM') ∧ QR l hX' hM' := by
  obtain ⟨hR1, o1, hW1⟩ := RLz_thr' hR oM
  have hW1 := hW1 hW
  unfold fn_X_known fn_M_known
  rw [sb_i]
  generalize wF hM 69 0 (.int (Int32.ofInt 0)) = m1 at hR1 o1 hW1 ⊢
  rw [(left_eq hR1).1, (left_eq hR1).2, Option.bind_some, cmp_b01n]
  by_cases e : nx < dn
  · rw [decide_eq_true e, cond_true, cond_true]
    obtain ⟨hT, h2, h3, hC, ⟨n6, hn1, hn2⟩, h8, ⟨h9, h10⟩, h11⟩ := hR1
    have z9 := hT.1
    have d6 := hT.2.1
    obtain ⟨s, kq, kc⟩ := k0_ok z9 n6 hC
    have ss := CL_sms z9 hC n6
    have hRR := RR_of oX h3
    obtain ⟨y1, c1, c2, c3, c4, c5, c6⟩ := vl_remembers o1
    obtain ⟨x1, a1, a2, a3, a4, a5, a6, a7⟩ := vl_setc (rc := 14) (by decide) oX (aI hX 7 0) (aI hX 7 1) (Int32.ofInt 0)
    obtain ⟨Q, E, xt⟩ := gt
    have xt1 := XT_fz a3 w21_t ⟨rfl, rfl, rfl⟩ v26_t xt
    have g19 : gL x1 19 0 = gL hX 19 0 := fz_gL a3 rfl
    have g19' : gI x1 19 1 = gI hX 19 1 := fz_gI a3 rfl
    obtain ⟨x2, b1, b2, b3, b4⟩ := xs_start (c := 19) (k0 := kyOf m1) (by decide) xt1 a2
    rw [g19, g19'] at b4
    have xs1 : XS z dn 14 0 ln y1 x1 := ⟨a2, ⟨y1, TR_k a3 c3 (by decide) (by decide) hT, RR_m c3 rfl rfl rfl (RR_26 oX (by decide) a3 hRR), fz_rf⟩, a4, fun j hj => by
      rw [(c3.2 76 rfl).1]
      refine ⟨?_, (hT.2.2.2.2.2.2.2.1 j hj).2.2⟩
      match j, hj with
      | 0, _ => exact a5.trans (hT.2.2.2.2.2.2.2.1 0 (by omega)).1
      | 1, _ => exact a6.trans (hT.2.2.2.2.2.2.2.1 1 (by omega)).1
      | j + 2, h => omega, fun p hp => by rw [a7, fz_gI c3 (c := 69) (k := 20) rfl, h10]⟩
    have xs2 := XS_ps (by decide) b2 b3 xs1
    have f2 : fz WBY VBY hX x2 := fz_tr (fz_mono a3 (fun c k e => by
      unfold WBY at e
      simp only [Bool.or_eq_false_iff] at e
      exact e.2) (fun c e => by
      unfold VBY at e
      simp only [Bool.or_eq_false_iff] at e
      exact e.2)) (wby_a b3)
    have hw2 : RWq l x2 m1 := RWq_k f2 (fz_rf (W := W0) (V := V0)) rfl rfl rfl rfl hW1
    rw [show (Int32.ofInt 0).toNatClampNeg = 0 from rfl, show (Int32.ofInt 1).toNatClampNeg = 1 from rfl, a1, Option.bind_some, b1, Option.bind_some, (fz_gI b3 rfl).trans ((fz_gI a3 rfl).trans hn1), hn2]
    exact known_L c2 ((fz_gI c3 rfl).trans h9) o1 z9 d6 ss hT.2.2.2.1 hT.2.2.2.2.2.1 kq kc rfl hn2 c1 ((fz_gI f2 rfl).trans hT.2.2.2.2.1) xs2 b4 (dn - nx) nx fu x2 m1 (by omega) (Nat.le_refl _) (fu_lt (by omega)) o1 ⟨⟨rfl, rfl, rfl, rfl, rfl, rfl⟩, fun _ _ => rfl, rfl⟩ fz_rf (by rw [Nat.sub_self]; rfl) ⟨_, _, b4⟩ fz_rf b2 hw2
  · rw [decide_eq_false e]
    exact ⟨_, hX, m1, rfl, rfl, gt, hW1⟩
end tb_Q
end mg_5
