section mg_0
/-! the class: a layer, all layers, the beginning of a drawing -/
section tb_F
variable {h h' : px_H} {t : Nat} {z d ln r b : Nat} {K S F kn : Nat → Int32} {ow aw dd : Int32} {h0 hs : px_H} {u : Int64} {w : Int32}
theorem PX_e {a bb e : Nat} {N E E' : TB} {V : Nat → Bool} (g : D3 a bb e) (o' : oS h') (hV : ∀ c, V c = true → Vt e c = true) (f : fz (Wtb e) V h h') (hE : CT (QE d u w) e E' h') (hP : PX z d ln b K S F kn ow aw dd h0 hs u w a bb e N E h) : PX z d ln b K S F kn ow aw dd h0 hs u w a bb e N E' h' := ⟨o', CP_px hP.1 hP.2.1 (px_t g.2.2.1 hV f), RF_fz f (wt_28 g.2.2.1 0) (wt_28 g.2.2.1 1) (wt_28 g.2.2.1 2) hP.2.2.1, CT_t g.1 g.2.2.1 g.2.2.2.2.1 hV f hP.2.2.2.1, hE⟩
theorem da_L {a bb e : Nat} {N : TB} (o0 : oS h0) (hN : EN z d ln r b K S F kn ow aw dd h0) (g : D3 a bb e) (hk : pT (kDR h0 z d b) N) : ∀ (m i N' : Nat) (h : px_H) (E B : TB) (dr vn : Int64), i + m = N.1 → m < N' → PX z d ln b K S F kn ow aw dd h0 hs u w a bb e N E h → CT (QD u w) bb B h → gL h 28 4 = dr → gL h 28 5 = vn → pT (kDR h0 z d b) B → pT (kEN z d) E →
    ∃ h', fn_Walk_drawAll_L9 N' (Int32.ofNat i) h = some (b01 (sSw h0 d b N m i E B dr vn).isSome, h') ∧ ∃ a' bb' Nx Bx Ex, D3 a' bb' e ∧ PX z d ln b K S F kn ow aw dd h0 hs u w a' bb' e Nx Ex h' ∧ CT (QD u w) bb' Bx h' ∧ ∀ y, sSw h0 d b N m i E B dr vn = some y → Ex = y.1 ∧ Nx = y.2.1 ∧ gL h' 28 4 = y.2.2.1 ∧ gL h' 28 5 = y.2.2.2 ∧ pT (kDR h0 z d b) y.2.1 ∧ pT (kEN z d) y.1 := by
  intro m
  induction m with
  | zero =>
    intro i N' h E B dr vn hm hN' hP hB hd hv hp hpe
    obtain ⟨N', rfl⟩ : ∃ k, N' = k + 1 := ⟨N' - 1, by omega⟩
    have : i = N.1 := by omega
    subst this
    obtain ⟨o, hC, ⟨r0, r1, r2⟩, hA, hE⟩ := hP
    show ∃ h', fb_Walk_drawAll_L9 (fn_Walk_drawAll_L9 N') (Int32.ofNat N.1) h = _ ∧ _
    unfold fb_Walk_drawAll_L9
    rw [r0, hA.1, ge_t, cond_true, r1, sb_i]
    have o1 : oS (wF h 28 0 (.ref bb)) := oS_wRm (cs := tbs) (a := 28) (ci := 7) (k := 0) rfl g.2.1 o
    have x0 : gR (wF h 28 0 (.ref bb)) 28 0 = bb := gR_wF (cs := [28]) (ci := 7) rfl List.mem_cons_self o
    have f1 : fz (fun c j => Nat.beq c 28 && (Nat.beq j 0 || Nat.beq j 1)) V0 h (wF h 28 0 (.ref bb)) := fz_wF rfl
    generalize wF h 28 0 (.ref bb) = h1 at o1 x0 f1 ⊢
    rw [sb_i]
    have o2 : oS (wF h1 28 1 (.ref a)) := oS_wRm (cs := tbs) (a := 28) (ci := 7) (k := 1) rfl g.1 o1
    have y1 : gR (wF h1 28 1 (.ref a)) 28 1 = a := gR_wF (cs := [28]) (ci := 7) rfl List.mem_cons_self o1
    have y0 : gR (wF h1 28 1 (.ref a)) 28 0 = bb := (gR_wF_ne (by decide)).trans x0
    have f2 : fz (fun c j => Nat.beq c 28 && (Nat.beq j 0 || Nat.beq j 1)) V0 h (wF h1 28 1 (.ref a)) := fz_tr f1 (fz_wF rfl)
    generalize wF h1 28 1 (.ref a) = h2 at o2 y1 y0 f2 ⊢
    have cf : ∀ {t : Nat} {Q : Int64 → Int32 → KY → Prop} {T : TB}, t ∈ tbs → CT Q t T h → CT Q t T h2 := fun ht hc => CT_fz f2 (by rcases tb_c ht with rfl | rfl | rfl <;> rfl) (fun _ _ _ => rfl) hc
    refine ⟨h2, rfl, bb, a, B, N, E, ⟨g.2.1, g.1, g.2.2.1, fun x => g.2.2.2.1 x.symm, g.2.2.2.2.2, g.2.2.2.2.1⟩, ⟨o2, CP_px o hC (fz_mono f2 (fun c j e => ?_) (fun _ _ => rfl)), ⟨y0, y1, (fz_gR f2 rfl).trans r2⟩, cf g.2.1 hB, cf g.2.2.1 hE⟩, cf g.1 hA, fun y hy => ?_⟩
    · unfold WPX at e
      simp only [Bool.or_eq_false_iff] at e
      rw [e.2.1]
      rfl
    · cases hy
      exact ⟨rfl, rfl, (fz_gL f2 rfl).trans hd, (fz_gL f2 rfl).trans hv, hp, hpe⟩
  | succ m ih =>
    intro i N' h E B dr vn hm hN' hP hB hd hv hp hpe
    obtain ⟨N', rfl⟩ : ∃ k, N' = k + 1 := ⟨N' - 1, by omega⟩
    have hi : i < N.1 := by omega
    have hP0 := hP
    obtain ⟨o, hC, ⟨r0, r1, r2⟩, hA, hE⟩ := hP
    have n3 := hA.2.1
    show ∃ h', fb_Walk_drawAll_L9 (fn_Walk_drawAll_L9 N') (Int32.ofNat i) h = _ ∧ _
    unfold fb_Walk_drawAll_L9
    rw [r0, hA.1, ge_nat (by omega) (by omega), decide_eq_false (show ¬ N.1 ≤ i by omega), cond_false, nm_inR i 3000 (by omega) (by omega), cond_true, cond_true, nm_ofNat_clamp i (by omega), (tb_ref g.1 o).1, (tb_ref g.1 o).2.1]
    obtain ⟨h1, l1, l2, l3, l4, l5⟩ := lay_ok o (aL h (a + 1) i) (aI h (a + 2) i)
    rw [l1, Option.bind_some]
    have hP1 := PX_c g l2 l3 hP0
    have hB1 : CT (QD u w) bb B h1 := CT_c g.2.1 l3 hB
    have m4 : gL h1 47 0 = aL h1 (a + 1) i := by rw [l4, (l3.2 _ rfl).2]
    have m5 : gI h1 47 1 = aI h1 (a + 2) i := by rw [l5, (l3.2 _ rfl).1]
    have hq : QD u w (gL h1 47 0) (gI h1 47 1) (N.2.1 i) := by rw [m4, m5]; exact (hP1.2.2.2.1.2.2.1 i hi).1
    have d1 : gL h1 28 4 = dr := (fz_gL l3 rfl).trans hd
    have v1 : gL h1 28 5 = vn := (fz_gL l3 rfl).trans hv
    rw [cx_over o0 hN hP1.2.1 hq (hk i hi), Option.bind_some, cmp_b01]
    unfold sSw
    cases hov : sOv h0 d b (N.2.1 i) with
    | false =>
      rw [Bool.not_false, cond_true, if_neg (by decide)]
      obtain ⟨h2, b1, b2, b3, Bx, b4, b5⟩ := de_ok o0 hN g hi hP1 hB1 m4 m5 (hk i hi) hov d1 v1 hp
      rw [b1, Option.bind_some]
      simp only [cmp_b01n]
      cases hD : sDr h0 d b (N.2.1 i) (shr (N.2.1 i) b (N.2.2 i)) 10 0 (B, vn) with
      | none =>
        exact ⟨h2, rfl, a, bb, N, Bx, E, g, b2, b4, fun y hy => by cases hy⟩
      | some y =>
        obtain ⟨y1, y2, y3⟩ := b5 y hD
        subst y1
        show ∃ h', fn_Walk_drawAll_L9 N' (Int32.ofNat i + Int32.ofInt 1) h2 = _ ∧ _
        rw [inc1]
        exact ih (i + 1) N' h2 E y.1 _ _ (by omega) (by omega) b2 b4 b3 y2 y3 hpe
    | true =>
      rw [Bool.not_true, cond_false, if_pos rfl]
      obtain ⟨h2, c1, c2, c3, c4, c5⟩ := cx_close o0 l2 hN hP1.2.1 hq (hk i hi)
      have hP2 := PX_c g c2 c3 hP1
      have hB2 : CT (QD u w) bb B h2 := CT_c g.2.1 c3 hB1
      obtain ⟨h3, a1, a2, a3, a4⟩ := ca_add (Q := QE d u w) (c := N.2.2 i) QE_inj g.2.2.1 c2 hP2.2.2.2.2 c4
      rw [c1, Option.bind_some, hP2.2.2.1.1, hP2.2.2.1.2.2, (tb_ref g.1 c2).2.2.1, (hP2.2.2.2.1.2.2.1 i hi).2, a1, Option.bind_some]
      simp only [cmp_b01n]
      have hP3 := PX_e g a2 (fun _ h => h) a3 a4 hP2
      have hB3 : CT (QD u w) bb B h3 := CT_t g.2.1 g.2.2.1 g.2.2.2.2.2 (fun _ h => h) a3 hB2
      cases hD : adT E (sCl h0 d (N.2.1 i)) (N.2.2 i) with
      | none =>
        exact ⟨h3, rfl, a, bb, N, B, _, g, hP3, hB3, fun y hy => by cases hy⟩
      | some E' =>
        have eE : adI E (sCl h0 d (N.2.1 i)) (N.2.2 i) = E' := by unfold adI; rw [hD]; rfl
        rw [eE] at hP3
        show ∃ h', fn_Walk_drawAll_L9 N' (Int32.ofNat i + Int32.ofInt 1) h3 = _ ∧ _
        rw [inc1]
        exact ih (i + 1) N' h3 E' B dr vn (by omega) (by omega) hP3 hB3 ((fz_gL a3 (wt_28 g.2.2.1 4)).trans ((fz_gL c3 rfl).trans d1)) ((fz_gL a3 (wt_28 g.2.2.1 5)).trans ((fz_gL c3 rfl).trans v1)) hp (adT_p hpe c5 hD)
/-- a layer -/
theorem da_ok {a bb e : Nat} {N E : TB} {dr vn : Int64} (o0 : oS h0) (hN : EN z d ln r b K S F kn ow aw dd h0) (g : D3 a bb e) (hk : pT (kDR h0 z d b) N) (hP : PX z d ln b K S F kn ow aw dd h0 hs u w a bb e N E h) (hB : CT0 bb h) (hd : gL h 28 4 = dr) (hv : gL h 28 5 = vn) (hpe : pT (kEN z d) E) :
    ∃ h', fn_Walk_drawAll h = some (b01 (sSw h0 d b N N.1 0 E tE dr vn).isSome, h') ∧ ∃ a' bb' Nx Bx Ex, D3 a' bb' e ∧ PX z d ln b K S F kn ow aw dd h0 hs u w a' bb' e Nx Ex h' ∧ CT (QD u w) bb' Bx h' ∧ ∀ y, sSw h0 d b N N.1 0 E tE dr vn = some y → Ex = y.1 ∧ Nx = y.2.1 ∧ gL h' 28 4 = y.2.2.1 ∧ gL h' 28 5 = y.2.2.2 ∧ pT (kDR h0 z d b) y.2.1 ∧ pT (kEN z d) y.1 := by
  obtain ⟨h1, q1, q2, q3, q4⟩ := ca_clear g.2.1 hP.1 hB
  unfold fn_Walk_drawAll
  rw [hP.2.2.1.2.1, q1, Option.bind_some]
  have f3 : fz (Wtb bb) (Vt bb) h h1 := fz_mono q3 (fun _ _ h => h) (fun c e => by
    cases hb : Nat.beq c (bb + 4) with
    | false => rfl
    | true => rw [vt_4 c hb] at e; cases e)
  exact da_L o0 hN g hk N.1 0 fu h1 E tE dr vn (by omega) (fu_lt (by have := hP.2.2.2.1.2.1; omega)) (PX_bb g q2 f3 hP) (q4 _) ((fz_gL f3 (wt_28 g.2.1 4)).trans hd) ((fz_gL f3 (wt_28 g.2.1 5)).trans hv) (tE_p _) hpe
theorem dp_L (o0 : oS h0) (hN : EN z d ln r b K S F kn ow aw dd h0) : ∀ (m v N' : Nat) (h : px_H) (a bb e : Nat) (N E : TB) (dr vn : Int64), v + m = 11 → m < N' → D3 a bb e → pT (kDR h0 z d b) N → PX z d ln b K S F kn ow aw dd h0 hs u w a bb e N E h → CT0 bb h → gL h 28 4 = dr → gL h 28 5 = vn → pT (kEN z d) E →
    ∃ h', fn_Walk_pass_L22 N' (Int32.ofNat v) h = some (b01 (sGo h0 d b m N E dr vn).isSome, h') ∧ ∃ a' bb' Nx Bx Ex, D3 a' bb' e ∧ PX z d ln b K S F kn ow aw dd h0 hs u w a' bb' e Nx Ex h' ∧ CT0 bb' h' ∧ Bx = Nx ∧ ∀ y, sGo h0 d b m N E dr vn = some y → Ex = y.1 ∧ gL h' 28 4 = y.2.1 ∧ gL h' 28 5 = y.2.2 ∧ pT (kEN z d) y.1 := by
  intro m
  induction m with
  | zero =>
    intro v N' h a bb e N E dr vn hm hN' g hk hP hB hd hv hpe
    obtain ⟨N', rfl⟩ : ∃ k, N' = k + 1 := ⟨N' - 1, by omega⟩
    have : v = 11 := by omega
    subst this
    refine ⟨h, ?_, a, bb, N, N, E, g, hP, hB, rfl, fun y hy => by cases hy; exact ⟨rfl, hd, hv, hpe⟩⟩
    show fb_Walk_pass_L22 (fn_Walk_pass_L22 N') (Int32.ofNat 11) h = _
    unfold fb_Walk_pass_L22
    rw [show px_cmp .gt (Int32.ofNat 11) (Int8.ofInt 10).toInt32 = true from by decide, cond_true]
    rfl
  | succ m ih =>
    intro v N' h a bb e N E dr vn hm hN' g hk hP hB hd hv hpe
    obtain ⟨N', rfl⟩ : ∃ k, N' = k + 1 := ⟨N' - 1, by omega⟩
    have hA := hP.2.2.2.1
    have n3 := hA.2.1
    show ∃ h', fb_Walk_pass_L22 (fn_Walk_pass_L22 N') (Int32.ofNat v) h = _ ∧ _
    unfold fb_Walk_pass_L22 sGo
    rw [cmp_gt, ten, nm_ofNat_toInt v (by omega), nm_ofNat_toInt 10 (by omega), decide_eq_false (show ¬ ((10 : Nat) : Int) < (v : Int) by omega), cond_false, hP.2.2.1.1, hA.1, show px_cmp .le (Int32.ofNat N.1) 0 = decide (N.1 = 0) from by
      rw [show (0 : Int32) = Int32.ofNat 0 from rfl, le_nat (by omega) (by omega)]
      simp only [decide_eq_decide]
      omega]
    by_cases e0 : N.1 = 0
    · rw [decide_eq_true e0, cond_true, if_pos e0]
      exact ⟨h, rfl, a, bb, N, N, E, g, hP, hB, rfl, fun y hy => by cases hy; exact ⟨rfl, hd, hv, hpe⟩⟩
    · rw [decide_eq_false e0, cond_false, if_neg e0]
      obtain ⟨h1, b1, a', bb', Nx, Bx, Ex, g', b2, b3, b4⟩ := da_ok o0 hN g hk hP hB hd hv hpe
      rw [b1, Option.bind_some]
      simp only [cmp_b01n]
      cases hS : sSw h0 d b N N.1 0 E tE dr vn with
      | none => exact ⟨h1, rfl, a', bb', Nx, Nx, Ex, g', b2, CT_0 b3, rfl, fun y hy => by cases hy⟩
      | some y =>
        obtain ⟨y1, y2, y3, y4, y5, y6⟩ := b4 y hS
        subst y1 y2
        show ∃ h', fn_Walk_pass_L22 N' (Int32.ofNat v + Int32.ofInt 1) h1 = _ ∧ _
        rw [inc1]
        exact ih (v + 1) N' h1 a' bb' e y.2.1 y.1 _ _ (by omega) (by omega) g' y5 b2 (CT_0 b3) y3 y4 y6
/-! the beginning of a drawing -/
theorem oa_L {a bb e nx : Nat} {E : TB} {Q : Int64 → Int32 → KY → Prop} (o0 : oS h0) (hN : EN z d ln r b K S F kn ow aw dd h0) (s6 : sz z (aI h0 76 b)) (s80 : 0 ≤ (aI h0 80 d).toInt) (g : D3 a bb e) (hQ : ∀ s q k, Q s q k → QO u w s q k) (hk : pT (kCL z nx) E) (nd : nx ≤ d) : ∀ (m i N' : Nat) (h : px_H) (N : TB), i + m = E.1 → m < N' → oS h → CP z d ln b K S F kn ow aw dd h0 hs h → RF a bb e h → CT (QD u w) a N h → CT Q e E h → CT0 bb h → pT (kDR h0 z d b) N →
    ∃ h', fn_Walk_openAll_L9 N' (Int32.ofNat i) h = some h' ∧ oS h' ∧ CP z d ln b K S F kn ow aw dd h0 hs h' ∧ RF a bb e h' ∧ CT (QD u w) a (sOps h0 d E m i N) h' ∧ (∀ Q', CT Q' e tE h') ∧ CT0 bb h' ∧ pT (kDR h0 z d b) (sOps h0 d E m i N) := by
  intro m
  induction m with
  | zero =>
    intro i N' h N hm hN' o hC hR hA hE hB hp
    obtain ⟨N', rfl⟩ : ∃ k, N' = k + 1 := ⟨N' - 1, by omega⟩
    have : i = E.1 := by omega
    subst this
    show ∃ h', fb_Walk_openAll_L9 (fn_Walk_openAll_L9 N') (Int32.ofNat E.1) h = _ ∧ _
    unfold fb_Walk_openAll_L9
    obtain ⟨h1, q1, q2, q3, q4⟩ := ca_clear g.2.2.1 o (CT_0 hE)
    rw [hR.2.2, hE.1, ge_t, cond_true, q1, Option.bind_some]
    have hV : ∀ c, Nat.beq c (e + 4) = true → Vt e c = true := vt_4
    refine ⟨h1, rfl, q2, CP_px o hC (px_t g.2.2.1 hV q3), RF_fz q3 (wt_28 g.2.2.1 0) (wt_28 g.2.2.1 1) (wt_28 g.2.2.1 2) hR, CT_t g.1 g.2.2.1 g.2.2.2.2.1 hV q3 hA, q4, ?_, hp⟩
    obtain ⟨n, n3, hn, hc⟩ := hB
    have hcc : CT (fun _ _ _ => True) bb (n, fun _ => (0, 0), aL h (bb + 3)) h := ⟨hn, n3, fun _ _ => ⟨trivial, rfl⟩, hc⟩
    exact CT_0 (CT_t g.2.1 g.2.2.1 g.2.2.2.2.2 hV q3 hcc)
  | succ m ih =>
    intro i N' h N hm hN' o hC hR hA hE hB hp
    obtain ⟨N', rfl⟩ : ∃ k, N' = k + 1 := ⟨N' - 1, by omega⟩
    have hi : i < E.1 := by omega
    have n3 := hE.2.1
    have hR0 := hR
    obtain ⟨r0, r1, r2⟩ := hR
    obtain ⟨nB, nB3, hBn, hBc⟩ := hB
    have hcc : CT (fun _ _ _ => True) bb (nB, fun _ => (0, 0), aL h (bb + 3)) h := ⟨hBn, nB3, fun _ _ => ⟨trivial, rfl⟩, hBc⟩
    show ∃ h', fb_Walk_openAll_L9 (fn_Walk_openAll_L9 N') (Int32.ofNat i) h = _ ∧ _
    unfold fb_Walk_openAll_L9
    rw [r2, hE.1, ge_nat (by omega) (by omega), decide_eq_false (show ¬ E.1 ≤ i by omega), cond_false, nm_inR i 3000 (by omega) (by omega), cond_true, cond_true, nm_ofNat_clamp i (by omega), (tb_ref g.2.2.1 o).1, (tb_ref g.2.2.1 o).2.1]
    obtain ⟨h1, l1, l2, l3, l4, l5⟩ := lay_ok o (aL h (e + 1) i) (aI h (e + 2) i)
    rw [l1, Option.bind_some]
    have hC1 := CP_px o hC (px_c l3)
    obtain ⟨h2, c1, c2, c3, c4, c5⟩ := cx_open (nx := nx) o0 l2 hN hC1 s6 s80 (by rw [l4, l5]; exact hQ _ _ _ (hE.2.2.1 i hi).1) (hk i hi) nd
    rw [c1, Option.bind_some]
    have f2 := fz_tr l3 c3
    have hE2 : CT Q e E h2 := CT_c g.2.2.1 f2 hE
    have hA2 : CT (QD u w) a N h2 := CT_c g.1 f2 hA
    have hR2 : RF a bb e h2 := RF_fz f2 rfl rfl rfl hR0
    obtain ⟨h3, a1, a2, a3, a4⟩ := ca_add (Q := QD u w) (c := E.2.2 i) QD_inj g.1 c2 hA2 c4
    rw [cond_true, hR2.1, hR2.2.2, (tb_ref g.2.2.1 c2).2.2.1, (hE2.2.2.1 i hi).2, a1, Option.bind_some]
    show ∃ h', fn_Walk_openAll_L9 N' (Int32.ofNat i + Int32.ofInt 1) h3 = _ ∧ _
    rw [inc1]
    exact ih (i + 1) N' h3 _ (by omega) (by omega) a2 (CP_px c2 (CP_px l2 hC1 (px_c c3)) (px_t g.1 (fun _ h => h) a3)) (RF_fz a3 (wt_28 g.1 0) (wt_28 g.1 1) (wt_28 g.1 2) hR2) a4 (CT_t g.2.2.1 g.1 (fun x => g.2.2.2.2.1 x.symm) (fun _ h => h) a3 hE2) (CT_0 (CT_t g.2.1 g.1 (fun x => g.2.2.2.1 x.symm) (fun _ h => h) a3 (CT_c g.2.1 f2 hcc))) (adI_p hp c5)
theorem CT0_fz {W : Nat → Nat → Bool} {V : Nat → Bool} (a : fz W V h h') (hw : W t 3 = false) (hv : ∀ c, t + 1 ≤ c → c ≤ t + 5 → V c = false) (hC : CT0 t h) : CT0 t h' := by
  obtain ⟨n, n3, hn, hc⟩ := hC
  have hcc : CT (fun _ _ _ => True) t (n, fun _ => (0, 0), aL h (t + 3)) h := ⟨hn, n3, fun _ _ => ⟨trivial, rfl⟩, hc⟩
  exact CT_0 (CT_fz a hw hv hcc)
/-- a pass, when the course is ready -/
theorem cw_pass {a bb e nx : Nat} {E : TB} {Q : Int64 → Int32 → KY → Prop} (o0 : oS h0) (hN : EN z d ln r b K S F kn ow aw dd h0) (s6 : sz z (aI h0 76 b)) (s80 : 0 ≤ (aI h0 80 d).toInt) (g : D3 a bb e) (hQ : ∀ s q k, Q s q k → QO u w s q k) (hk : pT (kCL z nx) E) (nd : nx ≤ d) {hb : px_H} (hrd : fn_Course_ready (Int32.ofNat d) hb = some h) (o : oS h) (hC : CP z d ln b K S F kn ow aw dd h0 hs h) (hR : RF a bb e h) (hA : CT0 a h) (hB : CT0 bb h) (hE : CT Q e E h) :
    ∃ h', fn_Walk_pass (Int32.ofNat d) hb = some (b01 (sPass h0 d b E).isSome, h') ∧ oS h' ∧ CP z d ln b K S F kn ow aw dd h0 hs h' ∧ ∃ a' bb' Ex, D3 a' bb' e ∧ RF a' bb' e h' ∧ CT0 a' h' ∧ CT0 bb' h' ∧ CT (QE d u w) e Ex h' ∧ ∀ y, sPass h0 d b E = some y → Ex = y.1 ∧ gL h' 28 4 = y.2.1 ∧ gL h' 28 5 = y.2.2 ∧ pT (kEN z d) y.1 := by
  unfold fn_Walk_pass fn_Walk_openAll
  obtain ⟨h1, q1, q2, q3, q4⟩ := ca_clear g.1 o hA
  have hV : ∀ c, Nat.beq c (a + 4) = true → Vt a c = true := vt_4
  rw [hrd, Option.bind_some, hR.1, q1, Option.bind_some]
  obtain ⟨nB, nB3, hBn, hBc⟩ := hB
  have hcc : CT (fun _ _ _ => True) bb (nB, fun _ => (0, 0), aL h (bb + 3)) h := ⟨hBn, nB3, fun _ _ => ⟨trivial, rfl⟩, hBc⟩
  obtain ⟨h2, p1, p2, p3, p4, p5, p6, p7, p8⟩ := oa_L o0 hN s6 s80 g hQ hk nd E.1 0 fu h1 tE (by omega) (fu_lt (by have := hE.2.1; omega)) q2 (CP_px o hC (px_t g.1 hV q3)) (RF_fz q3 (wt_28 g.1 0) (wt_28 g.1 1) (wt_28 g.1 2) hR) (q4 _) (CT_t g.2.2.1 g.1 (fun x => g.2.2.2.2.1 x.symm) hV q3 hE) (CT_0 (CT_t g.2.1 g.1 (fun x => g.2.2.2.1 x.symm) hV q3 hcc)) (tE_p _)
  rw [show Int32.ofInt 0 = Int32.ofNat 0 from rfl, p1, Option.bind_some, sb_i]
  have hP2 : PX z d ln b K S F kn ow aw dd h0 hs u w a bb e (sOps h0 d E E.1 0 tE) tE h2 := ⟨p2, p3, p4, p5, p6 _⟩
  have hP3 := PX_28 (k := 4) (v := Int64.ofNat 0) g (Or.inl rfl) hP2
  have d3 : gL (wF h2 28 4 (.long (Int64.ofNat 0))) 28 4 = Int64.ofNat 0 := gL_wF (cs := [28]) (ci := 7) rfl List.mem_cons_self p2
  have c3 : CT0 bb (wF h2 28 4 (.long (Int64.ofNat 0))) := CT0_fz (W := fun c _ => Nat.beq c 28) (V := V0) (fz_wF rfl) (by rcases tb_c g.2.1 with rfl | rfl | rfl <;> rfl) (fun _ _ _ => rfl) p7
  generalize wF h2 28 4 (.long (Int64.ofNat 0)) = h3 at hP3 d3 c3 ⊢
  rw [sb_i]
  have hP4 := PX_28 (k := 5) (v := Int64.ofNat 0) g (Or.inr rfl) hP3
  have d4 : gL (wF h3 28 5 (.long (Int64.ofNat 0))) 28 4 = Int64.ofNat 0 := (gL_wF_ne (by decide)).trans d3
  have v4 : gL (wF h3 28 5 (.long (Int64.ofNat 0))) 28 5 = Int64.ofNat 0 := gL_wF (cs := [28]) (ci := 7) rfl List.mem_cons_self hP3.1
  have c4 : CT0 bb (wF h3 28 5 (.long (Int64.ofNat 0))) := CT0_fz (W := fun c _ => Nat.beq c 28) (V := V0) (fz_wF rfl) (by rcases tb_c g.2.1 with rfl | rfl | rfl <;> rfl) (fun _ _ _ => rfl) c3
  generalize wF h3 28 5 (.long (Int64.ofNat 0)) = h4 at hP4 d4 v4 c4 ⊢
  obtain ⟨h5, b1, a', bb', Nx, Bx, Ex, g', b2, b3, -, b4⟩ := dp_L o0 hN 11 0 fu h4 a bb e _ tE _ _ (by omega) (fu_lt (by omega)) g p8 hP4 c4 d4 v4 (tE_p _)
  refine ⟨h5, ?_, b2.1, b2.2.1, a', bb', Ex, g', b2.2.2.1, CT_0 b2.2.2.2.1, b3, b2.2.2.2.2, b4⟩
  exact b1
end tb_F
end mg_0

section mg_1
/-! a pass as the model goes through it: ends first, then draws -/
noncomputable def sEn (h0 : px_H) (d b : Nat) (N : TB) : Nat → Nat → TB → Option TB
  | 0, _, E => some E
  | m + 1, i, E => if sOv h0 d b (N.2.1 i) = true then (adT E (sCl h0 d (N.2.1 i)) (N.2.2 i)).bind fun E' => sEn h0 d b N m (i + 1) E' else sEn h0 d b N m (i + 1) E
noncomputable def sCo (h0 : px_H) (d b : Nat) (N : TB) : Nat → Nat → TB × Int64 × Int64 → Option (TB × Int64 × Int64)
  | 0, _, x => some x
  | m + 1, i, x => if sOv h0 d b (N.2.1 i) = true then sCo h0 d b N m (i + 1) x else (sDr h0 d b (N.2.1 i) (shr (N.2.1 i) b (N.2.2 i)) 10 0 (x.1, x.2.2)).bind fun y => sCo h0 d b N m (i + 1) (y.1, x.2.1 + N.2.2 i, y.2)
/-- those that go on -/
noncomputable def sFi (h0 : px_H) (d b : Nat) (N : TB) : Nat → Nat → TB → TB
  | 0, _, G => G
  | m + 1, i, G => if sOv h0 d b (N.2.1 i) = true then sFi h0 d b N m (i + 1) G else sFi h0 d b N m (i + 1) (adI G (N.2.1 i) (N.2.2 i))
/-- some entry goes on -/
def sMr (h0 : px_H) (d b : Nat) (N : TB) : Nat → Nat → Bool
  | 0, _ => false
  | m + 1, i => !sOv h0 d b (N.2.1 i) || sMr h0 d b N m (i + 1)
section tb_G
variable {h0 : px_H} {d b : Nat}
theorem sSw_eq (N : TB) : ∀ (m i : Nat) (E B : TB) (dr vn : Int64), sSw h0 d b N m i E B dr vn = (sEn h0 d b N m i E).bind fun E' => (sCo h0 d b N m i (B, dr, vn)).bind fun x => some (E', x.1, x.2.1, x.2.2)
  | 0, i, E, B, dr, vn => rfl
  | m + 1, i, E, B, dr, vn => by
    unfold sSw sEn sCo
    by_cases h : sOv h0 d b (N.2.1 i) = true
    · rw [if_pos h, if_pos h, if_pos h]
      cases hA : adT E (sCl h0 d (N.2.1 i)) (N.2.2 i) with
      | none => rfl
      | some E' => exact sSw_eq N m (i + 1) E' B dr vn
    · rw [if_neg h, if_neg h, if_neg h]
      show (sDr h0 d b (N.2.1 i) (shr (N.2.1 i) b (N.2.2 i)) 10 0 (B, vn)).bind _ = (sEn h0 d b N m (i + 1) E).bind fun E' => ((sDr h0 d b (N.2.1 i) (shr (N.2.1 i) b (N.2.2 i)) 10 0 (B, vn)).bind _).bind _
      cases hD : sDr h0 d b (N.2.1 i) (shr (N.2.1 i) b (N.2.2 i)) 10 0 (B, vn) with
      | none =>
        cases sEn h0 d b N m (i + 1) E <;> rfl
      | some y => exact sSw_eq N m (i + 1) E y.1 (dr + N.2.2 i) y.2
/-- two tables with the same entries that go on -/
def sNx (h0 : px_H) (d b : Nat) (N : TB) : Nat → Nat → List (KY × Int64)
  | 0, _ => []
  | m + 1, i => if sOv h0 d b (N.2.1 i) = true then sNx h0 d b N m (i + 1) else (N.2.1 i, N.2.2 i) :: sNx h0 d b N m (i + 1)
noncomputable def sCl_ (h0 : px_H) (d b : Nat) : List (KY × Int64) → TB × Int64 × Int64 → Option (TB × Int64 × Int64)
  | [], x => some x
  | q :: l, x => (sDr h0 d b q.1 (shr q.1 b q.2) 10 0 (x.1, x.2.2)).bind fun y => sCl_ h0 d b l (y.1, x.2.1 + q.2, y.2)
theorem sCo_l (N : TB) : ∀ (m i : Nat) (x : TB × Int64 × Int64), sCo h0 d b N m i x = sCl_ h0 d b (sNx h0 d b N m i) x
  | 0, i, x => rfl
  | m + 1, i, x => by
    unfold sCo sNx
    by_cases h : sOv h0 d b (N.2.1 i) = true
    · rw [if_pos h, if_pos h]
      exact sCo_l N m (i + 1) x
    · rw [if_neg h, if_neg h]
      show _ = (sDr h0 d b (N.2.1 i) (shr (N.2.1 i) b (N.2.2 i)) 10 0 (x.1, x.2.2)).bind fun y => sCl_ h0 d b (sNx h0 d b N m (i + 1)) (y.1, x.2.1 + N.2.2 i, y.2)
      cases sDr h0 d b (N.2.1 i) (shr (N.2.1 i) b (N.2.2 i)) 10 0 (x.1, x.2.2) with
      | none => rfl
      | some y => exact sCo_l N m (i + 1) _
theorem sMr_l (N : TB) : ∀ (m i : Nat), sMr h0 d b N m i = !(sNx h0 d b N m i).isEmpty
  | 0, i => rfl
  | m + 1, i => by
    unfold sMr sNx
    by_cases h : sOv h0 d b (N.2.1 i) = true
    · rw [if_pos h, h, sMr_l N m (i + 1)]
      rfl
    · rw [if_neg h, (Bool.not_eq_true _).mp h]
      rfl
theorem sNx_no (N : TB) : ∀ (m i : Nat), (∀ j, i ≤ j → j < i + m → sOv h0 d b (N.2.1 j) = true) → sNx h0 d b N m i = []
  | 0, i, _ => rfl
  | m + 1, i, h => by
    unfold sNx
    rw [if_pos (h i (by omega) (by omega))]
    exact sNx_no N m (i + 1) (fun j h1 h2 => h j (by omega) (by omega))
theorem sNx_cg {N N' : TB} : ∀ (m i : Nat), (∀ j, i ≤ j → j < i + m → N'.2.1 j = N.2.1 j ∧ N'.2.2 j = N.2.2 j) → sNx h0 d b N' m i = sNx h0 d b N m i
  | 0, i, _ => rfl
  | m + 1, i, h => by
    unfold sNx
    rw [(h i (by omega) (by omega)).1, (h i (by omega) (by omega)).2, sNx_cg m (i + 1) (fun j h1 h2 => h j (by omega) (by omega))]
theorem sNx_ap (N : TB) (m2 : Nat) : ∀ (m i : Nat), sNx h0 d b N (m + m2) i = sNx h0 d b N m i ++ sNx h0 d b N m2 (i + m)
  | 0, i => by rw [Nat.zero_add, Nat.add_zero]; rfl
  | m + 1, i => by
    rw [show m + 1 + m2 = (m + m2) + 1 from by omega]
    conv => lhs; unfold sNx
    conv => rhs; lhs; unfold sNx
    rw [sNx_ap N m2 m (i + 1), show i + 1 + m = i + (m + 1) from by omega]
    by_cases o : sOv h0 d b (N.2.1 i) = true
    · rw [if_pos o, if_pos o]
    · rw [if_neg o, if_neg o]; rfl
theorem sNx_add {T : TB} {k : KY} {c : Int64} (h3 : T.1 < 3000) (hk : ∀ j, j < T.1 → T.2.1 j ≠ k) (ho : sOv h0 d b k = false) : sNx h0 d b (adI T k c) (adI T k c).1 0 = sNx h0 d b T T.1 0 ++ [(k, c)] := by
  have e : adI T k c = (T.1 + 1, fun j => if j = T.1 then k else T.2.1 j, vp_updL T.2.2 T.1 c) := by
    unfold adI adT
    rw [fnd_of hk, if_neg (by omega)]
    rfl
  rw [e]
  show sNx h0 d b _ (T.1 + 1) 0 = _
  rw [sNx_ap _ 1 T.1 0]
  congr 1
  · exact sNx_cg T.1 0 (fun j _ hj => ⟨by show (if j = T.1 then k else T.2.1 j) = _; rw [if_neg (by omega)], by show vp_updL T.2.2 T.1 c j = _; rw [vp_updL_eq, if_neg (by omega)]⟩)
  · rw [Nat.zero_add]
    show (if sOv h0 d b (if T.1 = T.1 then k else T.2.1 T.1) = true then [] else [((if T.1 = T.1 then k else T.2.1 T.1), vp_updL T.2.2 T.1 c T.1)]) = _
    rw [if_pos rfl, vp_updL_eq, if_pos rfl, if_neg (by rw [ho]; decide)]
theorem sFi_ok {N : TB} (hd : dT N) (n3 : N.1 ≤ 3000) : ∀ (m i : Nat) (G : TB), i + m = N.1 → G.1 ≤ i → (∀ j, j < G.1 → ∃ j', j' < i ∧ G.2.1 j = N.2.1 j') → (∀ j, j < G.1 → sOv h0 d b (G.2.1 j) = false) →
    sNx h0 d b (sFi h0 d b N m i G) (sFi h0 d b N m i G).1 0 = sNx h0 d b G G.1 0 ++ sNx h0 d b N m i ∧ (∀ j, j < (sFi h0 d b N m i G).1 → sOv h0 d b ((sFi h0 d b N m i G).2.1 j) = false) ∧ (sFi h0 d b N m i G).1 ≤ 3000
  | 0, i, G, hi, hG, hk, ho => by
    refine ⟨?_, ho, ?_⟩
    · show _ = _ ++ []
      rw [List.append_nil]
      rfl
    · show G.1 ≤ 3000
      omega
  | m + 1, i, G, hi, hG, hk, ho => by
    unfold sFi
    by_cases h : sOv h0 d b (N.2.1 i) = true
    · rw [if_pos h]
      have := sFi_ok hd n3 m (i + 1) G (by omega) (by omega) (fun j hj => by obtain ⟨j', a1, a2⟩ := hk j hj; exact ⟨j', by omega, a2⟩) ho
      refine ⟨this.1.trans ?_, this.2⟩
      rw [show sNx h0 d b N (m + 1) i = sNx h0 d b N m (i + 1) from if_pos h]
    · rw [if_neg h]
      have hf : ∀ j, j < G.1 → G.2.1 j ≠ N.2.1 i := fun j hj e => by
        obtain ⟨j', a1, a2⟩ := hk j hj
        have := hd j' i (by omega) (by omega) (a2.symm.trans e)
        omega
      have hv : sOv h0 d b (N.2.1 i) = false := (Bool.not_eq_true _).mp h
      have e : adI G (N.2.1 i) (N.2.2 i) = (G.1 + 1, fun j => if j = G.1 then N.2.1 i else G.2.1 j, vp_updL G.2.2 G.1 (N.2.2 i)) := by
        unfold adI adT
        rw [fnd_of hf, if_neg (by omega)]
        rfl
      have := sFi_ok hd n3 m (i + 1) (adI G (N.2.1 i) (N.2.2 i)) (by omega) (by rw [e]; show G.1 + 1 ≤ i + 1; omega) (fun j hj => by
        rw [e] at hj ⊢
        have hj : j < G.1 + 1 := hj
        show ∃ j', j' < i + 1 ∧ (if j = G.1 then N.2.1 i else G.2.1 j) = N.2.1 j'
        by_cases e9 : j = G.1
        · rw [if_pos e9]; exact ⟨i, by omega, rfl⟩
        · rw [if_neg e9]
          obtain ⟨j', a1, a2⟩ := hk j (by omega)
          exact ⟨j', by omega, a2⟩) (fun j hj => by
        rw [e] at hj ⊢
        have hj : j < G.1 + 1 := hj
        show sOv h0 d b (if j = G.1 then N.2.1 i else G.2.1 j) = false
        by_cases e9 : j = G.1
        · rw [if_pos e9]; exact hv
        · rw [if_neg e9]; exact ho j (by omega))
      refine ⟨this.1.trans ?_, this.2⟩
      rw [sNx_add (by omega) hf hv, List.append_assoc]
      rw [show sNx h0 d b N (m + 1) i = (N.2.1 i, N.2.2 i) :: sNx h0 d b N m (i + 1) from if_neg h]
      rfl
/-- how many slips are left at most -/
def Bd (b : Nat) (N : TB) (c : Nat) : Prop := ∀ i, i < N.1 → cb (ib (pv (N.2.1 i).1 b)) 10 ≤ c
theorem cb_rm {f g : Nat → Bool} {p : Nat} (hp : f p = true) : ∀ n, (∀ i, i < n → g i = (f i && !decide (i = p))) → cb g n + (if p < n then 1 else 0) = cb f n
  | 0, _ => by rw [if_neg (by omega)]; rfl
  | n + 1, h => by
    have ih := cb_rm hp n (fun i hi => h i (by omega))
    have hn := h n (by omega)
    show (cb g n + (bif g n then 1 else 0)) + _ = cb f n + (bif f n then 1 else 0)
    by_cases e : n = p
    · subst e
      rw [hn, hp, decide_eq_true rfl, Bool.not_true, Bool.and_false, cond_false, cond_true, if_pos (by omega)]
      rw [if_neg (by omega)] at ih
      omega
    · rw [hn, decide_eq_false e, Bool.not_false, Bool.and_true]
      by_cases e2 : p < n
      · rw [if_pos e2] at ih
        rw [if_pos (by omega)]
        omega
      · rw [if_neg e2] at ih
        rw [if_neg (by omega)]
        omega
end tb_G
section tb_H
variable {z d ln r b : Nat} {K S F kn : Nat → Int32} {ow aw dd : Int32} {h0 : px_H} {k : KY}
/-- keys of which the bag holds persons alone -/
def V1 (z b : Nat) (k : KY) : Prop := VKy k ∧ sz z (pv k.1 b)
/-- a slip taken: what of the bag, and the key -/
theorem sTk_ok (o0 : oS h0) (hN : EN z d ln r b K S F kn ow aw dd h0) {p : Nat} (hp : p < 10) : VKy (sTk h0 d p k).2 ∧ ∀ i, i < 10 → ib (pv (sTk h0 d p k).2.1 b) i = (ib (pv k.1 b) i && !decide (i = p)) := by
  obtain ⟨u1, u2, u3, u4⟩ := unp_ok o0 k
  have hN' := EN_q hN (wm_q u3)
  obtain ⟨z9, d6, l7, r4, b2, hE, hb, -, -⟩ := hN'
  have s := SM_UP u4
  obtain ⟨h2, c1, c2, c3, c4, c5, c6, c7, c8, c9, c10⟩ := vl_takes u2 hE z9 r4 l7 d6 hp hb b2 (s.1 b b2).1 (s.1 b b2).2 s.2.1 s.2.2.1
  have e : (sTk h0 d p k).2 = kyOf h2 := by
    unfold sTk
    rw [c1]
  have s2 : SMs h2 := by
    refine ⟨fun j hj => ?_, c7, c8, fun q hq => ?_⟩
    · by_cases e : j = b
      · subst e; exact ⟨c5, c6⟩
      · rw [(c4 j e).1, (c4 j e).2]; exact s.1 j hj
    · rw [c9]
      split
      · exact s3_of (by omega)
      · exact s.2.2.2 q hq
  rw [e]
  refine ⟨VK_of s2, fun i hi => ?_⟩
  rw [← ((UP_of s2).1 b b2).1, (c10 i hi).1, (u4.1 b b2).1]
theorem V1_tk (o0 : oS h0) (hN : EN z d ln r b K S F kn ow aw dd h0) {p : Nat} (hp : p < 10) (hk : V1 z b k) : V1 z b (sTk h0 d p k).2 := by
  obtain ⟨t1, t2⟩ := sTk_ok (k := k) o0 hN hp
  refine ⟨t1, fun i hi => ?_⟩
  by_cases i9 : i < 10
  · rw [t2 i i9, hk.2 i hi, Bool.false_and]
  · exact pv_sm _ _ i (by omega)
theorem V1_op {nx : Nat} (o0 : oS h0) (hN : EN z d ln r b K S F kn ow aw dd h0) (s6 : sz z (aI h0 76 b)) (hk : kCL z nx k) : V1 z b (sOp h0 d k) := by
  obtain ⟨u1, u2, u3, u4⟩ := unp_ok o0 k
  have q := wm_q u3
  have hN' := EN_q hN q
  obtain ⟨z9, d6, l7, r4, b2, hE, hb, -, -⟩ := hN'
  have s := SM_UP u4
  have e76 : aI (unp h0 k) 76 = aI h0 76 := (q.2 76 rfl).1
  obtain ⟨h2, c1, c2, c3, c4, c5, c6, c7, c8, c9⟩ := vl_Mopens u2 hE z9 r4 l7 d6 hb b2 (u4.2.2.1.trans hk.2.2.2.1) (s.1 b b2).1 (s.1 b b2).2 (by rw [e76]; exact sz_sm z9 s6)
  have e : sOp h0 d k = kyOf h2 := by
    unfold sOp
    rw [c1]
  have s2 : SMs h2 := by
    refine ⟨fun j hj => ?_, by rw [c4]; exact sm_z, by rw [c5]; exact sm_z, fun q hq => by rw [(c3.2 90 rfl).1]; exact s.2.2.2 q hq⟩
    by_cases e : j = b
    · subst e; exact ⟨c7, c8⟩
    · rw [(c6 j e).1, (c6 j e).2]; exact s.1 j hj
  rw [e]
  refine ⟨VK_of s2, fun i hi => ?_⟩
  rw [← ((UP_of s2).1 b b2).1]
  by_cases i9 : i < 10
  · rw [(c9 i i9).1, e76, s6 i hi, (u4.1 b b2).1, (hk.2.1 b b2).1 i hi, decide_eq_false (show ¬ i < z by omega)]
    cases anewM (unp h0 k) b <;> rfl
  · exact c7 i (by omega)
/-- what draws leave: no key twice, 3000 at most, keys as they should be, fewer slips -/
theorem sDr_ok (o0 : oS h0) (hN : EN z d ln r b K S F kn ow aw dd h0) {sh : Int64} {c : Nat} (hk : V1 z b k) (hc : cb (ib (pv k.1 b)) 10 ≤ c + 1) : ∀ (m p : Nat) (x y : TB × Int64), p + m = 10 → dT x.1 → x.1.1 ≤ 3000 → pT (V1 z b) x.1 → Bd b x.1 c → sDr h0 d b k sh m p x = some y → dT y.1 ∧ y.1.1 ≤ 3000 ∧ pT (V1 z b) y.1 ∧ Bd b y.1 c
  | 0, p, x, y, _, h1, h2, h3, h4, h => by cases h; exact ⟨h1, h2, h3, h4⟩
  | m + 1, p, x, y, hm, h1, h2, h3, h4, h => by
    unfold sDr at h
    by_cases e : ib (pv k.1 b) p = true
    · rw [if_pos e] at h
      obtain ⟨B, hB, h⟩ := bd_e h
      have v := V1_tk o0 hN (show p < 10 by omega) hk
      have bd : cb (ib (pv (sTk h0 d p k).2.1 b)) 10 ≤ c := by
        have := cb_rm e 10 (g := ib (pv (sTk h0 d p k).2.1 b)) (fun i hi => (sTk_ok (k := k) o0 hN (show p < 10 by omega)).2 i hi)
        rw [if_pos (by omega)] at this
        omega
      exact sDr_ok o0 hN hk hc m (p + 1) _ y (by omega) (adT_d h1 hB) (adT_n h2 hB) (adT_p h3 v hB) (adT_p (P := fun k => cb (ib (pv k.1 b)) 10 ≤ c) h4 bd hB) h
    · rw [if_neg e] at h
      exact sDr_ok o0 hN hk hc m (p + 1) x y (by omega) h1 h2 h3 h4 h
theorem sCo_ok (o0 : oS h0) (hN : EN z d ln r b K S F kn ow aw dd h0) {N : TB} {c : Nat} (hk : pT (V1 z b) N) (hc : Bd b N (c + 1)) : ∀ (m i : Nat) (x y : TB × Int64 × Int64), i + m = N.1 → dT x.1 → x.1.1 ≤ 3000 → pT (V1 z b) x.1 → Bd b x.1 c → sCo h0 d b N m i x = some y → dT y.1 ∧ y.1.1 ≤ 3000 ∧ pT (V1 z b) y.1 ∧ Bd b y.1 c
  | 0, i, x, y, _, h1, h2, h3, h4, h => by cases h; exact ⟨h1, h2, h3, h4⟩
  | m + 1, i, x, y, hm, h1, h2, h3, h4, h => by
    unfold sCo at h
    by_cases e : sOv h0 d b (N.2.1 i) = true
    · rw [if_pos e] at h
      exact sCo_ok o0 hN hk hc m (i + 1) x y (by omega) h1 h2 h3 h4 h
    · rw [if_neg e] at h
      obtain ⟨q, hq, h⟩ := bd_e h
      obtain ⟨a1, a2, a3, a4⟩ := sDr_ok o0 hN (hk i (by omega)) (hc i (by omega)) 10 0 _ q (by omega) h1 h2 h3 h4 hq
      exact sCo_ok o0 hN hk hc m (i + 1) _ y (by omega) a1 a2 a3 a4 h
theorem sOv_0 {N : TB} (hc : Bd b N 0) {i : Nat} (hi : i < N.1) : sOv h0 d b (N.2.1 i) = true := by
  have := hc i hi
  unfold sOv
  rw [(eq0_iff (pv_sm _ _)).mpr (fun j hj => by
    cases hb : ib (pv (N.2.1 i).1 b) j with
    | false => rfl
    | true =>
      have := cb_pos (f := ib (pv (N.2.1 i).1 b)) hj hb
      omega)]
  rfl
theorem sEn_0 {N E : TB} (h : N.1 = 0) : sEn h0 d b N N.1 0 E = some E := by rw [h]; rfl
theorem sDr_ap {sh : Int64} (m2 : Nat) : ∀ (m p : Nat) (x : TB × Int64), sDr h0 d b k sh (m + m2) p x = (sDr h0 d b k sh m p x).bind fun y => sDr h0 d b k sh m2 (p + m) y
  | 0, p, x => by rw [Nat.zero_add]; rfl
  | m + 1, p, x => by
    rw [show m + 1 + m2 = (m + m2) + 1 from by omega]
    conv => lhs; unfold sDr
    conv => rhs; arg 1; unfold sDr
    by_cases e : ib (pv k.1 b) p = true
    · rw [if_pos e, if_pos e]
      cases adT x.1 (sTk h0 d p k).2 sh with
      | none => rfl
      | some B =>
        rw [Option.bind_some, Option.bind_some, sDr_ap m2 m (p + 1), show p + 1 + m = p + (m + 1) from by omega]
    · rw [if_neg e, if_neg e, sDr_ap m2 m (p + 1), show p + 1 + m = p + (m + 1) from by omega]
theorem sDr_no {sh : Int64} : ∀ (m p : Nat) (x : TB × Int64), (∀ i, p ≤ i → ib (pv k.1 b) i = false) → sDr h0 d b k sh m p x = some x
  | 0, p, x, _ => rfl
  | m + 1, p, x, h => by
    unfold sDr
    rw [if_neg (by rw [h p (Nat.le_refl p)]; decide)]
    exact sDr_no m (p + 1) x (fun i hi => h i (by omega))
theorem sDr_z {sh : Int64} {x : TB × Int64} (z9 : z ≤ 10) (hz : sz z (pv k.1 b)) : sDr h0 d b k sh 10 0 x = sDr h0 d b k sh z 0 x := by
  have e := sDr_ap (h0 := h0) (d := d) (b := b) (k := k) (sh := sh) (10 - z) z 0 x
  rw [show z + (10 - z) = 10 from by omega] at e
  rw [e]
  cases sDr h0 d b k sh z 0 x with
  | none => rfl
  | some y =>
    rw [Option.bind_some]
    exact sDr_no _ _ _ (fun i hi => hz i (by omega))
end tb_H
/-! none vanishes: a table that is not empty leaves ends -/
section tb_G1
variable {h0 : px_H} {z d ln r b : Nat} {K S F kn : Nat → Int32} {ow aw dd : Int32} {k : KY} {N : TB}
theorem adT_1 {T T' : TB} {c : Int64} (h : adT T k c = some T') : 1 ≤ T'.1 ∧ T.1 ≤ T'.1 := by
  unfold adT at h
  split at h
  · rename_i i hf
    cases h
    have := (fnd_some hf).1
    exact ⟨by show 1 ≤ T.1; omega, Nat.le_refl _⟩
  · split at h
    · cases h
    · cases h
      exact ⟨by show 1 ≤ T.1 + 1; omega, by show T.1 ≤ T.1 + 1; omega⟩
theorem adI_1 {T : TB} {c : Int64} : 1 ≤ (adI T k c).1 := by
  unfold adI
  cases h : adT T k c with
  | some T' => exact (adT_1 h).1
  | none =>
    unfold adT at h
    split at h
    · cases h
    · split at h
      · rename_i e
        show 1 ≤ T.1
        omega
      · cases h
theorem sOps_1 {E : TB} : ∀ (m i : Nat) (N : TB), (1 ≤ m ∨ 1 ≤ N.1) → 1 ≤ (sOps h0 d E m i N).1
  | 0, i, N, h => by
    rcases h with h | h
    · omega
    · exact h
  | m + 1, i, N, h => sOps_1 m (i + 1) _ (Or.inr adI_1)
theorem sEn_1 : ∀ (m i : Nat) (E E' : TB), sEn h0 d b N m i E = some E' → E.1 ≤ E'.1 ∧ ((∃ j, i ≤ j ∧ j < i + m ∧ sOv h0 d b (N.2.1 j) = true) → 1 ≤ E'.1)
  | 0, i, E, E', h => by
    cases h
    exact ⟨Nat.le_refl _, fun ⟨j, h1, h2, _⟩ => by omega⟩
  | m + 1, i, E, E', h => by
    unfold sEn at h
    by_cases e : sOv h0 d b (N.2.1 i) = true
    · rw [if_pos e] at h
      obtain ⟨E1, q, h⟩ := bd_e h
      have a := adT_1 q
      have := sEn_1 m (i + 1) E1 E' h
      exact ⟨by omega, fun _ => by omega⟩
    · rw [if_neg e] at h
      have := sEn_1 m (i + 1) E E' h
      refine ⟨this.1, fun ⟨j, h1, h2, h3⟩ => this.2 ⟨j, ?_, by omega, h3⟩⟩
      by_cases x : j = i
      · subst x
        exact absurd h3 e
      · omega
theorem sDr_1 {sh : Int64} : ∀ (m p : Nat) (x y : TB × Int64), sDr h0 d b k sh m p x = some y → x.1.1 ≤ y.1.1 ∧ ((∃ i, p ≤ i ∧ i < p + m ∧ ib (pv k.1 b) i = true) → 1 ≤ y.1.1)
  | 0, p, x, y, h => by
    cases h
    exact ⟨Nat.le_refl _, fun ⟨j, h1, h2, _⟩ => by omega⟩
  | m + 1, p, x, y, h => by
    unfold sDr at h
    by_cases e : ib (pv k.1 b) p = true
    · rw [if_pos e] at h
      obtain ⟨B, q, h⟩ := bd_e h
      have a := adT_1 q
      have := (sDr_1 m (p + 1) _ y h).1
      exact ⟨Nat.le_trans a.2 this, fun _ => Nat.le_trans a.1 this⟩
    · rw [if_neg e] at h
      have := sDr_1 m (p + 1) x y h
      refine ⟨this.1, fun ⟨j, h1, h2, h3⟩ => this.2 ⟨j, ?_, by omega, h3⟩⟩
      by_cases x : j = p
      · subst x
        exact absurd h3 e
      · omega
theorem sOv_f (h : sOv h0 d b k = false) : ∃ i, i < 10 ∧ ib (pv k.1 b) i = true := by
  unfold sOv at h
  simp only [Bool.or_eq_false_iff] at h
  refine Classical.byContradiction (fun hn => ?_)
  have : pv k.1 b = 0 := sm_ext (pv_sm _ _) sm_0 (fun i hi => by
    rw [ib_0]
    cases e : ib (pv k.1 b) i with
    | false => rfl
    | true => exact absurd ⟨i, hi, e⟩ hn)
  rw [this] at h
  exact absurd h.1 (by decide)
theorem sCo_1 : ∀ (m i : Nat) (x y : TB × Int64 × Int64), sCo h0 d b N m i x = some y → x.1.1 ≤ y.1.1 ∧ ((∃ j, i ≤ j ∧ j < i + m ∧ sOv h0 d b (N.2.1 j) = false) → 1 ≤ y.1.1)
  | 0, i, x, y, h => by
    cases h
    exact ⟨Nat.le_refl _, fun ⟨j, h1, h2, _⟩ => by omega⟩
  | m + 1, i, x, y, h => by
    unfold sCo at h
    by_cases e : sOv h0 d b (N.2.1 i) = true
    · rw [if_pos e] at h
      have := sCo_1 m (i + 1) x y h
      refine ⟨this.1, fun ⟨j, h1, h2, h3⟩ => this.2 ⟨j, ?_, by omega, h3⟩⟩
      by_cases x : j = i
      · subst x
        rw [e] at h3
        cases h3
      · omega
    · rw [if_neg e] at h
      obtain ⟨B, q, h⟩ := bd_e h
      obtain ⟨i', h1, h2⟩ := sOv_f ((Bool.not_eq_true _).mp e)
      have a := sDr_1 10 0 _ _ q
      have a2 := a.2 ⟨i', by omega, by omega, h2⟩
      have := (sCo_1 m (i + 1) _ y h).1
      exact ⟨Nat.le_trans a.1 this, fun _ => Nat.le_trans a2 this⟩
theorem cb_1 {f : Nat → Bool} {p : Nat} (hp : f p = true) (h : p < 10) : 1 ≤ cb f 10 := by
  have := cb_rm hp 10 (g := fun i => f i && !decide (i = p)) (fun _ _ => rfl)
  rw [if_pos h] at this
  omega
theorem sGo_1 (o0 : oS h0) (hN : EN z d ln r b K S F kn ow aw dd h0) : ∀ (c : Nat) (N E : TB) (dr vn : Int64) (y : TB × Int64 × Int64), pT (V1 z b) N → Bd b N c → (1 ≤ N.1 ∨ 1 ≤ E.1) → sGo h0 d b (c + 1) N E dr vn = some y → 1 ≤ y.1.1 := by
  intro c
  induction c with
  | zero =>
    intro N E dr vn y hv hb h1 h
    unfold sGo at h
    by_cases e0 : N.1 = 0
    · rw [if_pos e0] at h
      cases h
      show 1 ≤ E.1
      omega
    · rw [if_neg e0, sSw_eq] at h
      obtain ⟨y', q, h⟩ := bd_e h
      obtain ⟨E', qE, q⟩ := bd_e q
      obtain ⟨x, qC, q⟩ := bd_e q
      cases q
      cases h
      show 1 ≤ E'.1
      refine (sEn_1 _ _ _ _ qE).2 ⟨0, by omega, by omega, ?_⟩
      cases e : sOv h0 d b (N.2.1 0) with
      | true => rfl
      | false =>
        obtain ⟨i', g1, g2⟩ := sOv_f e
        have := cb_1 g2 g1
        have := hb 0 (by omega)
        omega
  | succ c ih =>
    intro N E dr vn y hv hb h1 h
    unfold sGo at h
    by_cases e0 : N.1 = 0
    · rw [if_pos e0] at h
      cases h
      show 1 ≤ E.1
      omega
    · rw [if_neg e0, sSw_eq] at h
      obtain ⟨y', q, h⟩ := bd_e h
      obtain ⟨E', qE, q⟩ := bd_e q
      obtain ⟨x, qC, q⟩ := bd_e q
      cases q
      obtain ⟨s1, s2, s3, s4⟩ := sCo_ok o0 hN hv hb N.1 0 _ x (by omega) tE_d (show tE.1 ≤ 3000 by decide) (tE_p _) (fun i hi => by cases hi) qC
      refine ih x.1 E' _ _ y s3 s4 ?_ h
      cases e : sOv h0 d b (N.2.1 0) with
      | true => exact Or.inr ((sEn_1 _ _ _ _ qE).2 ⟨0, by omega, by omega, e⟩)
      | false => exact Or.inl ((sCo_1 _ _ _ _ qC).2 ⟨0, by omega, by omega, e⟩)
end tb_G1
end mg_1

section mg_2
/-! the model: a pass -/
def ML (t : Nat) (T : TB) (h : px_H) : Prop := MT t T h ∧ MH t T h
/-- what holds of the model's heap in a pass -/
def WMW (c k : Nat) : Bool := Nat.beq c 69 && (Nat.beq k 31 || (Nat.beq k 32 || (Nat.beq k 33 || (Nat.beq k 45 || Nat.beq k 46))))
def VMW (c : Nat) : Bool := Nat.beq c 88 || (Nat.beq c 89 || (Nat.beq c 90 || (Nat.beq c 98 || V9 c)))
def MX (h0 h : px_H) : Prop := oS h ∧ fz WMW VMW h0 h
theorem z30 {i : Nat} : 0 * 3001 + i = i := by rw [Nat.zero_mul, Nat.zero_add]
theorem z30_e {f : Nat → Int64} {i : Nat} {x : Int64} (h : f (0 * 3001 + i) = x) : f i = x := by rw [z30] at h; exact h
section tb_I
variable {h h' : px_H} {z d ln r b : Nat} {K S F kn : Nat → Int32} {ow aw dd : Int32} {h0 : px_H} {k : KY}
theorem ML_fz {t : Nat} {T : TB} {W : Nat → Nat → Bool} {V : Nat → Bool} (a : fz W V h h') (v1 : V 93 = false) (v2 : V 94 = false) (v3 : V 95 = false) (v4 : V 96 = false) (v5 : V 97 = false) (hm : ML t T h) : ML t T h' := ⟨MT_fz a v1 v2 v3 v4 hm.1, MH_fz a v5 hm.2⟩
theorem ML_ot {t t' : Nat} {T : TB} (ht : t' ≠ t) (a : OT t h h') (hm : ML t' T h) : ML t' T h' := ⟨MT_ot ht a hm.1, MH_ot ht a hm.2⟩
theorem MX_q (m : MX h0 h) : fz Wq Vq h0 h := fz_q m.2 rfl rfl rfl rfl (by decide)
theorem wmw_c {c k : Nat} (e : WMW c k = false) : Nat.beq c 69 = false ∨ (Nat.beq k 31 = false ∧ Nat.beq k 32 = false ∧ Nat.beq k 33 = false) := by
  unfold WMW at e
  simp only [Bool.and_eq_false_iff, Bool.or_eq_false_iff] at e
  rcases e with e | e
  · exact Or.inl e
  · exact Or.inr ⟨e.1, e.2.1, e.2.2.1⟩
theorem vmw_c {c : Nat} (e : VMW c = false) : Nat.beq c 88 = false ∧ Nat.beq c 89 = false ∧ Nat.beq c 90 = false ∧ V9 c = false := by
  unfold VMW at e
  simp only [Bool.or_eq_false_iff] at e
  exact ⟨e.1, e.2.1, e.2.2.1, e.2.2.2.2⟩
theorem wm_w (a : fz WM VM h h') : fz WMW VMW h h' := fz_mono a (fun c k e => by
  unfold WM
  rcases wmw_c e with x | x
  · rw [x]; rfl
  · rw [x.2.1, x.2.2, Bool.or_self, Bool.and_false]) (fun c e => by
  unfold VM
  rw [(vmw_c e).1, (vmw_c e).2.1, (vmw_c e).2.2.1]
  rfl)
theorem vo_w (a : fz WM VO h h') : fz WMW VMW h h' := wm_w (fz_mono a (fun _ _ e => e) (fun c e => by
  unfold VM at e
  unfold VO
  simp only [Bool.or_eq_false_iff] at e
  rw [e.1, e.2.1]
  rfl))
theorem v9_w (a : fz W0 V9 h h') : fz WMW VMW h h' := fz_mono a (fun _ _ _ => rfl) (fun c e => (vmw_c e).2.2.2)
theorem w3_w (a : fz W3n (fun c => Nat.beq c 88) h h') : fz WMW VMW h h' := fz_mono a (fun c k e => by
  unfold W3n
  rcases wmw_c e with x | x
  · rw [x]; rfl
  · rw [x.1, x.2.1, x.2.2, Bool.or_self, Bool.or_self, Bool.and_false]) (fun c e => (vmw_c e).1)
theorem MX_m (m : MX h0 h) (o : oS h') (a : fz WMW VMW h h') : MX h0 h' := ⟨o, fz_tr m.2 a⟩
theorem MX_w {j : Nat} {v : Int64} (hj : j = 45 ∨ j = 46) (m : MX h0 h) : MX h0 (wF h 69 j (.long v)) := by
  rcases hj with rfl | rfl
  · exact ⟨oS_wL (cs := [69]) (ci := 9) rfl List.mem_cons_self m.1, fz_tr m.2 (fz_wF rfl)⟩
  · exact ⟨oS_wL (cs := [69]) (ci := 9) rfl List.mem_cons_self m.1, fz_tr m.2 (fz_wF rfl)⟩
theorem ML_w {t j : Nat} {v : Int64} {T : TB} (hm : ML t T h) : ML t T (wF h 69 j (.long v)) := ML_fz (W := fun _ _ => true) (V := V0) (fz_wF rfl) rfl rfl rfl rfl rfl hm
theorem MT_w {t j : Nat} {v : Int64} {T : TB} (hm : MT t T h) : MT t T (wF h 69 j (.long v)) := MT_fz (W := fun _ _ => true) (V := V0) (fz_wF rfl) rfl rfl rfl rfl hm
theorem ky_w {j : Nat} {v : Int64} (h1 : j ≠ 32) (h2 : j ≠ 33) : kyOf (wF h 69 j (.long v)) = kyOf h := ky_cg (fun _ _ => ⟨by rw [aI_wF], by rw [aI_wF]⟩) (gI_wF_ne (fun e => h1 e.2.symm)) (gI_wF_ne (fun e => h2 e.2.symm)) (fun _ _ => by rw [aI_wF])
/-- all slips of an entry -/
theorem md_L {G E : TB} {i : Nat} {c : Int64} (o0 : oS h0) (hN : EN z d ln r b K S F kn ow aw dd h0) (hi : i < G.1) (n64 : decide ((nm_bc (pv (G.2.1 i).1 b)).toInt64 = 0) = false) : ∀ (m p N' : Nat) (h : px_H) (B : TB) (vn : Int64), p + m = z → m < N' → MX h0 h → MT 0 G h → ML 1 B h → ML 2 E h → dT B → gL h 69 46 = vn →
    ∃ h', fn_M_drawsFrom_L48 (Int32.ofNat i) (Int32.ofNat d) (pv (G.2.1 i).1 b) (nm_bc (pv (G.2.1 i).1 b)) c N' (Int32.ofNat p) h = some (b01 (sDr h0 d b (G.2.1 i) (shr (G.2.1 i) b c) m p (B, vn)).isSome, h') ∧ MX h0 h' ∧ gL h' 69 45 = gL h 69 45 ∧ MT 0 G h' ∧ ML 2 E h' ∧ ∃ Bx, ML 1 Bx h' ∧ ∀ y, sDr h0 d b (G.2.1 i) (shr (G.2.1 i) b c) m p (B, vn) = some y → Bx = y.1 ∧ gL h' 69 46 = y.2 ∧ dT y.1 := by
  have z9 := hN.1
  intro m
  induction m with
  | zero =>
    intro p N' h B vn hm hN' mx g0 g1 g2 hd hv
    obtain ⟨N', rfl⟩ : ∃ k, N' = k + 1 := ⟨N' - 1, by omega⟩
    have : p = z := by omega
    subst this
    have e3 : gI h 69 3 = Int32.ofNat p := (EN_q hN (MX_q mx)).2.2.2.2.2.1.1
    refine ⟨h, ?_, mx, rfl, g0, g2, B, g1, fun y hy => by cases hy; exact ⟨rfl, hv, hd⟩⟩
    show fb_M_drawsFrom_L48 (Int32.ofNat i) (Int32.ofNat d) (pv (G.2.1 i).1 b) (nm_bc (pv (G.2.1 i).1 b)) c (fn_M_drawsFrom_L48 (Int32.ofNat i) (Int32.ofNat d) (pv (G.2.1 i).1 b) (nm_bc (pv (G.2.1 i).1 b)) c N') (Int32.ofNat p) h = _
    unfold fb_M_drawsFrom_L48
    rw [e3, ge_t, cond_true]
    rfl
  | succ m ih =>
    intro p N' h B vn hm hN' mx g0 g1 g2 hd hv
    obtain ⟨N', rfl⟩ : ∃ k, N' = k + 1 := ⟨N' - 1, by omega⟩
    have p10 : p < 10 := by omega
    have e3 : gI h 69 3 = Int32.ofNat z := (EN_q hN (MX_q mx)).2.2.2.2.2.1.1
    show ∃ h', fb_M_drawsFrom_L48 (Int32.ofNat i) (Int32.ofNat d) (pv (G.2.1 i).1 b) (nm_bc (pv (G.2.1 i).1 b)) c (fn_M_drawsFrom_L48 (Int32.ofNat i) (Int32.ofNat d) (pv (G.2.1 i).1 b) (nm_bc (pv (G.2.1 i).1 b)) c N') (Int32.ofNat p) h = _ ∧ _
    unfold fb_M_drawsFrom_L48
    rw [e3, ge_f (show p < z by omega) (by omega), cond_false, has_ne _ (show p < 32 by omega), inc1]
    unfold sDr
    cases hin : ib (pv (G.2.1 i).1 b) p with
    | false =>
      rw [cond_false, if_neg (by decide)]
      exact ih (p + 1) N' h B vn (by omega) (by omega) mx g0 g1 g2 hd hv
    | true =>
      rw [cond_true, if_pos rfl]
      obtain ⟨h1, l1, l2, l3, l4⟩ := mo_look (by omega) mx.1 g0 hi
      have mx1 := MX_m mx l2 (wm_w l3)
      obtain ⟨h2, t1, t2, t3, t4⟩ := mo_take o0 l2 hN (MX_q mx1) l4 p10
      have mx2 := MX_m mx1 t2 (wm_w t3)
      have f2 := fz_tr l3 t3
      have e0 : Int32.ofInt 0 = Int32.ofNat 0 := rfl
      rw [← e0] at l1
      rw [l1, Option.bind_some, t1, Option.bind_some, cmp_b01, n64, cond_false]
      simp only [cond_false]
      have v1 : gL h1 69 46 = vn := (fz_gL l3 rfl).trans hv
      -- the addition
      have add : ∀ (h3 : px_H) (vn' : Int64), MX h0 h3 → MT 0 G h3 → ML 1 B h3 → ML 2 E h3 → gL h3 69 46 = vn' → gL h3 69 45 = gL h 69 45 → kyOf h3 = (sTk h0 d p (G.2.1 i)).2 →
          ∃ h', ((fn_M_adds (Int32.ofInt 1) (c / (nm_bc (pv (G.2.1 i).1 b)).toInt64) h3).bind fun q25 => bif px_cmp .ne q25.1 0 then fn_M_drawsFrom_L48 (Int32.ofNat i) (Int32.ofNat d) (pv (G.2.1 i).1 b) (nm_bc (pv (G.2.1 i).1 b)) c N' (Int32.ofNat (p + 1)) q25.2 else some ((Int32.ofInt 0), q25.2)) = some (b01 ((adT B (sTk h0 d p (G.2.1 i)).2 (shr (G.2.1 i) b c)).bind fun B => sDr h0 d b (G.2.1 i) (shr (G.2.1 i) b c) m (p + 1) (B, vn')).isSome, h') ∧ MX h0 h' ∧ gL h' 69 45 = gL h 69 45 ∧ MT 0 G h' ∧ ML 2 E h' ∧ ∃ Bx, ML 1 Bx h' ∧ ∀ y, ((adT B (sTk h0 d p (G.2.1 i)).2 (shr (G.2.1 i) b c)).bind fun B => sDr h0 d b (G.2.1 i) (shr (G.2.1 i) b c) m (p + 1) (B, vn')) = some y → Bx = y.1 ∧ gL h' 69 46 = y.2 ∧ dT y.1 := by
        intro h3 vn' mx3 k0 k1 k2 v3 d3 ky
        obtain ⟨h4, a1, a2, a3, a4, a5, a6⟩ := cm_add (t := 1) (c := c / (nm_bc (pv (G.2.1 i).1 b)).toInt64) (by omega) mx3.1 k1.1 k1.2 hd
        have a1 : fn_M_adds (Int32.ofInt 1) (c / (nm_bc (pv (G.2.1 i).1 b)).toInt64) h3 = some (b01 (adT B (kyOf h3) (c / (nm_bc (pv (G.2.1 i).1 b)).toInt64)).isSome, h4) := a1
        rw [a1, Option.bind_some]
        simp only [cmp_b01n]
        rw [ky] at a4 a5 ⊢
        have mx4 := MX_m mx3 a2 (v9_w a3)
        have k0' := MT_ot (t' := 0) (by omega) a6 k0
        have k2' := ML_ot (t' := 2) (by omega) a6 k2
        show ∃ h', (bif (adT B (sTk h0 d p (G.2.1 i)).2 (shr (G.2.1 i) b c)).isSome then _ else _) = _ ∧ _
        cases hA : adT B (sTk h0 d p (G.2.1 i)).2 (shr (G.2.1 i) b c) with
        | none => exact ⟨h4, rfl, mx4, (fz_gL a3 rfl).trans d3, k0', k2', _, ⟨a4, a5⟩, fun y hy => by cases hy⟩
        | some B' =>
          have eB : adI B (sTk h0 d p (G.2.1 i)).2 (c / (nm_bc (pv (G.2.1 i).1 b)).toInt64) = B' := by
            unfold adI
            rw [show adT B (sTk h0 d p (G.2.1 i)).2 (c / (nm_bc (pv (G.2.1 i).1 b)).toInt64) = some B' from hA]
            rfl
          rw [eB] at a4 a5
          obtain ⟨h', b1, b2, b3, b4, b5, Bx, b6, b7⟩ := ih (p + 1) N' h4 B' vn' (by omega) (by omega) mx4 k0' ⟨a4, a5⟩ k2' (adT_d hd hA) ((fz_gL a3 rfl).trans v3)
          exact ⟨h', b1, b2, b3.trans ((fz_gL a3 rfl).trans d3), b4, b5, Bx, b6, b7⟩
      have g02 := MT_fz f2 rfl rfl rfl rfl g0
      have g12 := ML_fz f2 rfl rfl rfl rfl rfl g1
      have g22 := ML_fz f2 rfl rfl rfl rfl rfl g2
      have d2 : gL h2 69 45 = gL h 69 45 := fz_gL f2 rfl
      cases ht : (sTk h0 d p (G.2.1 i)).1 with
      | true =>
        rw [Bool.not_true, cond_false, sb_i, v1, show vn + Int64.ofNat 0 = vn from Int64.add_zero vn]
        exact add _ vn (MX_w (Or.inr rfl) mx2) (MT_w g02) (ML_w g12) (ML_w g22) (gL_wF (cs := [69]) (ci := 9) rfl List.mem_cons_self t2) ((gL_wF_ne (by decide)).trans d2) ((ky_w (by decide) (by decide)).trans t4)
      | false =>
        rw [Bool.not_false, cond_true, sb_i, v1]
        exact add _ (vn + shr (G.2.1 i) b c) (MX_w (Or.inr rfl) mx2) (MT_w g02) (ML_w g12) (ML_w g22) (gL_wF (cs := [69]) (ci := 9) rfl List.mem_cons_self t2) ((gL_wF_ne (by decide)).trans d2) ((ky_w (by decide) (by decide)).trans t4)
theorem md_ok {G E B : TB} {i : Nat} {dr vn : Int64} (o0 : oS h0) (hN : EN z d ln r b K S F kn ow aw dd h0) (hi : i < G.1) (hk : V1 z b (G.2.1 i)) (hov : sOv h0 d b (G.2.1 i) = false) (mx : MX h0 h) (g0 : MT 0 G h) (g1 : ML 1 B h) (g2 : ML 2 E h) (hd : dT B) (h45 : gL h 69 45 = dr) (h46 : gL h 69 46 = vn) :
    ∃ h', fn_M_drawsFrom (Int32.ofNat i) (Int32.ofNat d) h = some (b01 (sDr h0 d b (G.2.1 i) (shr (G.2.1 i) b (G.2.2 i)) 10 0 (B, vn)).isSome, h') ∧ MX h0 h' ∧ gL h' 69 45 = dr + G.2.2 i ∧ MT 0 G h' ∧ ML 2 E h' ∧ ∃ Bx, ML 1 Bx h' ∧ ∀ y, sDr h0 d b (G.2.1 i) (shr (G.2.1 i) b (G.2.2 i)) 10 0 (B, vn) = some y → Bx = y.1 ∧ gL h' 69 46 = y.2 ∧ dT y.1 := by
  obtain ⟨h1, l1, l2, l3, l4⟩ := mo_look (by omega) mx.1 g0 hi
  have mx1 := MX_m mx l2 (wm_w l3)
  have hN1 := EN_q hN (MX_q mx1)
  obtain ⟨z9, d6, l7, r4, b2, hE, hb, -, -⟩ := hN1
  have ne0 : px_cmp .eq (pv (G.2.1 i).1 b) 0 = false := by
    unfold sOv at hov
    simp only [Bool.or_eq_false_iff] at hov
    exact hov.1
  have n3 := g0.2.1
  have e0 : Int32.ofInt 0 = Int32.ofNat 0 := rfl
  have ea : Int32.ofInt 0 + Int32.ofNat i = Int32.ofNat i := Int32.zero_add _
  have c5 : aL h1 95 i = G.2.2 i := by
    have := (g0.2.2 i hi).2.2
    rw [show 0 * 3001 + i = i from by omega] at this
    rw [(l3.2 95 rfl).2]
    exact this
  unfold fn_M_drawsFrom
  rw [ea, e0, l1, Option.bind_some, nm_inR d 6 d6 (by omega), cond_true, nm_ofNat_clamp d (by omega), hb, nm_inR b 2 b2 (by omega), cond_true, nm_ofNat_clamp b (by omega), (l4.1 b b2).1, nm_inR i 9003 (by omega) (by omega), cond_true, nm_ofNat_clamp i (by omega), c5, (fz_gL l3 rfl).trans h45, sb_i, sDr_z z9 hk.2]
  obtain ⟨h', b1, b2', b3, b4, b5, Bx, b6, b7⟩ := md_L (c := G.2.2 i) o0 hN hi (bc_64 (pv_sm _ _) ne0).2 z 0 fu (wF h1 69 45 (.long (dr + G.2.2 i))) B vn (by omega) (fu_lt (by omega)) (MX_w (Or.inl rfl) mx1) (MT_w (MT_fz l3 rfl rfl rfl rfl g0)) (ML_w (ML_fz l3 rfl rfl rfl rfl rfl g1)) (ML_w (ML_fz l3 rfl rfl rfl rfl rfl g2)) hd ((gL_wF_ne (by decide)).trans ((fz_gL l3 rfl).trans h46))
  exact ⟨h', b1, b2', b3.trans (gL_wF (cs := [69]) (ci := 9) rfl List.mem_cons_self l2), b4, b5, Bx, b6, b7⟩
/-- those over end; of the others, behind a draw, a table is made -/
theorem mp0_L {N : TB} (o0 : oS h0) (hN : EN z d ln r b K S F kn ow aw dd h0) : ∀ (m i N' : Nat) (h : px_H) (E : TB), i + m = N.1 → m < N' → MX h0 h → MT 0 N h → ML 2 E h → dT E →
    ∃ h', fn_M_parts_L12 (Int32.ofInt 0) (Int32.ofNat d) N' (Int32.ofNat i) h = some (b01 (sEn h0 d b N m i E).isSome, h') ∧ MX h0 h' ∧ MT 0 N h' ∧ gL h' 69 45 = gL h 69 45 ∧ gL h' 69 46 = gL h 69 46 ∧ ∃ Ex, ML 2 Ex h' ∧ ∀ y, sEn h0 d b N m i E = some y → Ex = y ∧ dT y := by
  have e0 : Int32.ofInt 0 = Int32.ofNat 0 := rfl
  intro m
  induction m with
  | zero =>
    intro i N' h E hm hN' mx g0 g2 hd
    obtain ⟨N', rfl⟩ : ∃ k, N' = k + 1 := ⟨N' - 1, by omega⟩
    have : i = N.1 := by omega
    subst this
    refine ⟨h, ?_, mx, g0, rfl, rfl, E, g2, fun y hy => by cases hy; exact ⟨rfl, hd⟩⟩
    show fb_M_parts_L12 (Int32.ofInt 0) (Int32.ofNat d) (fn_M_parts_L12 (Int32.ofInt 0) (Int32.ofNat d) N') (Int32.ofNat N.1) h = _
    unfold fb_M_parts_L12
    rw [e0, nm_inR 0 3 (by omega) (by omega), cond_true, nm_ofNat_clamp 0 (by omega), g0.1, ge_t, cond_true]
    rfl
  | succ m ih =>
    intro i N' h E hm hN' mx g0 g2 hd
    obtain ⟨N', rfl⟩ : ∃ k, N' = k + 1 := ⟨N' - 1, by omega⟩
    have hi : i < N.1 := by omega
    have n3 := g0.2.1
    obtain ⟨h1, l1, l2, l3, l4⟩ := mo_look (by omega) mx.1 g0 hi
    have mx1 := MX_m mx l2 (wm_w l3)
    have g01 := MT_fz l3 rfl rfl rfl rfl g0
    have g21 := ML_fz l3 rfl rfl rfl rfl rfl g2
    show ∃ h', fb_M_parts_L12 (Int32.ofInt 0) (Int32.ofNat d) (fn_M_parts_L12 (Int32.ofInt 0) (Int32.ofNat d) N') (Int32.ofNat i) h = _ ∧ _
    unfold fb_M_parts_L12 sEn
    rw [e0, nm_inR 0 3 (by omega) (by omega), cond_true, nm_ofNat_clamp 0 (by omega), g0.1, ge_f hi (by omega), cond_false, l1, Option.bind_some, mo_over l2 hN (MX_q mx1) l4, Option.bind_some, cmp_b01]
    cases hov : sOv h0 d b (N.2.1 i) with
    | false =>
      rw [Bool.not_false, cond_true, if_neg (by decide), show px_cmp .ne (Int32.ofNat 0) (Int32.ofInt 1) = true from by decide, cond_true, inc1]
      obtain ⟨h', b1, b2, b3, b4, b5, b6⟩ := ih (i + 1) N' h1 E (by omega) (by omega) mx1 g01 g21 hd
      exact ⟨h', b1, b2, b3, b4.trans (fz_gL l3 rfl), b5.trans (fz_gL l3 rfl), b6⟩
    | true =>
      rw [Bool.not_true, cond_false, if_pos rfl]
      obtain ⟨h2, c1, c2, c3, c4⟩ := mo_close o0 l2 hN (MX_q mx1) l4
      have mx2 := MX_m mx1 c2 (w3_w c3)
      have g02 := MT_fz c3 rfl rfl rfl rfl g01
      have g22 := ML_fz c3 rfl rfl rfl rfl rfl g21
      obtain ⟨h3, a1, a2, a3, a4, a5, a6⟩ := cm_add (t := 2) (c := N.2.2 i) (by omega) c2 g22.1 g22.2 hd
      have a1 : fn_M_adds (Int32.ofInt 2) (N.2.2 i) h2 = some (b01 (adT E (kyOf h2) (N.2.2 i)).isSome, h3) := a1
      rw [c1, Option.bind_some, nm_th_idx, z30, nm_inR i 9003 (by omega) (by omega), cond_true, nm_ofNat_clamp i (by omega), z30_e (g02.2.2 i hi).2.2, a1, Option.bind_some]
      simp only [cmp_b01n]
      rw [c4] at a4 a5 ⊢
      have mx3 := MX_m mx2 a2 (v9_w a3)
      have g03 := MT_ot (t' := 0) (by omega) a6 g02
      have w45 : gL h3 69 45 = gL h 69 45 := (fz_gL a3 rfl).trans ((fz_gL c3 rfl).trans (fz_gL l3 rfl))
      have w46 : gL h3 69 46 = gL h 69 46 := (fz_gL a3 rfl).trans ((fz_gL c3 rfl).trans (fz_gL l3 rfl))
      cases hA : adT E (sCl h0 d (N.2.1 i)) (N.2.2 i) with
      | none => exact ⟨h3, rfl, mx3, g03, w45, w46, _, ⟨a4, a5⟩, fun y hy => by cases hy⟩
      | some E' =>
        have eE : adI E (sCl h0 d (N.2.1 i)) (N.2.2 i) = E' := by unfold adI; rw [hA]; rfl
        rw [eE] at a4 a5
        show ∃ h', fn_M_parts_L12 (Int32.ofNat 0) (Int32.ofNat d) N' (Int32.ofNat i + Int32.ofInt 1) h3 = _ ∧ _
        rw [inc1]
        obtain ⟨h', b1, b2, b3, b4, b5, b6⟩ := ih (i + 1) N' h3 E' (by omega) (by omega) mx3 g03 ⟨a4, a5⟩ (adT_d hd hA)
        exact ⟨h', b1, b2, b3, b4.trans w45, b5.trans w46, b6⟩
theorem mp1_L {N : TB} (o0 : oS h0) (hN : EN z d ln r b K S F kn ow aw dd h0) (hv : pT (V1 z b) N) : ∀ (m i N' : Nat) (h : px_H) (G E : TB), i + m = N.1 → m < N' → MX h0 h → MT 1 N h → ML 0 G h → ML 2 E h → dT G → dT E →
    ∃ h', fn_M_parts_L12 (Int32.ofInt 1) (Int32.ofNat d) N' (Int32.ofNat i) h = some (b01 (sEn h0 d b N m i E).isSome, h') ∧ MX h0 h' ∧ gL h' 69 45 = gL h 69 45 ∧ gL h' 69 46 = gL h 69 46 ∧ ∃ Gx Ex, ML 0 Gx h' ∧ ML 2 Ex h' ∧ ∀ y, sEn h0 d b N m i E = some y → Ex = y ∧ dT y ∧ Gx = sFi h0 d b N m i G := by
  have e1 : Int32.ofInt 1 = Int32.ofNat 1 := rfl
  intro m
  induction m with
  | zero =>
    intro i N' h G E hm hN' mx g1 g0 g2 hg hd
    obtain ⟨N', rfl⟩ : ∃ k, N' = k + 1 := ⟨N' - 1, by omega⟩
    have : i = N.1 := by omega
    subst this
    refine ⟨h, ?_, mx, rfl, rfl, G, E, g0, g2, fun y hy => by cases hy; exact ⟨rfl, hd, rfl⟩⟩
    show fb_M_parts_L12 (Int32.ofInt 1) (Int32.ofNat d) (fn_M_parts_L12 (Int32.ofInt 1) (Int32.ofNat d) N') (Int32.ofNat N.1) h = _
    unfold fb_M_parts_L12
    rw [e1, nm_inR 1 3 (by omega) (by omega), cond_true, nm_ofNat_clamp 1 (by omega), g1.1, ge_t, cond_true]
    rfl
  | succ m ih =>
    intro i N' h G E hm hN' mx g1 g0 g2 hg hd
    obtain ⟨N', rfl⟩ : ∃ k, N' = k + 1 := ⟨N' - 1, by omega⟩
    have hi : i < N.1 := by omega
    have n3 := g1.2.1
    obtain ⟨h1, l1, l2, l3, l4⟩ := mo_look (by omega) mx.1 g1 hi
    have mx1 := MX_m mx l2 (wm_w l3)
    have g11 := MT_fz l3 rfl rfl rfl rfl g1
    have g01 := ML_fz l3 rfl rfl rfl rfl rfl g0
    have g21 := ML_fz l3 rfl rfl rfl rfl rfl g2
    show ∃ h', fb_M_parts_L12 (Int32.ofInt 1) (Int32.ofNat d) (fn_M_parts_L12 (Int32.ofInt 1) (Int32.ofNat d) N') (Int32.ofNat i) h = _ ∧ _
    unfold fb_M_parts_L12 sEn sFi
    rw [e1, nm_inR 1 3 (by omega) (by omega), cond_true, nm_ofNat_clamp 1 (by omega), g1.1, ge_f hi (by omega), cond_false, l1, Option.bind_some, mo_over l2 hN (MX_q mx1) l4, Option.bind_some, cmp_b01]
    cases hov : sOv h0 d b (N.2.1 i) with
    | false =>
      have ky := ky_UP l4 (hv i hi).1
      obtain ⟨h3, a1, a2, a3, a4, a5, a6⟩ := cm_add (t := 0) (c := N.2.2 i) (by omega) l2 g01.1 g01.2 hg
      have a1 : fn_M_adds (Int32.ofInt 0) (N.2.2 i) h1 = some (b01 (adT G (kyOf h1) (N.2.2 i)).isSome, h3) := a1
      rw [Bool.not_false, cond_true, if_neg (by decide), if_neg (by decide), show px_cmp .ne (Int32.ofNat 1) (Int32.ofNat 1) = false from by decide, cond_false, nm_th_idx, nm_inR _ 9003 (show 1 * 3001 + i < 9003 by omega) (by omega), cond_true, nm_ofNat_clamp _ (show 1 * 3001 + i < 2147483648 by omega), (g11.2.2 i hi).2.2, a1, Option.bind_some]
      rw [ky] at a4 a5
      have mx3 := MX_m mx1 a2 (v9_w a3)
      show ∃ h', fn_M_parts_L12 (Int32.ofNat 1) (Int32.ofNat d) N' (Int32.ofNat i + Int32.ofInt 1) h3 = _ ∧ _
      rw [inc1]
      obtain ⟨h', b1, b2, b4, b5, b6⟩ := ih (i + 1) N' h3 (adI G (N.2.1 i) (N.2.2 i)) E (by omega) (by omega) mx3 (MT_ot (t' := 1) (by omega) a6 g11) ⟨a4, a5⟩ (ML_ot (t' := 2) (by omega) a6 g21) (adI_d hg) hd
      exact ⟨h', b1, b2, b4.trans ((fz_gL a3 rfl).trans (fz_gL l3 rfl)), b5.trans ((fz_gL a3 rfl).trans (fz_gL l3 rfl)), b6⟩
    | true =>
      rw [Bool.not_true, cond_false, if_pos rfl, if_pos rfl]
      obtain ⟨h2, c1, c2, c3, c4⟩ := mo_close o0 l2 hN (MX_q mx1) l4
      have mx2 := MX_m mx1 c2 (w3_w c3)
      have g12 := MT_fz c3 rfl rfl rfl rfl g11
      have g02 := ML_fz c3 rfl rfl rfl rfl rfl g01
      have g22 := ML_fz c3 rfl rfl rfl rfl rfl g21
      obtain ⟨h3, a1, a2, a3, a4, a5, a6⟩ := cm_add (t := 2) (c := N.2.2 i) (by omega) c2 g22.1 g22.2 hd
      have a1 : fn_M_adds (Int32.ofInt 2) (N.2.2 i) h2 = some (b01 (adT E (kyOf h2) (N.2.2 i)).isSome, h3) := a1
      rw [c1, Option.bind_some, nm_th_idx, nm_inR _ 9003 (show 1 * 3001 + i < 9003 by omega) (by omega), cond_true, nm_ofNat_clamp _ (show 1 * 3001 + i < 2147483648 by omega), (g12.2.2 i hi).2.2, a1, Option.bind_some]
      simp only [cmp_b01n]
      rw [c4] at a4 a5 ⊢
      have mx3 := MX_m mx2 a2 (v9_w a3)
      have g13 := MT_ot (t' := 1) (by omega) a6 g12
      have g03 := ML_ot (t' := 0) (by omega) a6 g02
      have w45 : gL h3 69 45 = gL h 69 45 := (fz_gL a3 rfl).trans ((fz_gL c3 rfl).trans (fz_gL l3 rfl))
      have w46 : gL h3 69 46 = gL h 69 46 := (fz_gL a3 rfl).trans ((fz_gL c3 rfl).trans (fz_gL l3 rfl))
      cases hA : adT E (sCl h0 d (N.2.1 i)) (N.2.2 i) with
      | none => exact ⟨h3, rfl, mx3, w45, w46, G, _, g03, ⟨a4, a5⟩, fun y hy => by cases hy⟩
      | some E' =>
        have eE : adI E (sCl h0 d (N.2.1 i)) (N.2.2 i) = E' := by unfold adI; rw [hA]; rfl
        rw [eE] at a4 a5
        show ∃ h', fn_M_parts_L12 (Int32.ofNat 1) (Int32.ofNat d) N' (Int32.ofNat i + Int32.ofInt 1) h3 = _ ∧ _
        rw [inc1]
        obtain ⟨h', b1, b2, b4, b5, b6⟩ := ih (i + 1) N' h3 G E' (by omega) (by omega) mx3 g13 g03 ⟨a4, a5⟩ hg (adT_d hd hA)
        exact ⟨h', b1, b2, b4.trans w45, b5.trans w46, b6⟩
end tb_I
end mg_2

section mg_3
/-! the model goes through a drawing -/
section tb_J
variable {h h' : px_H} {z d ln r b : Nat} {K S F kn : Nat → Int32} {ow aw dd : Int32} {h0 : px_H} {k : KY}
/-- a layer of draws -/
theorem mc_L {G E : TB} {kc : Int32 → px_H → Option (Int32 × px_H)} (o0 : oS h0) (hN : EN z d ln r b K S F kn ow aw dd h0) (hv : pT (V1 z b) G) : ∀ (m i N' : Nat) (h : px_H) (B : TB) (dr vn : Int64) (mo : Bool), i + m = G.1 → m < N' → MX h0 h → MT 0 G h → ML 1 B h → ML 2 E h → dT B → gL h 69 45 = dr → gL h 69 46 = vn →
    ∃ h', MX h0 h' ∧ MT 0 G h' ∧ ML 2 E h' ∧ (∃ Bx, ML 1 Bx h' ∧ ∀ y, sCo h0 d b G m i (B, dr, vn) = some y → Bx = y.1 ∧ dT y.1 ∧ gL h' 69 45 = y.2.1 ∧ gL h' 69 46 = y.2.2) ∧
      fn_M_goesThrough_L46 (Int32.ofNat d) kc N' (b01 mo) (Int32.ofNat i) h = (if (sCo h0 d b G m i (B, dr, vn)).isSome = true then (bif !(mo || sMr h0 d b G m i) then kc (Int32.ofInt 0) h' else (fn_M_parts (Int32.ofInt 1) (Int32.ofNat d) h').bind fun q29 => bif px_cmp .ne q29.1 0 then kc (Int32.ofInt 1) q29.2 else some ((Int32.ofInt 0), q29.2)) else some (Int32.ofInt 0, h')) := by
  have e0 : Int32.ofInt 0 = Int32.ofNat 0 := rfl
  intro m
  induction m with
  | zero =>
    intro i N' h B dr vn mo hm hN' mx g0 g1 g2 hd h45 h46
    obtain ⟨N', rfl⟩ : ∃ k, N' = k + 1 := ⟨N' - 1, by omega⟩
    have : i = G.1 := by omega
    subst this
    refine ⟨h, mx, g0, g2, ⟨B, g1, fun y hy => by cases hy; exact ⟨rfl, hd, h45, h46⟩⟩, ?_⟩
    show fb_M_goesThrough_L46 (Int32.ofNat d) kc (fn_M_goesThrough_L46 (Int32.ofNat d) kc N') (b01 mo) (Int32.ofNat G.1) h = _
    unfold fb_M_goesThrough_L46
    rw [if_pos (show (sCo h0 d b G 0 G.1 (B, dr, vn)).isSome = true from rfl), show (Int32.ofInt 0).toNatClampNeg = 0 from rfl, g0.1, ge_t, cond_true, cmp_b01, show sMr h0 d b G 0 G.1 = false from rfl, Bool.or_false]
    cases mo <;> rfl
  | succ m ih =>
    intro i N' h B dr vn mo hm hN' mx g0 g1 g2 hd h45 h46
    obtain ⟨N', rfl⟩ : ∃ k, N' = k + 1 := ⟨N' - 1, by omega⟩
    have hi : i < G.1 := by omega
    have n3 := g0.2.1
    obtain ⟨h1, l1, l2, l3, l4⟩ := mo_look (by omega) mx.1 g0 hi
    have mx1 := MX_m mx l2 (wm_w l3)
    have g01 := MT_fz l3 rfl rfl rfl rfl g0
    have g11 := ML_fz l3 rfl rfl rfl rfl rfl g1
    have g21 := ML_fz l3 rfl rfl rfl rfl rfl g2
    have w45 : gL h1 69 45 = dr := (fz_gL l3 rfl).trans h45
    have w46 : gL h1 69 46 = vn := (fz_gL l3 rfl).trans h46
    show ∃ h', _ ∧ _ ∧ _ ∧ _ ∧ fb_M_goesThrough_L46 (Int32.ofNat d) kc (fn_M_goesThrough_L46 (Int32.ofNat d) kc N') (b01 mo) (Int32.ofNat i) h = _
    unfold fb_M_goesThrough_L46 sCo sMr
    rw [show (Int32.ofInt 0).toNatClampNeg = 0 from rfl, g0.1, ge_f hi (by omega), cond_false]
    rw [show fn_M_looksAt (Int32.ofInt 0) (Int32.ofNat i) h = some h1 from l1, Option.bind_some, mo_over l2 hN (MX_q mx1) l4, Option.bind_some, cmp_b01n, inc1]
    cases hov : sOv h0 d b (G.2.1 i) with
    | true =>
      rw [cond_true, if_pos rfl, Bool.not_true, Bool.false_or]
      exact ih (i + 1) N' h1 B dr vn mo (by omega) (by omega) mx1 g01 g11 g21 hd w45 w46
    | false =>
      rw [cond_false, if_neg (by decide), Bool.not_false, Bool.true_or, Bool.or_true]
      obtain ⟨h2, b1, b2, b3, b4, b5, Bx, b6, b7⟩ := md_ok o0 hN hi (hv i hi) hov mx1 g01 g11 g21 hd w45 w46
      rw [b1, Option.bind_some]
      simp only [cmp_b01n]
      cases hD : sDr h0 d b (G.2.1 i) (shr (G.2.1 i) b (G.2.2 i)) 10 0 (B, vn) with
      | none =>
        refine ⟨h2, b2, b4, b5, ⟨Bx, b6, fun y hy => by cases hy⟩, ?_⟩
        rfl
      | some y =>
        obtain ⟨y1, y2, y3⟩ := b7 y hD
        subst y1
        have := ih (i + 1) N' h2 y.1 (dr + G.2.2 i) y.2 true (by omega) (by omega) b2 b4 b6 b5 y3 b3 y2
        obtain ⟨h', c1, c2, c3, c4, c5⟩ := this
        refine ⟨h', c1, c2, c3, ?_, ?_⟩
        · exact c4
        · have c5 : fn_M_goesThrough_L46 (Int32.ofNat d) kc N' (Int32.ofInt 1) (Int32.ofNat (i + 1)) h2 = _ := c5
          rw [Bool.true_or] at c5
          show (bif true then fn_M_goesThrough_L46 (Int32.ofNat d) kc N' (Int32.ofInt 1) (Int32.ofNat (i + 1)) h2 else some (Int32.ofInt 0, h2)) = _
          rw [cond_true, c5]
          rfl
/-- layer by layer -/
theorem mw_L (o0 : oS h0) (hN : EN z d ln r b K S F kn ow aw dd h0) : ∀ (c N' : Nat) (h : px_H) (N G E E' : TB) (dr vn : Int64), c + 1 < N' → dT N → N.1 ≤ 3000 → pT (V1 z b) N → Bd b N c → pT (V1 z b) G → sNx h0 d b G G.1 0 = sNx h0 d b N N.1 0 → sEn h0 d b N N.1 0 E = some E' → dT E' → MX h0 h → MT 0 G h → ML 2 E' h → gL h 69 45 = dr → gL h 69 46 = vn →
    ∃ h', fn_M_goesThrough_L33 (Int32.ofNat d) N' (Int32.ofInt 1) h = some (b01 (sGo h0 d b (c + 1) N E dr vn).isSome, h') ∧ MX h0 h' ∧ ∃ Ex, ML 2 Ex h' ∧ ∀ y, sGo h0 d b (c + 1) N E dr vn = some y → Ex = y.1 ∧ dT y.1 ∧ gL h' 69 45 = y.2.1 ∧ gL h' 69 46 = y.2.2 := by
  intro c
  induction c with
  | zero =>
    intro N' h N G E E' dr vn hf hd n3 hv hb hvG hg he hdE mx g0 g2 h45 h46
    obtain ⟨N', rfl⟩ : ∃ k, N' = k + 2 := ⟨N' - 2, by omega⟩
    have hx : sNx h0 d b N N.1 0 = [] := sNx_no N N.1 0 (fun j _ hj => sOv_0 hb (by omega))
    have eGo : sGo h0 d b (0 + 1) N E dr vn = some (E', dr, vn) := by
      unfold sGo
      by_cases e0 : N.1 = 0
      · rw [if_pos e0]
        rw [sEn_0 e0] at he
        cases he
        rfl
      · rw [if_neg e0, sSw_eq, he, Option.bind_some, sCo_l, hx]
        rfl
    obtain ⟨h1, a1, a2, a3, a4, a5, a6⟩ := cm_empties (t := 1) (by omega) mx.1
    have a1 : fn_M_empties (Int32.ofInt 1) h = some h1 := a1
    have mx1 := MX_m mx a2 (v9_w a3)
    obtain ⟨h2, b1, b2, b3, ⟨Bx, b4, b5⟩, b6⟩ := mc_L (kc := fn_M_goesThrough_L33 (Int32.ofNat d) (N' + 1)) o0 hN hvG G.1 0 fu h1 tE dr vn false (by omega) (fu_lt (by have := g0.2.1; omega)) mx1 (MT_ot (t' := 0) (by omega) a6 g0) ⟨a4, a5⟩ (ML_ot (t' := 2) (by omega) a6 g2) tE_d ((fz_gL a3 rfl).trans h45) ((fz_gL a3 rfl).trans h46)
    have hC : sCo h0 d b G G.1 0 (tE, dr, vn) = some (tE, dr, vn) := by rw [sCo_l, hg, hx]; rfl
    rw [hC, if_pos (show (some (tE, dr, vn)).isSome = true from rfl), sMr_l, hg, hx] at b6
    obtain ⟨q1, q2, q3, q4⟩ := b5 _ hC
    rw [eGo]
    refine ⟨h2, ?_, b1, E', b3, fun y hy => by cases hy; exact ⟨rfl, hdE, q3, q4⟩⟩
    show fb_M_goesThrough_L33 (Int32.ofNat d) (fn_M_goesThrough_L33 (Int32.ofNat d) (N' + 1)) (Int32.ofInt 1) h = _
    unfold fb_M_goesThrough_L33
    rw [show px_cmp .eq (Int32.ofInt 1) 0 = false from by decide, cond_false, a1, Option.bind_some]
    have b6 : fn_M_goesThrough_L46 (Int32.ofNat d) (fn_M_goesThrough_L33 (Int32.ofNat d) (N' + 1)) fu (Int32.ofInt 0) (Int32.ofInt 0) h1 = fn_M_goesThrough_L33 (Int32.ofNat d) (N' + 1) (Int32.ofInt 0) h2 := b6
    rw [b6]
    show fb_M_goesThrough_L33 (Int32.ofNat d) (fn_M_goesThrough_L33 (Int32.ofNat d) N') (Int32.ofInt 0) h2 = _
    unfold fb_M_goesThrough_L33
    rw [show px_cmp .eq (Int32.ofInt 0) 0 = true from by decide, cond_true]
    rfl
  | succ c ih =>
    intro N' h N G E E' dr vn hf hd n3 hv hb hvG hg he hdE mx g0 g2 h45 h46
    obtain ⟨N', rfl⟩ : ∃ k, N' = k + 2 := ⟨N' - 2, by omega⟩
    obtain ⟨h1, a1, a2, a3, a4, a5, a6⟩ := cm_empties (t := 1) (by omega) mx.1
    have a1 : fn_M_empties (Int32.ofInt 1) h = some h1 := a1
    have mx1 := MX_m mx a2 (v9_w a3)
    obtain ⟨h2, b1, b2, b3, ⟨Bx, b4, b5⟩, b6⟩ := mc_L (kc := fn_M_goesThrough_L33 (Int32.ofNat d) (N' + 1)) o0 hN hvG G.1 0 fu h1 tE dr vn false (by omega) (fu_lt (by have := g0.2.1; omega)) mx1 (MT_ot (t' := 0) (by omega) a6 g0) ⟨a4, a5⟩ (ML_ot (t' := 2) (by omega) a6 g2) tE_d ((fz_gL a3 rfl).trans h45) ((fz_gL a3 rfl).trans h46)
    have b6 : fn_M_goesThrough_L46 (Int32.ofNat d) (fn_M_goesThrough_L33 (Int32.ofNat d) (N' + 1)) fu (Int32.ofInt 0) (Int32.ofInt 0) h1 = _ := b6
    have eL : fn_M_goesThrough_L33 (Int32.ofNat d) (N' + 2) (Int32.ofInt 1) h = fn_M_goesThrough_L46 (Int32.ofNat d) (fn_M_goesThrough_L33 (Int32.ofNat d) (N' + 1)) fu (Int32.ofInt 0) (Int32.ofInt 0) h1 := by
      show fb_M_goesThrough_L33 (Int32.ofNat d) (fn_M_goesThrough_L33 (Int32.ofNat d) (N' + 1)) (Int32.ofInt 1) h = _
      unfold fb_M_goesThrough_L33
      rw [show px_cmp .eq (Int32.ofInt 1) 0 = false from by decide, cond_false, a1, Option.bind_some]
    rw [eL, b6]
    have eC : sCo h0 d b G G.1 0 (tE, dr, vn) = sCo h0 d b N N.1 0 (tE, dr, vn) := by rw [sCo_l, hg, ← sCo_l]
    rw [eC] at b5 ⊢
    rw [sMr_l, hg]
    have ret0 : fn_M_goesThrough_L33 (Int32.ofNat d) (N' + 1) (Int32.ofInt 0) h2 = some (Int32.ofInt 1, h2) := by
      show fb_M_goesThrough_L33 (Int32.ofNat d) (fn_M_goesThrough_L33 (Int32.ofNat d) N') (Int32.ofInt 0) h2 = _
      unfold fb_M_goesThrough_L33
      rw [show px_cmp .eq (Int32.ofInt 0) 0 = true from by decide, cond_true]
    by_cases e0 : N.1 = 0
    · have hx : sNx h0 d b N N.1 0 = [] := by rw [e0]; rfl
      have hy : sCo h0 d b N N.1 0 (tE, dr, vn) = some (tE, dr, vn) := by rw [e0]; rfl
      have eGo : sGo h0 d b (c + 1 + 1) N E dr vn = some (E', dr, vn) := by
        unfold sGo
        rw [if_pos e0]
        rw [sEn_0 e0] at he
        cases he
        rfl
      obtain ⟨q1, q2, q3, q4⟩ := b5 _ hy
      rw [eGo, hy, hx, if_pos (show (some (tE, dr, vn)).isSome = true from rfl)]
      exact ⟨h2, ret0, b1, E', b3, fun y hy => by cases hy; exact ⟨rfl, hdE, q3, q4⟩⟩
    · have eGo : sGo h0 d b (c + 1 + 1) N E dr vn = (sCo h0 d b N N.1 0 (tE, dr, vn)).bind fun x => sGo h0 d b (c + 1) x.1 E' x.2.1 x.2.2 := by
        conv => lhs; unfold sGo
        rw [if_neg e0, sSw_eq, he, Option.bind_some]
        cases sCo h0 d b N N.1 0 (tE, dr, vn) <;> rfl
      rw [eGo]
      cases hC : sCo h0 d b N N.1 0 (tE, dr, vn) with
      | none =>
        rw [if_neg (by decide)]
        exact ⟨h2, rfl, b1, E', b3, fun y hy => by cases hy⟩
      | some x =>
        rw [if_pos (show (some x).isSome = true from rfl), Option.bind_some]
        obtain ⟨q1, q2, q3, q4⟩ := b5 _ hC
        subst q1
        obtain ⟨s1, s2, s3, s4⟩ := sCo_ok o0 hN hv hb N.1 0 _ x (by omega) tE_d (show tE.1 ≤ 3000 by decide) (tE_p _) (fun i hi => by cases hi) hC
        cases hx : sNx h0 d b N N.1 0 with
        | nil =>
          have : x = (tE, dr, vn) := by
            rw [sCo_l, hx] at hC
            cases hC
            rfl
          subst this
          have eg : sGo h0 d b (c + 1) tE E' dr vn = some (E', dr, vn) := by
            unfold sGo
            rw [if_pos (show tE.1 = 0 from rfl)]
          rw [show sGo h0 d b (c + 1) (tE, dr, vn).1 E' (tE, dr, vn).2.1 (tE, dr, vn).2.2 = some (E', dr, vn) from eg]
          exact ⟨h2, ret0, b1, E', b3, fun y hy => by cases hy; exact ⟨rfl, hdE, q3, q4⟩⟩
        | cons q l =>
          -- parts, then on
          obtain ⟨h3, c1, c2, c3, c4, c5, c6⟩ := cm_empties (t := 0) (by omega) b1.1
          have c1 : fn_M_empties (Int32.ofInt 0) h2 = some h3 := c1
          have mx3 := MX_m b1 c2 (v9_w c3)
          obtain ⟨h4, d1, d2, d4, d5, Gx, Ex, d6, d7, d8⟩ := mp1_L o0 hN s3 x.1.1 0 fu h3 tE E' (by omega) (fu_lt (by omega)) mx3 (MT_ot (t' := 1) (by omega) c6 b4.1) ⟨c4, c5⟩ (ML_ot (t' := 2) (by omega) c6 b3) tE_d hdE
          have d1 : fn_M_parts_L12 (Int32.ofInt 1) (Int32.ofNat d) fu (Int32.ofInt 0) h3 = _ := d1
          have eP : fn_M_parts (Int32.ofInt 1) (Int32.ofNat d) h2 = some (b01 (sEn h0 d b x.1 x.1.1 0 E').isSome, h4) := by
            unfold fn_M_parts
            rw [show px_cmp .ne (Int32.ofInt 1) (Int32.ofInt 1) = false from by decide, cond_false, c1, Option.bind_some, d1]
          show ∃ h', ((fn_M_parts (Int32.ofInt 1) (Int32.ofNat d) h2).bind fun q29 => bif px_cmp .ne q29.1 0 then fn_M_goesThrough_L33 (Int32.ofNat d) (N' + 1) (Int32.ofInt 1) q29.2 else some ((Int32.ofInt 0), q29.2)) = _ ∧ _
          rw [eP, Option.bind_some]
          simp only [cmp_b01n]
          cases hE : sEn h0 d b x.1 x.1.1 0 E' with
          | none =>
            have : ¬ x.1.1 = 0 := fun e => by rw [sEn_0 e] at hE; cases hE
            have eg : sGo h0 d b (c + 1) x.1 E' x.2.1 x.2.2 = none := by
              unfold sGo
              rw [if_neg this, sSw_eq, hE]
              rfl
            rw [eg]
            exact ⟨h4, rfl, d2, Ex, d7, fun y hy => by cases hy⟩
          | some E'' =>
            obtain ⟨y1, y2, y3⟩ := d8 _ hE
            subst y1 y3
            obtain ⟨f1, f2, f3⟩ := sFi_ok (h0 := h0) (d := d) (b := b) s1 s2 x.1.1 0 tE (by omega) (by show 0 ≤ 0; omega) (fun j hj => by cases hj) (fun j hj => by cases hj)
            have fv : ∀ (m i : Nat) (G : TB), i + m = x.1.1 → pT (V1 z b) G → pT (V1 z b) (sFi h0 d b x.1 m i G) := by
              intro m
              induction m with
              | zero => intro i G _ hG; exact hG
              | succ m ihm =>
                intro i G hi hG
                unfold sFi
                split
                · exact ihm (i + 1) G (by omega) hG
                · exact ihm (i + 1) _ (by omega) (adI_p hG (s3 i (by omega)))
            exact ih (N' + 1) h4 x.1 (sFi h0 d b x.1 x.1.1 0 tE) E' Ex x.2.1 x.2.2 (by omega) s1 s2 s3 s4 (fv x.1.1 0 tE (by omega) (tE_p _)) (by rw [f1]; rfl) hE y2 d2 d6.1 d7 (d4.trans ((fz_gL c3 rfl).trans q3)) (d5.trans ((fz_gL c3 rfl).trans q4))
/-- the beginning of a drawing -/
theorem mo_L {E : TB} {nx : Nat} (o0 : oS h0) (hN : EN z d ln r b K S F kn ow aw dd h0) (s6 : sz z (aI h0 76 b)) (hk : pT (kCL z nx) E) : ∀ (m i N' : Nat) (h : px_H) (N : TB), i + m = E.1 → m < N' → MX h0 h → MT 2 E h → ML 0 N h → dT N → N.1 ≤ 3000 → pT (V1 z b) N →
    ∃ h', fn_M_opensAll_L7 (Int32.ofNat d) N' (Int32.ofNat i) h = some h' ∧ MX h0 h' ∧ ML 0 (sOps h0 d E m i N) h' ∧ dT (sOps h0 d E m i N) ∧ (sOps h0 d E m i N).1 ≤ 3000 ∧ pT (V1 z b) (sOps h0 d E m i N) ∧ gL h' 69 45 = gL h 69 45 ∧ gL h' 69 46 = gL h 69 46 := by
  intro m
  induction m with
  | zero =>
    intro i N' h N hm hN' mx g2 g0 hd n3 hv
    obtain ⟨N', rfl⟩ : ∃ k, N' = k + 1 := ⟨N' - 1, by omega⟩
    have : i = E.1 := by omega
    subst this
    refine ⟨h, ?_, mx, g0, hd, n3, hv, rfl, rfl⟩
    show fb_M_opensAll_L7 (Int32.ofNat d) (fn_M_opensAll_L7 (Int32.ofNat d) N') (Int32.ofNat E.1) h = _
    unfold fb_M_opensAll_L7
    rw [show (Int32.ofInt 2).toNatClampNeg = 2 from rfl, g2.1, ge_t, cond_true]
  | succ m ih =>
    intro i N' h N hm hN' mx g2 g0 hd n3 hv
    obtain ⟨N', rfl⟩ : ∃ k, N' = k + 1 := ⟨N' - 1, by omega⟩
    have hi : i < E.1 := by omega
    have e3 := g2.2.1
    have b2 := hN.2.2.2.2.1
    obtain ⟨h1, l1, l2, l3, l4⟩ := mo_look (by omega) mx.1 g2 hi
    have mx1 := MX_m mx l2 (wm_w l3)
    obtain ⟨h2, c1, c2, c3, c4⟩ := mo_open o0 l2 hN (MX_q mx1) l4 (hk i hi).2.2.2.1 (sz_sm hN.1 s6)
    have mx2 := MX_m mx1 c2 (vo_w c3)
    have g02 := ML_fz c3 rfl rfl rfl rfl rfl (ML_fz l3 rfl rfl rfl rfl rfl g0)
    have g22 := MT_fz c3 rfl rfl rfl rfl (MT_fz l3 rfl rfl rfl rfl g2)
    obtain ⟨h3, a1, a2, a3, a4, a5, a6⟩ := cm_add (t := 0) (c := E.2.2 i) (by omega) c2 g02.1 g02.2 hd
    have a1 : fn_M_adds (Int32.ofInt 0) (E.2.2 i) h2 = some (b01 (adT N (kyOf h2) (E.2.2 i)).isSome, h3) := a1
    rw [c4] at a4 a5
    show ∃ h', fb_M_opensAll_L7 (Int32.ofNat d) (fn_M_opensAll_L7 (Int32.ofNat d) N') (Int32.ofNat i) h = _ ∧ _
    unfold fb_M_opensAll_L7
    rw [show (Int32.ofInt 2).toNatClampNeg = 2 from rfl, g2.1, ge_f hi (by omega), cond_false, show fn_M_looksAt (Int32.ofInt 2) (Int32.ofNat i) h = some h1 from l1, Option.bind_some, c1, Option.bind_some, show (Int16.ofInt 6002).toInt32 + Int32.ofNat i = Int32.ofNat (2 * 3001 + i) from by rw [show (Int16.ofInt 6002).toInt32 = Int32.ofNat 6002 from by decide, ← Int32.ofNat_add], nm_inR _ 9003 (show 2 * 3001 + i < 9003 by omega) (by omega), cond_true, nm_ofNat_clamp _ (show 2 * 3001 + i < 2147483648 by omega), (g22.2.2 i hi).2.2, a1, Option.bind_some]
    show ∃ h', fn_M_opensAll_L7 (Int32.ofNat d) N' (Int32.ofNat i + Int32.ofInt 1) h3 = _ ∧ _
    rw [inc1]
    obtain ⟨h', x1, x2, x3, x4, x5, x6, x7, x8⟩ := ih (i + 1) N' h3 _ (by omega) (by omega) (MX_m mx2 a2 (v9_w a3)) (MT_ot (t' := 2) (by omega) a6 g22) ⟨a4, a5⟩ (adI_d hd) (adI_n n3) (adI_p hv (V1_op o0 hN s6 (hk i hi)))
    exact ⟨h', x1, x2, x3, x4, x5, x6, x7.trans ((fz_gL a3 rfl).trans ((fz_gL c3 rfl).trans (fz_gL l3 rfl))), x8.trans ((fz_gL a3 rfl).trans ((fz_gL c3 rfl).trans (fz_gL l3 rfl)))⟩
theorem Bd_10 (N : TB) : Bd b N 10 := fun i _ => cb_le _ 10
/-- a pass in the model -/
theorem mg_pass {E : TB} {nx : Nat} (o0 : oS h0) (hN : EN z d ln r b K S F kn ow aw dd h0) (s6 : sz z (aI h0 76 b)) (hk : pT (kCL z nx) E) (mx : MX h0 h) (g2 : MT 2 E h) :
    ∃ h', fn_M_goesThrough (Int32.ofNat d) h = some (b01 (sPass h0 d b E).isSome, h') ∧ MX h0 h' ∧ ∃ Ex, ML 2 Ex h' ∧ ∀ y, sPass h0 d b E = some y → Ex = y.1 ∧ dT y.1 ∧ gL h' 69 45 = y.2.1 ∧ gL h' 69 46 = y.2.2 ∧ (1 ≤ E.1 → 1 ≤ y.1.1) := by
  unfold fn_M_goesThrough
  rw [sb_i]
  have mx1 := MX_w (j := 45) (v := Int64.ofNat 0) (Or.inl rfl) mx
  have w1 : gL (wF h 69 45 (.long (Int64.ofNat 0))) 69 45 = Int64.ofNat 0 := gL_wF (cs := [69]) (ci := 9) rfl List.mem_cons_self mx.1
  have g21 : MT 2 E (wF h 69 45 (.long (Int64.ofNat 0))) := MT_w g2
  generalize wF h 69 45 (.long (Int64.ofNat 0)) = h1 at mx1 w1 g21 ⊢
  rw [sb_i]
  have mx2 := MX_w (j := 46) (v := Int64.ofNat 0) (Or.inr rfl) mx1
  have w2 : gL (wF h1 69 46 (.long (Int64.ofNat 0))) 69 46 = Int64.ofNat 0 := gL_wF (cs := [69]) (ci := 9) rfl List.mem_cons_self mx1.1
  have w3 : gL (wF h1 69 46 (.long (Int64.ofNat 0))) 69 45 = Int64.ofNat 0 := (gL_wF_ne (by decide)).trans w1
  have g22 : MT 2 E (wF h1 69 46 (.long (Int64.ofNat 0))) := MT_w g21
  generalize wF h1 69 46 (.long (Int64.ofNat 0)) = h2 at mx2 w2 w3 g22 ⊢
  unfold fn_M_opensAll
  obtain ⟨h3, a1, a2, a3, a4, a5, a6⟩ := cm_empties (t := 0) (by omega) mx2.1
  have a1 : fn_M_empties (Int32.ofInt 0) h2 = some h3 := a1
  obtain ⟨h4, x1, x2, x3, x4, x5, x6, x7, x8⟩ := mo_L o0 hN s6 hk E.1 0 fu h3 tE (by omega) (fu_lt (by have := g2.2.1; omega)) (MX_m mx2 a2 (v9_w a3)) (MT_ot (t' := 2) (by omega) a6 g22) ⟨a4, a5⟩ tE_d (by decide) (tE_p _)
  have x1 : fn_M_opensAll_L7 (Int32.ofNat d) fu (Int32.ofInt 0) h3 = some h4 := x1
  rw [a1, Option.bind_some, x1, Option.bind_some]
  obtain ⟨h5, c1, c2, c3, c4, c5, c6⟩ := cm_empties (t := 2) (by omega) x2.1
  have c1 : fn_M_empties (Int32.ofInt 2) h4 = some h5 := c1
  have mx5 := MX_m x2 c2 (v9_w c3)
  rw [c1, Option.bind_some]
  have w45 : gL h5 69 45 = Int64.ofNat 0 := (fz_gL c3 rfl).trans (x7.trans ((fz_gL a3 rfl).trans w3))
  have w46 : gL h5 69 46 = Int64.ofNat 0 := (fz_gL c3 rfl).trans (x8.trans ((fz_gL a3 rfl).trans w2))
  obtain ⟨h6, d1, d2, d3, d4, d5, Ex, d6, d7⟩ := mp0_L o0 hN (sOps h0 d E E.1 0 tE).1 0 fu h5 tE (by omega) (fu_lt (by omega)) mx5 (MT_ot (t' := 0) (by omega) c6 x3.1) ⟨c4, c5⟩ tE_d
  have eP : fn_M_parts (Int32.ofInt 0) (Int32.ofNat d) h5 = some (b01 (sEn h0 d b (sOps h0 d E E.1 0 tE) (sOps h0 d E E.1 0 tE).1 0 tE).isSome, h6) := by
    unfold fn_M_parts
    rw [show px_cmp .ne (Int32.ofInt 0) (Int32.ofInt 1) = true from by decide, cond_true]
    exact d1
  rw [eP, Option.bind_some]
  simp only [cmp_b01n]
  unfold sPass
  cases hE : sEn h0 d b (sOps h0 d E E.1 0 tE) (sOps h0 d E E.1 0 tE).1 0 tE with
  | none =>
    have : ¬ (sOps h0 d E E.1 0 tE).1 = 0 := fun e => by rw [sEn_0 e] at hE; cases hE
    have eg : sGo h0 d b 11 (sOps h0 d E E.1 0 tE) tE (Int64.ofNat 0) (Int64.ofNat 0) = none := by
      unfold sGo
      rw [if_neg this, sSw_eq, hE]
      rfl
    rw [eg]
    exact ⟨h6, rfl, d2, Ex, d6, fun y hy => by cases hy⟩
  | some E' =>
    obtain ⟨y1, y2⟩ := d7 _ hE
    subst y1
    obtain ⟨h7, g1, g2', Ey, g3, g4⟩ := mw_L o0 hN 10 fu h6 (sOps h0 d E E.1 0 tE) (sOps h0 d E E.1 0 tE) tE Ex _ _ (fu_lt (by omega)) x4 x5 x6 (Bd_10 _) x6 rfl hE y2 d2 d3 d6 (d4.trans w45) (d5.trans w46)
    refine ⟨h7, g1, g2', Ey, g3, fun y hy => ?_⟩
    obtain ⟨q1, q2, q3, q4⟩ := g4 y hy
    exact ⟨q1, q2, q3, q4, fun e1 => sGo_1 o0 hN 10 _ _ _ _ y x6 (Bd_10 _) (Or.inl (sOps_1 _ _ _ (Or.inl e1))) hy⟩
end tb_J
end mg_3

section mg_4
/-! drawings one behind the other -/
def bgO (h0 : px_H) (d : Nat) : Nat := (aI h0 79 d).toNatClampNeg
noncomputable def sWk (h0 : px_H) : Nat → Nat → TB × Int64 × Int64 → Option (TB × Int64 × Int64)
  | 0, _, x => some x
  | m + 1, d, x => (sPass h0 d (bgO h0 d) x.1).bind fun y => sWk h0 m (d + 1) y
def WPS (c k : Nat) : Bool := WPX c k || WR c k
def VPS (c : Nat) : Bool := VPX c || V27 c
/-- the class, ready to go through drawings -/
def V6 (c : Nat) : Bool := Vq c || Nat.beq c 76
def XS (z dn rc r ln : Nat) (h0 hX : px_H) : Prop := oS hX ∧ (∃ hT, TR z dn hX hT ∧ RR rc r ln hX hT ∧ fz Wq V6 hT h0) ∧ gR hX 21 1 = rc ∧ (∀ j, j < 2 → aI hX 26 j = aI h0 76 j ∧ sz z (aI h0 76 j)) ∧ ∀ p, p < z → ib (gI hX 21 3) p = ib (gI h0 69 20) p
/-- its tables: what the last drawing ended with -/
def XT (Q : Int64 → Int32 → KY → Prop) (E : TB) (hX : px_H) : Prop := ∃ a bb e, D3 a bb e ∧ RF a bb e hX ∧ CT0 a hX ∧ CT0 bb hX ∧ CT Q e E hX
section tb_K
variable {z dn d nx rc r ln : Nat} {h0 hX hX' hM : px_H} {u : Int64} {w : Int32}
theorem wps_a (a : fz WPX VPX hX hX') : fz WPS VPS hX hX' := fz_mono a (fun c k e => by
  unfold WPS at e
  simp only [Bool.or_eq_false_iff] at e
  exact e.1) (fun c e => by
  unfold VPS at e
  simp only [Bool.or_eq_false_iff] at e
  exact e.1)
theorem wps_b (a : fz WR V27 hX hX') : fz WPS VPS hX hX' := fz_mono a (fun c k e => by
  unfold WPS at e
  simp only [Bool.or_eq_false_iff] at e
  exact e.2) (fun c e => by
  unfold VPS at e
  simp only [Bool.or_eq_false_iff] at e
  exact e.2)
theorem RR_ps (oX : oS hX) (hrc : rc ∈ ruls) (a : fz WPS VPS hX hX') (h : RR rc r ln hX h0) : RR rc r ln hX' h0 := by
  obtain ⟨l7, r4, r1, r2, r3⟩ := h
  have nw : ∀ k, k < 4 → WPS rc k = false := by
    intro k hk
    have : ruls.all (fun c => (List.range 4).all (fun k => !WPS c k)) = true := by decide
    have := List.all_eq_true.mp (List.all_eq_true.mp this rc hrc) k (List.mem_range.mpr hk)
    simpa using this
  have nv : ∀ k, k < 3 → VPS (gR hX rc k) = false := by
    intro k hk
    have hmem : ∀ k, k < 3 → gR hX rc k ∈ [15, 16, 17, 23, 24, 25, 55, 56, 57, 59, 60, 61, 63, 64, 65] := by
      intro k hk
      match k, hk with
      | 0, _ => exact (bR_ok (cs := ruls) (ci := 3) (k := 0) (ds := [15, 16, 17, 23, 24, 25, 55, 56, 57, 59, 60, 61, 63, 64, 65]) rfl hrc oX).choose_spec.2.2
      | 1, _ => exact (bR_ok (cs := ruls) (ci := 3) (k := 1) (ds := [15, 16, 17, 23, 24, 25, 55, 56, 57, 59, 60, 61, 63, 64, 65]) rfl hrc oX).choose_spec.2.2
      | 2, _ => exact (bR_ok (cs := ruls) (ci := 3) (k := 2) (ds := [15, 16, 17, 23, 24, 25, 55, 56, 57, 59, 60, 61, 63, 64, 65]) rfl hrc oX).choose_spec.2.2
      | k + 3, h => omega
    have : [15, 16, 17, 23, 24, 25, 55, 56, 57, 59, 60, 61, 63, 64, 65].all (fun c => !VPS c) = true := by decide
    have := List.all_eq_true.mp this _ (hmem k hk)
    simpa using this
  refine ⟨l7, r4, (fz_gI a (nw 3 (by omega))).trans r1, r2, fun k hk => ?_⟩
  rw [fz_gR a (nw 0 (by omega)), fz_gR a (nw 1 (by omega)), fz_gR a (nw 2 (by omega)), (a.2 _ (nv 0 (by omega))).1, (a.2 _ (nv 1 (by omega))).1, (a.2 _ (nv 2 (by omega))).1]
  exact r3 k hk
theorem XS_ps (hrc : rc ∈ ruls) (o' : oS hX') (a : fz WPS VPS hX hX') (h : XS z dn rc r ln h0 hX) : XS z dn rc r ln h0 hX' := by
  obtain ⟨o, ⟨hT, t, rr, q⟩, g, p, ab⟩ := h
  exact ⟨o', ⟨hT, TR_k a (fz_rf (W := W0) (V := V0)) (by decide) (by decide) t, RR_ps o hrc a rr, q⟩, (fz_gR a rfl).trans g, fun j hj => by rw [(a.2 26 rfl).1]; exact p j hj, fun p hp => by rw [fz_gI a (c := 21) (k := 3) rfl]; exact ab p hp⟩
theorem EN_6 {b : Nat} {K S F kn : Nat → Int32} {ow aw dd : Int32} {hT : px_H} (hN : EN z d ln r b K S F kn ow aw dd hT) (a : fz Wq V6 hT h0) : EN z d ln r b K S F kn ow aw dd h0 := by
  obtain ⟨z9, d6, l7, r4, b2, ⟨e1, e2, e3⟩, hb, hR, hP⟩ := hN
  refine ⟨z9, d6, l7, r4, b2, ⟨(fz_gI a rfl).trans e1, (fz_gI a rfl).trans e2, by rw [(a.2 81 rfl).1]; exact e3⟩, by rw [(a.2 79 rfl).1]; exact hb, fun k hk => by rw [(a.2 83 rfl).1, (a.2 84 rfl).1]; exact hR k hk, fun p hp => ?_⟩
  unfold mDead
  rw [(a.2 78 rfl).1, (a.2 75 rfl).1, (a.2 72 rfl).1, (a.2 73 rfl).1, (a.2 74 rfl).1, (a.2 71 rfl).1, fz_gI a (c := 69) (k := 20) rfl]
  exact hP p hp
theorem wr_t {t : Nat} (ht : t ∈ tbs) : WR t 3 = false ∧ ∀ c, t + 1 ≤ c → c ≤ t + 5 → V27 c = false := by
  refine ⟨by rcases tb_c ht with rfl | rfl | rfl <;> rfl, fun c h1 h2 => ?_⟩
  unfold V27
  cases hb : Nat.beq c 27 with
  | false => rfl
  | true =>
    have := Nat.eq_of_beq_eq_true hb
    rcases tb_c ht with rfl | rfl | rfl <;> omega
/-- one drawing on both sides -/
theorem ps2 {E : TB} {Q : Int64 → Int32 → KY → Prop} (o0 : oS h0) (hr : gI h0 69 15 = Int32.ofNat r) (hrc : rc ∈ ruls) (hd : d < dn) (xs : XS z dn rc r ln h0 hX) (xt : XT Q E hX) (hQ : ∀ s q k, Q s q k → QO u w s q k) (hk : pT (kCL z nx) E) (nd : nx ≤ d) (mx : MX h0 hM) (g2 : MT 2 E hM) :
    ∃ hX' hM', fn_Walk_pass (Int32.ofNat d) hX = some (b01 (sPass h0 d (bgO h0 d) E).isSome, hX') ∧ fn_M_goesThrough (Int32.ofNat d) hM = some (b01 (sPass h0 d (bgO h0 d) E).isSome, hM') ∧ XS z dn rc r ln h0 hX' ∧ MX h0 hM' ∧ fz WPS VPS hX hX' ∧ ∃ Ec Em, XT (QE d u w) Ec hX' ∧ ML 2 Em hM' ∧ ∀ y, sPass h0 d (bgO h0 d) E = some y → Ec = y.1 ∧ Em = y.1 ∧ pT (kEN z d) y.1 ∧ dT y.1 ∧ gL hX' 28 4 = y.2.1 ∧ gL hX' 28 5 = y.2.2 ∧ gL hM' 69 45 = y.2.1 ∧ gL hM' 69 46 = y.2.2 ∧ (1 ≤ E.1 → 1 ≤ y.1.1) := by
  obtain ⟨a, bb, e, g, rf, c1, c2, cE⟩ := xt
  have xs0 := xs
  obtain ⟨o, ⟨hT, t, rr, q6⟩, gr, p26, ab⟩ := xs
  obtain ⟨h1, b, K, S, F, kn, ow, aw, dd, a1, a2, a3, a4, a5, a6, a7⟩ := sim_ready t rr o hrc gr ((fz_gI q6 rfl).symm.trans hr) (fun p hp => by rw [← fz_gI q6 (c := 69) (k := 20) rfl]; exact ab p hp) hd
  have a5 := EN_6 a5 q6
  rw [← (q6.2 80 rfl).1] at a7
  have b2 : b < 2 := a5.2.2.2.2.1
  have eb : bgO h0 d = b := by unfold bgO; rw [a5.2.2.2.2.2.2.1]; exact nm_ofNat_clamp b (by omega)
  rw [eb]
  have s6 : sz z (aI h0 76 b) := (p26 b b2).2
  have s80 : 0 ≤ (aI h0 80 d).toInt := by rw [(q6.2 80 rfl).1]; exact (t.2.2.2.2.2.2.2.2 d a5.2.1).2.2.2.1
  have cp : CP z d ln b K S F kn ow aw dd h0 h1 h1 := ⟨a4, a6, a7, by rw [(a3.2 26 rfl).1]; exact (p26 b b2).1, by rw [(a3.2 8 rfl).1, (q6.2 77 rfl).1]; exact (t.2.2.2.2.2.2.2.1 b b2).2.1, fz_rf⟩
  obtain ⟨h2, x1, x2, x3, a', bb', Ec, x4, x5, x6, x7, x8, x9⟩ := cw_pass (u := u) (w := w) o0 a5 s6 s80 g hQ hk nd a1 a2 cp (RF_fz a3 rfl rfl rfl rf) (CT0_fz a3 (wr_t g.1).1 (wr_t g.1).2 c1) (CT0_fz a3 (wr_t g.2.1).1 (wr_t g.2.1).2 c2) (CT_fz a3 (wr_t g.2.2.1).1 (wr_t g.2.2.1).2 cE)
  obtain ⟨m1, y1, y2, Em, y3, y4⟩ := mg_pass o0 a5 s6 hk mx g2
  have f : fz WPS VPS hX h2 := fz_tr (wps_b a3) (wps_a x3.2.2.2.2.2)
  refine ⟨h2, m1, x1, y1, XS_ps hrc x2 f xs0, y2, f, Ec, Em, ⟨a', bb', e, x4, x5, x6, x7, x8⟩, y3, fun y hy => ?_⟩
  obtain ⟨q1, q2, q3, q4⟩ := x9 y hy
  obtain ⟨w1, w2, w3, w4, w5⟩ := y4 y hy
  exact ⟨q1, w1, q4, w2, q2, q3, w3, w4, w5⟩
/-! .. and more drawings -/
noncomputable def xRun : Nat → Nat → px_H → Option (Int32 × px_H)
  | 0, _, h => some (Int32.ofInt 1, h)
  | m + 1, d, h => (fn_Walk_pass (Int32.ofNat d) h).bind fun q => if q.1 = Int32.ofInt 1 then xRun m (d + 1) q.2 else if q.1 = Int32.ofInt 0 then some (Int32.ofInt 0, q.2) else none
theorem xRun_snoc : ∀ (m d : Nat) (h : px_H), xRun (m + 1) d h = (xRun m d h).bind fun q => if q.1 = Int32.ofInt 1 then (fn_Walk_pass (Int32.ofNat (d + m)) q.2).bind fun q' => if q'.1 = Int32.ofInt 1 then some (Int32.ofInt 1, q'.2) else if q'.1 = Int32.ofInt 0 then some (Int32.ofInt 0, q'.2) else none else some q
  | 0, d, h => by
    show _ = (some (Int32.ofInt 1, h)).bind _
    rw [Option.bind_some, if_pos rfl]
    rfl
  | m + 1, d, h => by
    conv => lhs; unfold xRun
    conv => rhs; lhs; unfold xRun
    cases fn_Walk_pass (Int32.ofNat d) h with
    | none => rfl
    | some q =>
      rw [Option.bind_some, Option.bind_some]
      by_cases e : q.1 = Int32.ofInt 1
      · rw [if_pos e, if_pos e, xRun_snoc m (d + 1) q.2, show d + 1 + m = d + (m + 1) from by omega]
      · rw [if_neg e, if_neg e]
        by_cases e0 : q.1 = Int32.ofInt 0
        · rw [if_pos e0, Option.bind_some, if_neg (by show ¬ (Int32.ofInt 0 = Int32.ofInt 1); decide)]
        · rw [if_neg e0]; rfl
theorem xRun_by {D : Nat} (hD : D < 100) : ∀ (m d N : Nat) (h : px_H) (r : Int32 × px_H), d + m = D + 1 → m < N → xRun m d h = some r → fn_X_walkBy_L50 (Int32.ofNat D) N (Int32.ofInt 1) (Int32.ofNat d) h = some r
  | 0, d, N, h, r, hm, hN, e => by
    obtain ⟨N, rfl⟩ : ∃ k, N = k + 1 := ⟨N - 1, by omega⟩
    cases e
    show fb_X_walkBy_L50 (Int32.ofNat D) (fn_X_walkBy_L50 (Int32.ofNat D) N) (Int32.ofInt 1) (Int32.ofNat d) h = _
    unfold fb_X_walkBy_L50
    rw [cmp_gt, nm_ofNat_toInt d (by omega), nm_ofNat_toInt D (by omega), decide_eq_true (show (D : Int) < (d : Int) by omega), cond_true]
    rfl
  | m + 1, d, N, h, r, hm, hN, e => by
    obtain ⟨N, rfl⟩ : ∃ k, N = k + 1 := ⟨N - 1, by omega⟩
    unfold xRun at e
    obtain ⟨q, hq, e⟩ := bd_e e
    show fb_X_walkBy_L50 (Int32.ofNat D) (fn_X_walkBy_L50 (Int32.ofNat D) N) (Int32.ofInt 1) (Int32.ofNat d) h = _
    unfold fb_X_walkBy_L50
    rw [cmp_gt, nm_ofNat_toInt d (by omega), nm_ofNat_toInt D (by omega), decide_eq_false (show ¬ (D : Int) < (d : Int) by omega), cond_false, show px_cmp .eq (Int32.ofInt 1) 0 = false from by decide, cond_false, hq, Option.bind_some, inc1]
    by_cases e1 : q.1 = Int32.ofInt 1
    · rw [if_pos e1] at e
      rw [e1]
      exact xRun_by hD m (d + 1) N q.2 r (by omega) (by omega) e
    · rw [if_neg e1] at e
      by_cases e0 : q.1 = Int32.ofInt 0
      · rw [if_pos e0] at e
        cases e
        rw [e0]
        obtain ⟨N, rfl⟩ : ∃ k, N = k + 1 := ⟨N - 1, by omega⟩
        show fb_X_walkBy_L50 (Int32.ofNat D) (fn_X_walkBy_L50 (Int32.ofNat D) N) (Int32.ofInt 0) (Int32.ofNat (d + 1)) q.2 = _
        unfold fb_X_walkBy_L50
        rw [show px_cmp .eq (Int32.ofInt 0) 0 = true from by decide, cond_true]
        cases px_cmp .gt (Int32.ofNat (d + 1)) (Int32.ofNat D) <;> rfl
      · rw [if_neg e0] at e
        cases e
/-- what both sides hold behind the last drawing -/
def FS (z d : Nat) (u : Int64) (w : Int32) (y : TB × Int64 × Int64) (hX hM : px_H) : Prop := XT (QE d u w) y.1 hX ∧ MT 2 y.1 hM ∧ pT (kEN z d) y.1 ∧ dT y.1 ∧ gL hX 28 4 = y.2.1 ∧ gL hX 28 5 = y.2.2 ∧ gL hM 69 45 = y.2.1 ∧ gL hM 69 46 = y.2.2 ∧ 1 ≤ y.1.1
theorem b01_1 {t : Bool} : (b01 t = Int32.ofInt 1) ↔ t = true := by cases t <;> decide
theorem b01_0 {t : Bool} : (b01 t = Int32.ofInt 0) ↔ t = false := by cases t <;> decide
theorem wk2 {D : Nat} (o0 : oS h0) (hr : gI h0 69 15 = Int32.ofNat r) (hrc : rc ∈ ruls) (hD : D < dn) (d6 : dn ≤ 6) : ∀ (m d N : Nat) (hX hM : px_H) (x : TB × Int64 × Int64) (Q : Int64 → Int32 → KY → Prop), d + (m + 1) = D + 1 → m + 1 < N → XS z dn rc r ln h0 hX → XT Q x.1 hX → (∀ s q k, Q s q k → QO u w s q k) → pT (kCL z d) x.1 → MX h0 hM → MT 2 x.1 hM → 1 ≤ x.1.1 →
    ∃ hX' hM', xRun (m + 1) d hX = some (b01 (sWk h0 (m + 1) d x).isSome, hX') ∧ fn_M_reaches_L21 (Int32.ofNat D) N (Int32.ofNat d) (Int32.ofInt 1) hM = some (b01 (sWk h0 (m + 1) d x).isSome, hM') ∧ XS z dn rc r ln h0 hX' ∧ MX h0 hM' ∧ fz WPS VPS hX hX' ∧ (∃ Q' E', XT Q' E' hX') ∧ ∀ y, sWk h0 (m + 1) d x = some y → FS z D u w y hX' hM' := by
  intro m
  induction m with
  | zero =>
    intro d N hX hM x Q hm hN xs xt hQ hk mx g2 hx1
    obtain ⟨N, rfl⟩ : ∃ k, N = k + 2 := ⟨N - 2, by omega⟩
    have : d = D := by omega
    subst this
    obtain ⟨h1, m1, a1, a2, a3, a4, a5, Ec, Em, a6, a7, a8⟩ := ps2 o0 hr hrc hD xs xt hQ hk (Nat.le_refl d) mx g2
    have eW : sWk h0 (0 + 1) d x = sPass h0 d (bgO h0 d) x.1 := by
      show (sPass h0 d (bgO h0 d) x.1).bind (fun y => some y) = _
      cases sPass h0 d (bgO h0 d) x.1 <;> rfl
    rw [eW]
    refine ⟨h1, m1, ?_, ?_, a3, a4, a5, ⟨_, Ec, a6⟩, fun y hy => ?_⟩
    · unfold xRun
      rw [a1, Option.bind_some]
      cases sPass h0 d (bgO h0 d) x.1 with
      | none => rfl
      | some y => rfl
    · show fb_M_reaches_L21 (Int32.ofNat d) (fn_M_reaches_L21 (Int32.ofNat d) (N + 1)) (Int32.ofNat d) (Int32.ofInt 1) hM = _
      unfold fb_M_reaches_L21
      rw [cmp_gt, nm_ofNat_toInt d (by omega), decide_eq_false (show ¬ (d : Int) < (d : Int) by omega), cond_false, show px_cmp .eq (Int32.ofInt 1) 0 = false from by decide, cond_false, a2, Option.bind_some, inc1]
      show fb_M_reaches_L21 (Int32.ofNat d) (fn_M_reaches_L21 (Int32.ofNat d) N) (Int32.ofNat (d + 1)) (b01 _) m1 = _
      unfold fb_M_reaches_L21
      rw [cmp_gt, nm_ofNat_toInt d (by omega), nm_ofNat_toInt (d + 1) (by omega), decide_eq_true (show (d : Int) < ((d + 1 : Nat) : Int) by omega), cond_true, zr_b01, cond_true]
    · obtain ⟨y1, y2, y3, y4, y5, y6, y7, y8, y9⟩ := a8 y hy
      subst y1
      exact ⟨a6, by rw [← y2]; exact a7.1, y3, y4, y5, y6, y7, y8, y9 hx1⟩
  | succ m ih =>
    intro d N hX hM x Q hm hN xs xt hQ hk mx g2 hx1
    obtain ⟨N, rfl⟩ : ∃ k, N = k + 1 := ⟨N - 1, by omega⟩
    obtain ⟨h1, m1, a1, a2, a3, a4, a5, Ec, Em, a6, a7, a8⟩ := ps2 o0 hr hrc (show d < dn by omega) xs xt hQ hk (Nat.le_refl d) mx g2
    have eX : xRun (m + 1 + 1) d hX = (fn_Walk_pass (Int32.ofNat d) hX).bind fun q => if q.1 = Int32.ofInt 1 then xRun (m + 1) (d + 1) q.2 else if q.1 = Int32.ofInt 0 then some (Int32.ofInt 0, q.2) else none := rfl
    have eW : sWk h0 (m + 1 + 1) d x = (sPass h0 d (bgO h0 d) x.1).bind fun y => sWk h0 (m + 1) (d + 1) y := rfl
    have eM : fn_M_reaches_L21 (Int32.ofNat D) (N + 1) (Int32.ofNat d) (Int32.ofInt 1) hM = fn_M_reaches_L21 (Int32.ofNat D) N (Int32.ofNat (d + 1)) (b01 (sPass h0 d (bgO h0 d) x.1).isSome) m1 := by
      show fb_M_reaches_L21 (Int32.ofNat D) (fn_M_reaches_L21 (Int32.ofNat D) N) (Int32.ofNat d) (Int32.ofInt 1) hM = _
      unfold fb_M_reaches_L21
      rw [cmp_gt, nm_ofNat_toInt d (by omega), nm_ofNat_toInt D (by omega), decide_eq_false (show ¬ (D : Int) < (d : Int) by omega), cond_false, show px_cmp .eq (Int32.ofInt 1) 0 = false from by decide, cond_false, a2, Option.bind_some, inc1]
    rw [eX, eW, eM, a1, Option.bind_some]
    cases hP : sPass h0 d (bgO h0 d) x.1 with
    | none =>
      refine ⟨h1, m1, rfl, ?_, a3, a4, a5, ⟨_, Ec, a6⟩, fun y hy => by cases hy⟩
      obtain ⟨N, rfl⟩ : ∃ k, N = k + 1 := ⟨N - 1, by omega⟩
      show fb_M_reaches_L21 (Int32.ofNat D) (fn_M_reaches_L21 (Int32.ofNat D) N) (Int32.ofNat (d + 1)) (Int32.ofInt 0) m1 = _
      unfold fb_M_reaches_L21
      rw [show px_cmp .eq (Int32.ofInt 0) 0 = true from by decide, cond_true]
      cases px_cmp .gt (Int32.ofNat (d + 1)) (Int32.ofNat D) <;> rfl
    | some y =>
      obtain ⟨y1, y2, y3, y4, y5, y6, y7, y8, y9⟩ := a8 y hP
      subst y1
      rw [Option.bind_some]
      show ∃ hX' hM', (if b01 true = Int32.ofInt 1 then xRun (m + 1) (d + 1) h1 else _) = _ ∧ _
      rw [if_pos (show b01 true = Int32.ofInt 1 from rfl)]
      obtain ⟨h2, m2, c1, c2, c3, c4, c5, c6, c7⟩ := ih (d + 1) N h1 m1 y (QE d u w) (by omega) (by omega) a3 a6 (fun _ _ _ h => h.1) (fun i hi => (y3 i hi).1) a4 (by rw [← y2]; exact a7.1) (y9 hx1)
      exact ⟨h2, m2, c1, c2, c3, c4, fz_tr a5 c5, c6, c7⟩
/-! the beginning of a walk -/
def tS (k : KY) : TB := (1, fun _ => k, fun _ => Int64.ofInt 1000000000000)
def QS (u : Int64) (w : Int32) (k0 : KY) (s : Int64) (q : Int32) (k : KY) : Prop := s = u ∧ q = w ∧ k = k0
theorem adT_0 (k : KY) : ∃ T, adT tE k (Int64.ofInt 1000000000000) = some T ∧ T.1 = 1 ∧ T.2.1 0 = k ∧ T.2.2 0 = Int64.ofInt 1000000000000 := ⟨_, rfl, rfl, rfl, rfl⟩
theorem CT_ex {Q : Int64 → Int32 → KY → Prop} {t : Nat} {T T' : TB} {h : px_H} (e1 : T'.1 = T.1) (e2 : ∀ i, i < T.1 → T'.2.1 i = T.2.1 i ∧ T'.2.2 i = T.2.2 i) (hC : CT Q t T h) : CT Q t T' h := ⟨by rw [e1]; exact hC.1, by rw [e1]; exact hC.2.1, fun i hi => by rw [e1] at hi; rw [(e2 i hi).1, (e2 i hi).2]; exact hC.2.2.1 i hi, by rw [e1]; exact hC.2.2.2⟩
theorem MT_ex {t : Nat} {T T' : TB} {h : px_H} (e1 : T'.1 = T.1) (e2 : ∀ i, i < T.1 → T'.2.1 i = T.2.1 i ∧ T'.2.2 i = T.2.2 i) (hC : MT t T h) : MT t T' h := ⟨by rw [e1]; exact hC.1, by rw [e1]; exact hC.2.1, fun i hi => by rw [e1] at hi; rw [(e2 i hi).1, (e2 i hi).2]; exact hC.2.2 i hi⟩
theorem adI_tS (k : KY) : (tS k).1 = (adI tE k (Int64.ofInt 1000000000000)).1 ∧ ∀ i, i < (adI tE k (Int64.ofInt 1000000000000)).1 → (tS k).2.1 i = (adI tE k (Int64.ofInt 1000000000000)).2.1 i ∧ (tS k).2.2 i = (adI tE k (Int64.ofInt 1000000000000)).2.2 i := by
  refine ⟨rfl, fun i hi => ?_⟩
  have hi : i < 1 := hi
  have : i = 0 := by omega
  subst this
  exact ⟨rfl, rfl⟩
theorem QS_inj {k0 : KY} {s s' : Int64} {q q' : Int32} {k k' : KY} (a : QS u w k0 s q k) (b : QS u w k0 s' q' k') : (s = s' ∧ q = q') ↔ k = k' := by
  obtain ⟨rfl, rfl, rfl⟩ := a
  obtain ⟨rfl, rfl, rfl⟩ := b
  exact ⟨fun _ => rfl, fun _ => ⟨rfl, rfl⟩⟩
/-- the class's start, from a chest -/
theorem xs_start {c : Nat} {k0 : KY} {Q : Int64 → Int32 → KY → Prop} {E : TB} (hc : c ∈ [19, 20]) (xt : XT Q E hX) (o : oS hX) : ∃ hX', fn_Walk_start c hX = some hX' ∧ oS hX' ∧ fz WPS VPS hX hX' ∧ XT (QS (gL hX c 0) (gI hX c 1) k0) (tS k0) hX' := by
  obtain ⟨a, bb, e, g, rf, c1, c2, cE⟩ := xt
  obtain ⟨h1, q1, q2, q3, q4⟩ := ca_clear g.2.2.1 o (CT_0 cE)
  have hV : ∀ c, Nat.beq c (e + 4) = true → Vt e c = true := vt_4
  have r1 := RF_fz q3 (wt_28 g.2.2.1 0) (wt_28 g.2.2.1 1) (wt_28 g.2.2.1 2) rf
  have nw : ∀ k, Wtb e c k = false := fun k => by
    unfold Wtb
    have : c = 19 ∨ c = 20 := by simpa only [List.mem_cons, List.not_mem_nil, or_false] using hc
    rcases this with rfl | rfl <;> rcases tb_c g.2.2.1 with rfl | rfl | rfl <;> rfl
  obtain ⟨h2, a1, a2, a3, a4⟩ := ca_add (Q := QS (gL hX c 0) (gI hX c 1) k0) (T := tE) (c := Int64.ofInt 1000000000000) QS_inj g.2.2.1 q2 (q4 _) (s := gL hX c 0) (q := gI hX c 1) (k := k0) ⟨rfl, rfl, rfl⟩
  have f1 := px_t g.2.2.1 hV q3
  have f2 := px_t g.2.2.1 (fun _ h => h) a3
  refine ⟨h2, ?_, a2, wps_a (fz_tr f1 f2), a, bb, e, g, RF_fz a3 (wt_28 g.2.2.1 0) (wt_28 g.2.2.1 1) (wt_28 g.2.2.1 2) r1, CT0_fz a3 (wt_ne g.2.2.2.2.1) (fun c h1 h2 => vt_ne g.1 g.2.2.1 g.2.2.2.2.1 h1 h2) (CT0_fz q3 (wt_ne g.2.2.2.2.1) (fun c h1 h2 => ?_) c1), CT0_fz a3 (wt_ne g.2.2.2.2.2) (fun c h1 h2 => vt_ne g.2.1 g.2.2.1 g.2.2.2.2.2 h1 h2) (CT0_fz q3 (wt_ne g.2.2.2.2.2) (fun c h1 h2 => ?_) c2), CT_ex (adI_tS k0).1 (adI_tS k0).2 a4⟩
  · unfold fn_Walk_start
    rw [rf.2.2, q1, Option.bind_some, r1.2.2, fz_gL q3 (nw 0), fz_gI q3 (nw 1), a1]
    rfl
  · cases hb : Nat.beq c (e + 4) with
    | false => rfl
    | true => exact absurd (hV c hb) (by rw [vt_ne g.1 g.2.2.1 g.2.2.2.2.1 h1 h2]; decide)
  · cases hb : Nat.beq c (e + 4) with
    | false => rfl
    | true => exact absurd (hV c hb) (by rw [vt_ne g.2.1 g.2.2.1 g.2.2.2.2.2 h1 h2]; decide)
/-- the model's start -/
theorem ms_start (mx : MX h0 hM) : ∃ h1 h2, fn_M_empties (Int32.ofInt 2) hM = some h1 ∧ fn_M_adds (Int32.ofInt 2) (Int64.ofInt 1000000000000) h1 = some (Int32.ofInt 1, h2) ∧ MX h0 h2 ∧ MT 2 (tS (kyOf hM)) h2 ∧ fz W0 V9 hM h1 ∧ fz W0 V9 hM h2 := by
  obtain ⟨h1, a1, a2, a3, a4, a5, a6⟩ := cm_empties (t := 2) (by omega) mx.1
  have ky : kyOf h1 = kyOf hM := ky_cg (fun j _ => ⟨by rw [(a3.2 88 rfl).1], by rw [(a3.2 89 rfl).1]⟩) (fz_gI a3 rfl) (fz_gI a3 rfl) (fun p _ => by rw [(a3.2 90 rfl).1])
  obtain ⟨h2, b1, b2, b3, b4, b5, b6⟩ := cm_add (t := 2) (c := Int64.ofInt 1000000000000) (by omega) a2 a4 a5 tE_d
  rw [ky] at b1 b4
  exact ⟨h1, h2, a1, b1, MX_m (MX_m mx a2 (v9_w a3)) b2 (v9_w b3), MT_ex (adI_tS _).1 (adI_tS _).2 b4, a3, fz_tr a3 b3⟩
end tb_K
end mg_4
