/-! the relation with the tables and what was listed -/
def TD (l : Nat) (hX hM : px_H) : Prop := FD hX hM ∧ GT hX ∧ (∃ L ls, LIq L ls hX hM) ∧ RWq l hX hM
theorem nble_lt {n c : Nat} (h : Nat.ble n c = false) : c < n := Nat.lt_of_not_le (fun x => by rw [Nat.ble_eq_true_of_le x] at h; cases h)
section sy_TD
variable {hX hM hX' hM' : px_H} {l : Nat}
theorem RW_0 : RWq 0 hX hM := ⟨0, by omega, fun h => absurd h (by omega), fun h => absurd h (by omega)⟩
theorem fz_agX (a : agX hX hX') : fz (fun c _ => Nat.ble 69 c) (fun c => Nat.ble 69 c) hX hX' :=
  ⟨fun c k h => (a c (nble_lt h)).1 k, fun c h => ⟨(a c (nble_lt h)).2.1, (a c (nble_lt h)).2.2.1⟩⟩
theorem fz_agM (b : agM hM hM') : fz (fun c _ => !Nat.beq c 69) (fun c => !(Nat.ble 70 c && Nat.ble c 104)) hM hM' :=
  ⟨fun c k h => by
    have h : Nat.beq c 69 = true := by simpa using h
    rw [Nat.eq_of_beq_eq_true h]
    exact b.1 k, fun c h => by
    have h : (Nat.ble 70 c && Nat.ble c 104) = true := by simpa using h
    simp only [Bool.and_eq_true, Nat.ble_eq] at h
    exact b.2 c h.1 (by omega)⟩
abbrev tbF : List (Nat × Nat) := [(29, 3), (35, 3), (41, 3), (28, 0), (28, 1), (28, 2)]
abbrev tbA : List Nat := (List.range 17).map (30 + ·)
theorem GT_k {W : Nat → Nat → Bool} {V : Nat → Bool} (f : fz W V hX hX') (h : nX W V tbF tbA = true) (gt : GT hX) : GT hX' := by
  obtain ⟨Q, E, xt⟩ := gt
  refine ⟨Q, E, XT_fz f (fun c hc => ?_) ⟨nX_f h (by decide), nX_f h (by decide), nX_f h (by decide)⟩ (fun c h1 h2 => ?_) xt⟩
  · rcases tb_c hc with rfl | rfl | rfl
    · exact nX_f h (by decide)
    · exact nX_f h (by decide)
    · exact nX_f h (by decide)
  · have := nX_a h (c := 30 + (c - 30)) (List.mem_map.mpr ⟨c - 30, List.mem_range.mpr (by omega), rfl⟩)
    rw [show 30 + (c - 30) = c from by omega] at this
    exact this
theorem LI_k {L : Nat} {ls : Nat → Int32} {W W' : Nat → Nat → Bool} {V V' : Nat → Bool} (a : fz W V hX hX') (b : fz W' V' hM hM') (a1 : W 0 16 = false) (a2 : V 53 = false) (b1 : W' 69 49 = false) (b2 : V' 99 = false) (h : LIq L ls hX hM) : LIq L ls hX' hM' :=
  ⟨h.1, (fz_gI a a1).trans h.2.1, (fz_gI b b1).trans h.2.2.1, fun j hj => by rw [(a.2 53 a2).1, (b.2 99 b2).1]; exact h.2.2.2 j hj⟩
theorem TD_ag (a : agX hX hX') (b : agM hM hM') (h : TD l hX hM) : TD l hX' hM' := by
  obtain ⟨h1, h2, ⟨L, ls, h3⟩, h4⟩ := h
  have fa := fz_agX a
  have fb := fz_agM b
  exact ⟨FD_ag a b h1, GT_k fa (by decide) h2, ⟨L, ls, LI_k fa fb rfl rfl rfl rfl h3⟩, RWq_k fa fb rfl rfl rfl rfl h4⟩
def fdX (ws : List (Nat × Nat)) (wa : List Nat) : Bool := gX ws wa && nX (wF_ ws) (wA_ wa) [(1, 0), (1, 8), (14, 3), (19, 0), (19, 1), (19, 2), (0, 11), (0, 14), (66, 0), (66, 1), (66, 2), (67, 0), (67, 1), (67, 2), (68, 0), (68, 1), (68, 2)] [2, 3, 4, 5, 6, 7, 8, 9, 10, 11, 15, 16, 17, 52]
def fdM (ws : List (Nat × Nat)) (wa : List Nat) : Bool := gM ws wa && nX (wF_ ws) (wA_ wa) [(69, 3), (69, 11), (69, 15), (69, 20), (69, 31), (69, 32), (69, 33), (69, 37)] [71, 72, 73, 74, 75, 76, 77, 78, 79, 80, 81, 83, 84, 88, 89, 90, 100, 101, 102, 103, 104]
def gtF (ws : List (Nat × Nat)) (wa : List Nat) : Bool := nX (wF_ ws) (wA_ wa) tbF tbA
def liF (ws : List (Nat × Nat)) (wa : List Nat) : Bool := nX (wF_ ws) (wA_ wa) [(0, 16), (69, 49)] [53, 99]
theorem FD_k2 {ws ws' : List (Nat × Nat)} {wa wa' : List Nat} (oX : oS hX) (oX' : oS hX') (oM : oS hM) (oM' : oS hM') (a : px_fr ws wa hX hX') (b : px_fr ws' wa' hM hM') (ga : fdX ws wa = true) (gb : fdM ws' wa' = true) (h : FD hX hM) : FD hX' hM' := by
  simp only [fdX, fdM, Bool.and_eq_true] at ga gb
  obtain ⟨⟨z, dn, nx, ln, hL⟩, hK, hD, hT, hO⟩ := h
  have fa := fz_fr oX oX' a
  have fb := fz_fr oM oM' b
  obtain ⟨k1, k2, k3⟩ := TRO_fr oX oX' oM oM' a b ga.1 gb.1 ⟨hK, hT, hO⟩
  exact ⟨⟨z, dn, nx, ln, RLz_k fa fb ga.2 gb.2 hL⟩, k1, DY_k fb (nX_a gb.2 (by decide)) hD, k2, k3⟩
theorem s8_of (hG : ab_h nm_GH hM) : ∀ d, d < 6 → (aI hM 80 d).toInt ≤ 3 := fun d hd => by
  obtain ⟨s, hs, e⟩ := seats_b hG hd
  rw [e, nm_ofNat_toInt s (by omega)]
  omega
end sy_TD
def nm_R (hp : px_H) : Prop := TD 0 hp hp
def ex_tw (X M : Nat) (cmp : Bool) (a a' : Nat) (t : List Value) (hp : px_H) : Prop :=
  ∃ (v v' : Int32) (hp1 hp2 : px_H), px_C nm_T nm_P X (.ref a :: t) hp (some (.int v)) hp1 ∧ ab_h nm_GH hp1 ∧ px_C nm_T nm_P M (.ref a' :: t) hp1 (some (.int v')) hp2 ∧ ab_h nm_GH hp2 ∧ (cmp = true → v = v') ∧ nm_R hp2
/-- a question -/
theorem tq_two {κX κM : ac_K} (kX : nm_ok κX) (kM : nm_ok κM) (pX : κX.2.2.1 = []) (pM : κM.2.2.1 = []) (iX : isX κX.2.2.2.2.1 κX.2.2.2.2.2 = true) (iM : isM κM.2.2.2.2.1 κM.2.2.2.2.2 = true) {avX avM : List Value} (fX : px_H → Option (Int32 × px_H)) (fM : px_H → Option (Int32 × px_H))
    (xX : ∀ (h : px_H) (q : Int32 × px_H), oS h → fX h = some q → px_C nm_T nm_P κX.1 avX h (some (.int q.1)) q.2) (xM : ∀ (h : px_H) (q : Int32 × px_H), oS h → fM h = some q → px_C nm_T nm_P κM.1 avM h (some (.int q.1)) q.2) {cmp : Bool} {hp : px_H} (hG : ab_h nm_GH hp) (aX : ac_argv κX.2.1 avX) (aM : ac_argv κM.2.1 avM) (hR : nm_R hp)
    (ga : fdX κX.2.2.2.2.1 κX.2.2.2.2.2 = true) (gb : fdM κM.2.2.2.2.1 κM.2.2.2.2.2 = true) (la : liF κX.2.2.2.2.1 κX.2.2.2.2.2 = true) (lb : liF κM.2.2.2.2.1 κM.2.2.2.2.2 = true)
    (sim : ∀ hM : px_H, ab_h nm_GH hM → TD 0 hp hM → ∃ (v w : Int32) (hX' hM' : px_H), fX hp = some (v, hX') ∧ fM hM = some (w, hM') ∧ (cmp = true → v = w) ∧ GT hX') :
    ∃ (v v' : Int32) (hp1 hp2 : px_H), px_C nm_T nm_P κX.1 avX hp (some (.int v)) hp1 ∧ ab_h nm_GH hp1 ∧ px_C nm_T nm_P κM.1 avM hp1 (some (.int v')) hp2 ∧ ab_h nm_GH hp2 ∧ (cmp = true → v = v') ∧ nm_R hp2 :=
  two_of3 (R := TD 0) TD_ag (P := fun _ hX' _ => GT hX') kX kM pX pM iX iM fX fM xX xM hG aX aM hR sim
    (fun hM hX' hM' oX' oM' hR hP a b oM => by
      obtain ⟨hF, -, ⟨L, ls, li⟩, -⟩ := hR
      exact ⟨FD_k2 (oS_of hG) oX' oM oM' a b ga gb hF, hP, ⟨L, ls, LI_k (fz_fr (oS_of hG) oX' a) (fz_fr oM oM' b) (nX_f la (by decide)) (nX_a la (by decide)) (nX_f lb (by decide)) (nX_a lb (by decide)) li⟩, RW_0⟩)
/-- a call that the drawing level has been shown of -/
theorem td_lift {κX κM : ac_K} (kX : nm_ok κX) (kM : nm_ok κM) (pX : κX.2.2.1 = []) (pM : κM.2.2.1 = []) {a a' : Nat} {t : List Value} {cmp cmp' : Bool} {hp : px_H} (hG : ab_h nm_GH hp) (aX : ac_argv κX.2.1 (.ref a :: t)) (aM : ac_argv κM.2.1 (.ref a' :: t)) (hR : nm_R hp)
    (la : liF κX.2.2.2.2.1 κX.2.2.2.2.2 = true) (lb : liF κM.2.2.2.2.1 κM.2.2.2.2.2 = true) (tm : gtF κM.2.2.2.2.1 κM.2.2.2.2.2 = true)
    (gtX : ∀ (v : Int32) (hp1 : px_H), ab_h nm_GH hp1 → px_C nm_T nm_P κX.1 (.ref a :: t) hp (some (.int v)) hp1 → px_fr κX.2.2.2.2.1 κX.2.2.2.2.2 hp hp1 → GT hp1) (hcmp : ∀ (v v' : Int32) (hp1 hp2 : px_H), cmp' = true → px_C nm_T nm_P κX.1 (.ref a :: t) hp (some (.int v)) hp1 → ab_h nm_GH hp1 → px_fr κX.2.2.2.2.1 κX.2.2.2.2.2 hp hp1 → px_C nm_T nm_P κM.1 (.ref a' :: t) hp1 (some (.int v')) hp2 → (cmp = true → v = v') → v = v') (h : fd_tw κX.1 κM.1 cmp a a' t hp) : ex_tw κX.1 κM.1 cmp' a a' t hp := by
  obtain ⟨v, v', hp1, hp2, c1, g1, c2, g2, hv, hF⟩ := h
  obtain ⟨r, q1, o, m1, m2, m3, m4, -, -, m7⟩ := kX (.ref a :: t) hp hG aX (fun i hi => by rw [pX] at hi; cases hi)
  obtain ⟨-, e⟩ := px_C_fun c1 m2
  rw [← e] at m7
  obtain ⟨r', q2, o', n1, n2, n3, n4, -, -, n7⟩ := kM (.ref a' :: t) hp1 g1 aM (fun i hi => by rw [pM] at hi; cases hi)
  obtain ⟨-, e'⟩ := px_C_fun c2 n2
  rw [← e'] at n7
  obtain ⟨-, gt, ⟨L, ls, li⟩, -⟩ := hR
  have f1 := fz_fr (oS_of hG) (oS_of g1) m7
  have f2 := fz_fr (oS_of g1) (oS_of g2) n7
  have li1 := LI_k f1 f1 (nX_f la (by decide)) (nX_a la (by decide)) (nX_f la (by decide)) (nX_a la (by decide)) li
  exact ⟨v, v', hp1, hp2, c1, g1, c2, g2, fun x => hcmp v v' hp1 hp2 x c1 g1 m7 c2 hv, hF, GT_k f2 tm (gtX v hp1 g1 c1 m7), ⟨L, ls, LI_k f2 f2 (nX_f lb (by decide)) (nX_a lb (by decide)) (nX_f lb (by decide)) (nX_a lb (by decide)) li1⟩, RW_0⟩

theorem xp_person {hp : px_H} {a0 : Int32} (hG : ab_h nm_GH hp) (hR : nm_R hp) : ex_tw mi_X_person mi_M_person true 0 69 [.int a0] hp :=
  td_lift kp_X_person_0 kp_M_person_0 rfl rfl hG ⟨⟨rfl, List.mem_cons_self⟩, ⟨rfl, ab_i32 _⟩, trivial⟩ ⟨⟨rfl, List.mem_cons_self⟩, ⟨rfl, ab_i32 _⟩, trivial⟩ hR (by decide +kernel) (by decide +kernel) (by decide +kernel) (fun v hp1 g1 c1 f1 => GT_k (fz_fr (oS_of hG) (oS_of g1) f1) (by decide +kernel) hR.2.1) (fun v v' hp1 hp2 x _ _ _ _ hv => hv x) (xd_person hG hR.1)

theorem xp_debt {hp : px_H} {a0 : Int32} {a1 : Int32} (hG : ab_h nm_GH hp) (hR : nm_R hp) : ex_tw mi_X_debt mi_M_debt true 0 69 [.int a0, .int a1] hp :=
  td_lift kp_X_debt_0 kp_M_debt_0 rfl rfl hG ⟨⟨rfl, List.mem_cons_self⟩, ⟨rfl, ab_i32 _⟩, ⟨rfl, ab_i32 _⟩, trivial⟩ ⟨⟨rfl, List.mem_cons_self⟩, ⟨rfl, ab_i32 _⟩, ⟨rfl, ab_i32 _⟩, trivial⟩ hR (by decide +kernel) (by decide +kernel) (by decide +kernel) (fun v hp1 g1 c1 f1 => GT_k (fz_fr (oS_of hG) (oS_of g1) f1) (by decide +kernel) hR.2.1) (fun v v' hp1 hp2 x _ _ _ _ hv => hv x) (xd_debt hG hR.1)

theorem xp_away {hp : px_H} {a0 : Int32} {a1 : Int32} {a2 : Int32} (hG : ab_h nm_GH hp) (hR : nm_R hp) : ex_tw mi_X_away mi_M_away true 0 69 [.int a0, .int a1, .int a2] hp :=
  td_lift kp_X_away_0 kp_M_away_0 rfl rfl hG ⟨⟨rfl, List.mem_cons_self⟩, ⟨rfl, ab_i32 _⟩, ⟨rfl, ab_i32 _⟩, ⟨rfl, ab_i32 _⟩, trivial⟩ ⟨⟨rfl, List.mem_cons_self⟩, ⟨rfl, ab_i32 _⟩, ⟨rfl, ab_i32 _⟩, ⟨rfl, ab_i32 _⟩, trivial⟩ hR (by decide +kernel) (by decide +kernel) (by decide +kernel) (fun v hp1 g1 c1 f1 => GT_k (fz_fr (oS_of hG) (oS_of g1) f1) (by decide +kernel) hR.2.1) (fun v v' hp1 hp2 x _ _ _ _ hv => hv x) (xd_away hG hR.1)

theorem xp_dies {hp : px_H} {a0 : Int32} {a1 : Int32} (hG : ab_h nm_GH hp) (hR : nm_R hp) : ex_tw mi_X_dies mi_M_dies true 0 69 [.int a0, .int a1] hp :=
  td_lift kp_X_dies_0 kp_M_dies_0 rfl rfl hG ⟨⟨rfl, List.mem_cons_self⟩, ⟨rfl, ab_i32 _⟩, ⟨rfl, ab_i32 _⟩, trivial⟩ ⟨⟨rfl, List.mem_cons_self⟩, ⟨rfl, ab_i32 _⟩, ⟨rfl, ab_i32 _⟩, trivial⟩ hR (by decide +kernel) (by decide +kernel) (by decide +kernel) (fun v hp1 g1 c1 f1 => GT_k (fz_fr (oS_of hG) (oS_of g1) f1) (by decide +kernel) hR.2.1) (fun v v' hp1 hp2 x _ _ _ _ hv => hv x) (xd_dies hG hR.1)

theorem xp_sheet {hp : px_H} {a0 : Int32} {a1 : Int32} {a2 : Int32} {a3 : Int32} (hG : ab_h nm_GH hp) (hR : nm_R hp) : ex_tw mi_X_sheet mi_M_sheet true 0 69 [.int a0, .int a1, .int a2, .int a3] hp :=
  td_lift kp_X_sheet_0 kp_M_sheet_0 rfl rfl hG ⟨⟨rfl, List.mem_cons_self⟩, ⟨rfl, ab_i32 _⟩, ⟨rfl, ab_i32 _⟩, ⟨rfl, ab_i32 _⟩, ⟨rfl, ab_i32 _⟩, trivial⟩ ⟨⟨rfl, List.mem_cons_self⟩, ⟨rfl, ab_i32 _⟩, ⟨rfl, ab_i32 _⟩, ⟨rfl, ab_i32 _⟩, ⟨rfl, ab_i32 _⟩, trivial⟩ hR (by decide +kernel) (by decide +kernel) (by decide +kernel) (fun v hp1 g1 c1 f1 => GT_k (fz_fr (oS_of hG) (oS_of g1) f1) (by decide +kernel) hR.2.1) (fun v v' hp1 hp2 x _ _ _ _ hv => hv x) (xd_sheet hG hR.1)

theorem xp_pack {hp : px_H} {a0 : Int32} {a1 : Int32} (hG : ab_h nm_GH hp) (hR : nm_R hp) : ex_tw mi_X_pack mi_M_pack true 0 69 [.int a0, .int a1] hp :=
  td_lift kp_X_pack_0 kp_M_pack_0 rfl rfl hG ⟨⟨rfl, List.mem_cons_self⟩, ⟨rfl, ab_i32 _⟩, ⟨rfl, ab_i32 _⟩, trivial⟩ ⟨⟨rfl, List.mem_cons_self⟩, ⟨rfl, ab_i32 _⟩, ⟨rfl, ab_i32 _⟩, trivial⟩ hR (by decide +kernel) (by decide +kernel) (by decide +kernel) (fun v hp1 g1 c1 f1 => GT_k (fz_fr (oS_of hG) (oS_of g1) f1) (by decide +kernel) hR.2.1) (fun v v' hp1 hp2 x _ _ _ _ hv => hv x) (xd_pack hG hR.1)

theorem xp_renew {hp : px_H} {a0 : Int32} {a1 : Int32} (hb : 0 ≤ a1.toInt ∧ a1.toInt ≤ 1) (hG : ab_h nm_GH hp) (hR : nm_R hp) : ex_tw mi_X_renew mi_M_renew true 0 69 [.int a0, .int a1] hp :=
  td_lift kp_X_renew_0 kp_M_renew_0 rfl rfl hG ⟨⟨rfl, List.mem_cons_self⟩, ⟨rfl, ab_i32 _⟩, ⟨rfl, hb⟩, trivial⟩ ⟨⟨rfl, List.mem_cons_self⟩, ⟨rfl, ab_i32 _⟩, ⟨rfl, hb⟩, trivial⟩ hR (by decide +kernel) (by decide +kernel) (by decide +kernel) (fun v hp1 g1 c1 f1 => GT_k (fz_fr (oS_of hG) (oS_of g1) f1) (by decide +kernel) hR.2.1) (fun v v' hp1 hp2 x _ _ _ _ hv => hv x) (xd_renew hb hG hR.1)

theorem xp_drawing {hp : px_H} {a0 : Int32} {a1 : Int32} {a2 : Int32} (hG : ab_h nm_GH hp) (hR : nm_R hp) : ex_tw mi_X_drawing mi_M_drawing true 0 69 [.int a0, .int a1, .int a2] hp :=
  td_lift kp_X_drawing_0 kp_M_drawing_0 rfl rfl hG ⟨⟨rfl, List.mem_cons_self⟩, ⟨rfl, ab_i32 _⟩, ⟨rfl, ab_i32 _⟩, ⟨rfl, ab_i32 _⟩, trivial⟩ ⟨⟨rfl, List.mem_cons_self⟩, ⟨rfl, ab_i32 _⟩, ⟨rfl, ab_i32 _⟩, ⟨rfl, ab_i32 _⟩, trivial⟩ hR (by decide +kernel) (by decide +kernel) (by decide +kernel) (fun v hp1 g1 c1 f1 => GT_k (fz_fr (oS_of hG) (oS_of g1) f1) (by decide +kernel) hR.2.1) (fun v v' hp1 hp2 x _ _ _ _ hv => hv x) (xd_drawing hG hR.1)

theorem xp_sign {hp : px_H} {a0 : Int32} (hG : ab_h nm_GH hp) (hR : nm_R hp) : ex_tw mi_X_sign mi_M_sign true 0 69 [.int a0] hp :=
  td_lift kp_X_sign_0 kp_M_sign_0 rfl rfl hG ⟨⟨rfl, List.mem_cons_self⟩, ⟨rfl, ab_i32 _⟩, trivial⟩ ⟨⟨rfl, List.mem_cons_self⟩, ⟨rfl, ab_i32 _⟩, trivial⟩ hR (by decide +kernel) (by decide +kernel) (by decide +kernel) (fun v hp1 g1 c1 f1 => GT_k (fz_fr (oS_of hG) (oS_of g1) f1) (by decide +kernel) hR.2.1) (fun v v' hp1 hp2 x _ _ _ _ hv => hv x) (xd_sign hG hR.1)

theorem xp_end {hp : px_H} {a0 : Int32} (hG : ab_h nm_GH hp) (hR : nm_R hp) : ex_tw mi_X_end mi_M_end true 0 69 [.int a0] hp :=
  td_lift kp_X_end_0 kp_M_end_0 rfl rfl hG ⟨⟨rfl, List.mem_cons_self⟩, ⟨rfl, ab_i32 _⟩, trivial⟩ ⟨⟨rfl, List.mem_cons_self⟩, ⟨rfl, ab_i32 _⟩, trivial⟩ hR (by decide +kernel) (by decide +kernel) (by decide +kernel) (fun v hp1 g1 c1 f1 => GT_k (fz_fr (oS_of hG) (oS_of g1) f1) (by decide +kernel) hR.2.1) (fun v v' hp1 hp2 x _ _ _ _ hv => hv x) (xd_end hG hR.1)

theorem xp_rule {hp : px_H}  (hG : ab_h nm_GH hp) (hR : nm_R hp) : ex_tw mi_X_rule mi_M_rule true 0 69 [] hp :=
  td_lift kp_X_rule_0 kp_M_rule_0 rfl rfl hG ⟨⟨rfl, List.mem_cons_self⟩, trivial⟩ ⟨⟨rfl, List.mem_cons_self⟩, trivial⟩ hR (by decide +kernel) (by decide +kernel) (by decide +kernel) (fun v hp1 g1 c1 f1 => GT_k (fz_fr (oS_of hG) (oS_of g1) f1) (by decide +kernel) hR.2.1) (fun v v' hp1 hp2 x _ _ _ _ hv => hv x) (xd_rule hG hR.1)

theorem xp_other {hp : px_H} {a0 : Int32} (hG : ab_h nm_GH hp) (hR : nm_R hp) : ex_tw mi_X_other mi_M_other true 0 69 [.int a0] hp :=
  td_lift kp_X_other_0 kp_M_other_0 rfl rfl hG ⟨⟨rfl, List.mem_cons_self⟩, ⟨rfl, ab_i32 _⟩, trivial⟩ ⟨⟨rfl, List.mem_cons_self⟩, ⟨rfl, ab_i32 _⟩, trivial⟩ hR (by decide +kernel) (by decide +kernel) (by decide +kernel) (fun v hp1 g1 c1 f1 => GT_k (fz_fr (oS_of hG) (oS_of g1) f1) (by decide +kernel) hR.2.1) (fun v v' hp1 hp2 x _ _ _ _ hv => hv x) (xd_other hG hR.1)

theorem xp_bars {hp : px_H} {a0 : Int32} (hG : ab_h nm_GH hp) (hR : nm_R hp) : ex_tw mi_X_bars mi_M_bars true 0 69 [.int a0] hp :=
  td_lift kp_X_bars_0 kp_M_bars_0 rfl rfl hG ⟨⟨rfl, List.mem_cons_self⟩, ⟨rfl, ab_i32 _⟩, trivial⟩ ⟨⟨rfl, List.mem_cons_self⟩, ⟨rfl, ab_i32 _⟩, trivial⟩ hR (by decide +kernel) (by decide +kernel) (by decide +kernel) (fun v hp1 g1 c1 f1 => GT_k (fz_fr (oS_of hG) (oS_of g1) f1) (by decide +kernel) hR.2.1) (fun v v' hp1 hp2 x _ _ _ _ hv => hv x) (xd_bars hG hR.1)

theorem xp_run {hp : px_H}  (hG : ab_h nm_GH hp) (hR : nm_R hp) : ex_tw mi_X_run mi_M_run true 0 69 [] hp :=
  td_lift kp_X_run_0 kp_M_run_0 rfl rfl hG ⟨⟨rfl, List.mem_cons_self⟩, trivial⟩ ⟨⟨rfl, List.mem_cons_self⟩, trivial⟩ hR (by decide +kernel) (by decide +kernel) (by decide +kernel) (fun v hp1 g1 c1 f1 => GT_k (fz_fr (oS_of hG) (oS_of g1) f1) (by decide +kernel) hR.2.1) (fun v v' hp1 hp2 x _ _ _ _ hv => hv x) (xd_run hG hR.1)

theorem xp_judge {hp : px_H} {a0 : Int64} {a1 : Int32} (hG : ab_h nm_GH hp) (hR : nm_R hp) : ex_tw mi_X_judge mi_M_judge false 0 69 [.long a0, .int a1] hp :=
  td_lift kp_X_judge_0 kp_M_judge_0 rfl rfl hG ⟨⟨rfl, List.mem_cons_self⟩, ⟨rfl, ab_i64 _⟩, ⟨rfl, ab_i32 _⟩, trivial⟩ ⟨⟨rfl, List.mem_cons_self⟩, ⟨rfl, ab_i64 _⟩, ⟨rfl, ab_i32 _⟩, trivial⟩ hR (by decide +kernel) (by decide +kernel) (by decide +kernel) (fun v hp1 g1 c1 f1 => GT_k (fz_fr (oS_of hG) (oS_of g1) f1) (by decide +kernel) hR.2.1) (fun v v' hp1 hp2 x _ _ _ _ hv => hv x) (xd_judge hG hR.1)

theorem xp_hold {hp : px_H} {a0 : Int64} {a1 : Int32} (hG : ab_h nm_GH hp) (hR : nm_R hp) : ex_tw mi_X_hold mi_M_hold true 0 69 [.long a0, .int a1] hp :=
  td_lift kp_X_hold_0 kp_M_hold_0 rfl rfl hG ⟨⟨rfl, List.mem_cons_self⟩, ⟨rfl, ab_i64 _⟩, ⟨rfl, ab_i32 _⟩, trivial⟩ ⟨⟨rfl, List.mem_cons_self⟩, ⟨rfl, ab_i64 _⟩, ⟨rfl, ab_i32 _⟩, trivial⟩ hR (by decide +kernel) (by decide +kernel) (by decide +kernel) (fun v hp1 g1 c1 f1 => GT_k (fz_fr (oS_of hG) (oS_of g1) f1) (by decide +kernel) hR.2.1) (fun v v' hp1 hp2 x _ _ _ _ hv => hv x) (xd_hold hG hR.1)

theorem xp_begin {hp : px_H}  (hG : ab_h nm_GH hp) (hR : nm_R hp) : ex_tw mi_X_begin mi_M_begin true 0 69 [] hp :=
  td_lift kp_X_begin_0 kp_M_begin_0 rfl rfl hG ⟨⟨rfl, List.mem_cons_self⟩, trivial⟩ ⟨⟨rfl, List.mem_cons_self⟩, trivial⟩ hR (by decide +kernel) (by decide +kernel) (by decide +kernel) (fun v hp1 g1 c1 f1 => GT_k (fz_fr (oS_of hG) (oS_of g1) f1) (by decide +kernel) hR.2.1) (fun v v' hp1 hp2 x _ _ _ _ hv => hv x) (xd_begin hG hR.1)

theorem xp_bag {hp : px_H} {a0 : Int32} {a1 : Int32} (hG : ab_h nm_GH hp) (hR : nm_R hp) : ex_tw mi_X_bag mi_M_bag true 0 69 [.int a0, .int a1] hp :=
  td_lift kp_X_bag_0 kp_M_bag_0 rfl rfl hG ⟨⟨rfl, List.mem_cons_self⟩, ⟨rfl, ab_i32 _⟩, ⟨rfl, ab_i32 _⟩, trivial⟩ ⟨⟨rfl, List.mem_cons_self⟩, ⟨rfl, ab_i32 _⟩, ⟨rfl, ab_i32 _⟩, trivial⟩ hR (by decide +kernel) (by decide +kernel) (by decide +kernel) (fun v hp1 g1 c1 f1 => GT_k (fz_fr (oS_of hG) (oS_of g1) f1) (by decide +kernel) hR.2.1) (fun v v' hp1 hp2 x _ _ _ _ hv => hv x) (xd_bag hG hR.1)

theorem xp_sat {hp : px_H} {a0 : Int32} (hG : ab_h nm_GH hp) (hR : nm_R hp) : ex_tw mi_X_sat mi_M_sat true 0 69 [.int a0] hp :=
  td_lift kp_X_sat_0 kp_M_sat_0 rfl rfl hG ⟨⟨rfl, List.mem_cons_self⟩, ⟨rfl, ab_i32 _⟩, trivial⟩ ⟨⟨rfl, List.mem_cons_self⟩, ⟨rfl, ab_i32 _⟩, trivial⟩ hR (by decide +kernel) (by decide +kernel) (by decide +kernel) (fun v hp1 g1 c1 f1 => GT_k (fz_fr (oS_of hG) (oS_of g1) f1) (by decide +kernel) hR.2.1) (fun v v' hp1 hp2 x _ _ _ _ hv => hv x) (xd_sat hG hR.1)

theorem xp_seed {hp : px_H} {a0 : Int32} (hG : ab_h nm_GH hp) (hR : nm_R hp) : ex_tw mi_X_seed mi_M_seed true 0 69 [.int a0] hp :=
  td_lift kp_X_seed_0 kp_M_seed_0 rfl rfl hG ⟨⟨rfl, List.mem_cons_self⟩, ⟨rfl, ab_i32 _⟩, trivial⟩ ⟨⟨rfl, List.mem_cons_self⟩, ⟨rfl, ab_i32 _⟩, trivial⟩ hR (by decide +kernel) (by decide +kernel) (by decide +kernel) (fun v hp1 g1 c1 f1 => GT_k (fz_fr (oS_of hG) (oS_of g1) f1) (by decide +kernel) hR.2.1) (fun v v' hp1 hp2 x _ _ _ _ hv => hv x) (xd_seed hG hR.1)

theorem xp_keep {hp : px_H} {a0 : Int32} (hG : ab_h nm_GH hp) (hR : nm_R hp) : ex_tw mi_X_keep mi_M_keep true 0 69 [.int a0] hp :=
  td_lift kp_X_keep_0 kp_M_keep_0 rfl rfl hG ⟨⟨rfl, List.mem_cons_self⟩, ⟨rfl, ab_i32 _⟩, trivial⟩ ⟨⟨rfl, List.mem_cons_self⟩, ⟨rfl, ab_i32 _⟩, trivial⟩ hR (by decide +kernel) (by decide +kernel) (by decide +kernel) (fun v hp1 g1 c1 f1 => GT_k (fz_fr (oS_of hG) (oS_of g1) f1) (by decide +kernel) hR.2.1) (fun v v' hp1 hp2 x _ _ _ _ hv => hv x) (xd_keep hG hR.1)

theorem xp_again {hp : px_H} {a0 : Int32} (hG : ab_h nm_GH hp) (hR : nm_R hp) : ex_tw mi_X_again mi_M_again true 0 69 [.int a0] hp :=
  td_lift kp_X_again_0 kp_M_again_0 rfl rfl hG ⟨⟨rfl, List.mem_cons_self⟩, ⟨rfl, ab_i32 _⟩, trivial⟩ ⟨⟨rfl, List.mem_cons_self⟩, ⟨rfl, ab_i32 _⟩, trivial⟩ hR (by decide +kernel) (by decide +kernel) (by decide +kernel) (fun v hp1 g1 c1 f1 => GT_k (fz_fr (oS_of hG) (oS_of g1) f1) (by decide +kernel) hR.2.1) (fun v v' hp1 hp2 x _ _ _ _ hv => hv x) (xd_again hG hR.1)

theorem xp_fair {hp : px_H} {a0 a1 : Int32} (hG : ab_h nm_GH hp) (hR : nm_R hp) : ex_tw mi_X_fair mi_M_fair false 0 69 [.int a0, .int a1] hp :=
  td_lift kp_X_fair_0 kp_M_fair_0 rfl rfl hG ⟨⟨rfl, List.mem_cons_self⟩, ⟨rfl, ab_i32 _⟩, ⟨rfl, ab_i32 _⟩, trivial⟩ ⟨⟨rfl, List.mem_cons_self⟩, ⟨rfl, ab_i32 _⟩, ⟨rfl, ab_i32 _⟩, trivial⟩ hR (by decide +kernel) (by decide +kernel) (by decide +kernel) (fun v hp1 g1 c1 f1 => by
    obtain ⟨⟨⟨z, dn, nx, ln, hL⟩, hK, -, -, hO⟩, gt, -⟩ := hR
    obtain ⟨v9, x9, e1, e2⟩ := fair_gt hG (oS_of hG) hL hO.1 hK.2 gt a0 a1
    obtain ⟨-, e⟩ := px_C_fun c1 (fx_X_fair (oS_of hG) e1).1
    rw [e]
    exact e2) (fun v v' hp1 hp2 x _ _ _ _ hv => (by cases x)) (xd_fair hG hR.1)
theorem xp_war {hp : px_H} {a0 a1 : Int32} (hG : ab_h nm_GH hp) (hR : nm_R hp) : ex_tw mi_X_war mi_M_war true 0 69 [.int a0, .int a1] hp :=
  td_lift kp_X_war_0 kp_M_war_0 rfl rfl hG ⟨⟨rfl, List.mem_cons_self⟩, ⟨rfl, ab_i32 _⟩, ⟨rfl, ab_i32 _⟩, trivial⟩ ⟨⟨rfl, List.mem_cons_self⟩, ⟨rfl, ab_i32 _⟩, ⟨rfl, ab_i32 _⟩, trivial⟩ hR (by decide +kernel) (by decide +kernel) (by decide +kernel) (fun v hp1 g1 c1 f1 => by
    obtain ⟨⟨⟨z, dn, nx, ln, hL⟩, -⟩, gt, -, hW⟩ := hR
    obtain ⟨v9, x9, y9, e1, e2, e3⟩ := sim_war (oS_of hG) (oS_of hG) hL (s8_of hG) gt hW a0 a1
    obtain ⟨-, e⟩ := px_C_fun c1 (fx_X_war (oS_of hG) e1).1
    rw [e]
    exact e3.1) (fun v v' hp1 hp2 x c1 g1 f1 c2 _ => by
    obtain ⟨⟨⟨z, dn, nx, ln, hL⟩, -⟩, gt, -, hW⟩ := hR
    have A : agM hp hp1 := agM_of (oS_of hG) f1 (by decide +kernel)
    obtain ⟨v9, x9, y9, e1, e2, e3⟩ := sim_war (l := 0) (oS_of hG) (oS_of g1) (RLz_ag (agX_rf hp) A hL) (s8_of g1) gt RW_0 a0 a1
    obtain ⟨e4, -⟩ := px_C_fun c1 (fx_X_war (oS_of hG) e1).1
    obtain ⟨e5, -⟩ := px_C_fun c2 (fx_M_war (oS_of g1) e2).1
    have e4 : some (Value.int v) = some (Value.int v9) := e4
    have e5 : some (Value.int v') = some (Value.int v9) := e5
    injection e4 with e4
    injection e4 with e4
    injection e5 with e5
    injection e5 with e5
    rw [e4, e5]) (xd_war hG hR.1)

theorem xp_chance {hp : px_H} {a0 : Int32} {a1 : Int32} (hG : ab_h nm_GH hp) (hR : nm_R hp) : ex_tw mi_X_chance mi_M_chance true 0 69 [.int a0, .int a1] hp :=
  tq_two kp_X_chance_0 kp_M_chance_0 rfl rfl (by decide +kernel) (by decide +kernel) (avX := [.ref 0, .int a0, .int a1]) (avM := [.ref 69, .int a0, .int a1]) (fn_X_chance a0 a1) (fn_M_chance a0 a1) (fun h q hS e => (fx_X_chance hS e).1) (fun h q hS e => (fx_M_chance hS e).1) (cmp := true) hG ⟨⟨rfl, List.mem_cons_self⟩, ⟨rfl, ab_i32 _⟩, ⟨rfl, ab_i32 _⟩, trivial⟩ ⟨⟨rfl, List.mem_cons_self⟩, ⟨rfl, ab_i32 _⟩, ⟨rfl, ab_i32 _⟩, trivial⟩ hR (by decide +kernel) (by decide +kernel) (by decide +kernel) (by decide +kernel) (fun hM gM hR => by
    obtain ⟨⟨⟨z, dn, nx, ln, hL⟩, -⟩, gt, ⟨L, ls, li⟩, hW⟩ := hR
    obtain ⟨v, hX', hM', e1, e2, h⟩ := sim_chance (l := 0) (oS_of hG) (oS_of gM) hL gt hW a0 a1
    exact ⟨v, v, hX', hM', e1, e2, fun _ => rfl, h.1⟩)

theorem xp_each {hp : px_H} {a0 : Int32} (hG : ab_h nm_GH hp) (hR : nm_R hp) : ex_tw mi_X_each mi_M_each true 0 69 [.int a0] hp :=
  tq_two kp_X_each_0 kp_M_each_0 rfl rfl (by decide +kernel) (by decide +kernel) (avX := [.ref 0, .int a0]) (avM := [.ref 69, .int a0]) (fn_X_each a0) (fn_M_each a0) (fun h q hS e => (fx_X_each hS e).1) (fun h q hS e => (fx_M_each hS e).1) (cmp := true) hG ⟨⟨rfl, List.mem_cons_self⟩, ⟨rfl, ab_i32 _⟩, trivial⟩ ⟨⟨rfl, List.mem_cons_self⟩, ⟨rfl, ab_i32 _⟩, trivial⟩ hR (by decide +kernel) (by decide +kernel) (by decide +kernel) (by decide +kernel) (fun hM gM hR => by
    obtain ⟨⟨⟨z, dn, nx, ln, hL⟩, -⟩, gt, ⟨L, ls, li⟩, hW⟩ := hR
    obtain ⟨v, hX', hM', e1, e2, h⟩ := sim_each (l := 0) (oS_of hG) (oS_of gM) hL gt hW a0
    exact ⟨v, v, hX', hM', e1, e2, fun _ => rfl, h.1⟩)

theorem xp_ever {hp : px_H} {a0 : Int32} (hG : ab_h nm_GH hp) (hR : nm_R hp) : ex_tw mi_X_ever mi_M_ever true 0 69 [.int a0] hp :=
  tq_two kp_X_ever_0 kp_M_ever_0 rfl rfl (by decide +kernel) (by decide +kernel) (avX := [.ref 0, .int a0]) (avM := [.ref 69, .int a0]) (fn_X_ever a0) (fn_M_ever a0) (fun h q hS e => (fx_X_ever hS e).1) (fun h q hS e => (fx_M_ever hS e).1) (cmp := true) hG ⟨⟨rfl, List.mem_cons_self⟩, ⟨rfl, ab_i32 _⟩, trivial⟩ ⟨⟨rfl, List.mem_cons_self⟩, ⟨rfl, ab_i32 _⟩, trivial⟩ hR (by decide +kernel) (by decide +kernel) (by decide +kernel) (by decide +kernel) (fun hM gM hR => by
    obtain ⟨⟨⟨z, dn, nx, ln, hL⟩, -⟩, gt, ⟨L, ls, li⟩, hW⟩ := hR
    obtain ⟨v, hX', hM', e1, e2, h⟩ := sim_ever (l := 0) (oS_of hG) (oS_of gM) hL gt hW a0
    exact ⟨v, v, hX', hM', e1, e2, fun _ => rfl, h.1⟩)

theorem xp_empty {hp : px_H} {a0 : Int32} (hG : ab_h nm_GH hp) (hR : nm_R hp) : ex_tw mi_X_empty mi_M_empty true 0 69 [.int a0] hp :=
  tq_two kp_X_empty_0 kp_M_empty_0 rfl rfl (by decide +kernel) (by decide +kernel) (avX := [.ref 0, .int a0]) (avM := [.ref 69, .int a0]) (fn_X_empty a0) (fn_M_empty a0) (fun h q hS e => (fx_X_empty hS e).1) (fun h q hS e => (fx_M_empty hS e).1) (cmp := true) hG ⟨⟨rfl, List.mem_cons_self⟩, ⟨rfl, ab_i32 _⟩, trivial⟩ ⟨⟨rfl, List.mem_cons_self⟩, ⟨rfl, ab_i32 _⟩, trivial⟩ hR (by decide +kernel) (by decide +kernel) (by decide +kernel) (by decide +kernel) (fun hM gM hR => by
    obtain ⟨⟨⟨z, dn, nx, ln, hL⟩, -⟩, gt, ⟨L, ls, li⟩, hW⟩ := hR
    obtain ⟨v, hX', hM', e1, e2, h⟩ := sim_empty (l := 0) (oS_of hG) (oS_of gM) hL (s8_of gM) gt hW a0
    exact ⟨v, v, hX', hM', e1, e2, fun _ => rfl, h.1⟩)

theorem xp_vain {hp : px_H} {a0 : Int32} (hG : ab_h nm_GH hp) (hR : nm_R hp) : ex_tw mi_X_vain mi_M_vain true 0 69 [.int a0] hp :=
  tq_two kp_X_vain_0 kp_M_vain_0 rfl rfl (by decide +kernel) (by decide +kernel) (avX := [.ref 0, .int a0]) (avM := [.ref 69, .int a0]) (fn_X_vain a0) (fn_M_vain a0) (fun h q hS e => (fx_X_vain hS e).1) (fun h q hS e => (fx_M_vain hS e).1) (cmp := true) hG ⟨⟨rfl, List.mem_cons_self⟩, ⟨rfl, ab_i32 _⟩, trivial⟩ ⟨⟨rfl, List.mem_cons_self⟩, ⟨rfl, ab_i32 _⟩, trivial⟩ hR (by decide +kernel) (by decide +kernel) (by decide +kernel) (by decide +kernel) (fun hM gM hR => by
    obtain ⟨⟨⟨z, dn, nx, ln, hL⟩, -⟩, gt, ⟨L, ls, li⟩, hW⟩ := hR
    obtain ⟨v, hX', hM', e1, e2, h⟩ := sim_vain (l := 0) (oS_of hG) (oS_of gM) hL gt hW a0
    exact ⟨v, v, hX', hM', e1, e2, fun _ => rfl, h.1⟩)

theorem xp_house {hp : px_H} {a0 : Int32} {a1 : Int32} (hG : ab_h nm_GH hp) (hR : nm_R hp) : ex_tw mi_X_house mi_M_house true 0 69 [.int a0, .int a1] hp :=
  tq_two kp_X_house_0 kp_M_house_0 rfl rfl (by decide +kernel) (by decide +kernel) (avX := [.ref 0, .int a0, .int a1]) (avM := [.ref 69, .int a0, .int a1]) (fn_X_house a0 a1) (fn_M_house a0 a1) (fun h q hS e => (fx_X_house hS e).1) (fun h q hS e => (fx_M_house hS e).1) (cmp := true) hG ⟨⟨rfl, List.mem_cons_self⟩, ⟨rfl, ab_i32 _⟩, ⟨rfl, ab_i32 _⟩, trivial⟩ ⟨⟨rfl, List.mem_cons_self⟩, ⟨rfl, ab_i32 _⟩, ⟨rfl, ab_i32 _⟩, trivial⟩ hR (by decide +kernel) (by decide +kernel) (by decide +kernel) (by decide +kernel) (fun hM gM hR => by
    obtain ⟨⟨⟨z, dn, nx, ln, hL⟩, -⟩, gt, ⟨L, ls, li⟩, hW⟩ := hR
    obtain ⟨v, hX', hM', e1, e2, h⟩ := sim_house (l := 0) (oS_of hG) (oS_of gM) hL gt hW a0 a1
    exact ⟨v, v, hX', hM', e1, e2, fun _ => rfl, h.1⟩)

theorem xp_ways {hp : px_H} {a0 : Int32} (hG : ab_h nm_GH hp) (hR : nm_R hp) : ex_tw mi_X_ways mi_M_ways true 0 69 [.int a0] hp :=
  tq_two kp_X_ways_0 kp_M_ways_0 rfl rfl (by decide +kernel) (by decide +kernel) (avX := [.ref 0, .int a0]) (avM := [.ref 69, .int a0]) (fn_X_ways a0) (fn_M_ways a0) (fun h q hS e => (fx_X_ways hS e).1) (fun h q hS e => (fx_M_ways hS e).1) (cmp := true) hG ⟨⟨rfl, List.mem_cons_self⟩, ⟨rfl, ab_i32 _⟩, trivial⟩ ⟨⟨rfl, List.mem_cons_self⟩, ⟨rfl, ab_i32 _⟩, trivial⟩ hR (by decide +kernel) (by decide +kernel) (by decide +kernel) (by decide +kernel) (fun hM gM hR => by
    obtain ⟨⟨⟨z, dn, nx, ln, hL⟩, -⟩, gt, ⟨L, ls, li⟩, hW⟩ := hR
    obtain ⟨v, hX', hM', e1, e2, h⟩ := sim_ways (l := 0) (oS_of hG) (oS_of gM) hL gt hW a0
    exact ⟨v, v, hX', hM', e1, e2, fun _ => rfl, h.1⟩)

theorem xp_sure {hp : px_H} {a0 : Int32} {a1 : Int32} (hG : ab_h nm_GH hp) (hR : nm_R hp) : ex_tw mi_X_sure mi_M_sure true 0 69 [.int a0, .int a1] hp :=
  tq_two kp_X_sure_0 kp_M_sure_0 rfl rfl (by decide +kernel) (by decide +kernel) (avX := [.ref 0, .int a0, .int a1]) (avM := [.ref 69, .int a0, .int a1]) (fn_X_sure a0 a1) (fn_M_sure a0 a1) (fun h q hS e => (fx_X_sure hS e).1) (fun h q hS e => (fx_M_sure hS e).1) (cmp := true) hG ⟨⟨rfl, List.mem_cons_self⟩, ⟨rfl, ab_i32 _⟩, ⟨rfl, ab_i32 _⟩, trivial⟩ ⟨⟨rfl, List.mem_cons_self⟩, ⟨rfl, ab_i32 _⟩, ⟨rfl, ab_i32 _⟩, trivial⟩ hR (by decide +kernel) (by decide +kernel) (by decide +kernel) (by decide +kernel) (fun hM gM hR => by
    obtain ⟨⟨⟨z, dn, nx, ln, hL⟩, -⟩, gt, ⟨L, ls, li⟩, hW⟩ := hR
    obtain ⟨v, hX', hM', e1, e2, h⟩ := sim_sure (l := 0) (oS_of hG) (oS_of gM) hL gt hW a0 a1
    exact ⟨v, v, hX', hM', e1, e2, fun _ => rfl, h.1⟩)

theorem xp_sit {hp : px_H} {a0 : Int32} {a1 : Int32} (hG : ab_h nm_GH hp) (hR : nm_R hp) : ex_tw mi_X_sit mi_M_sit true 0 69 [.int a0, .int a1] hp :=
  tq_two kp_X_sit_0 kp_M_sit_0 rfl rfl (by decide +kernel) (by decide +kernel) (avX := [.ref 0, .int a0, .int a1]) (avM := [.ref 69, .int a0, .int a1]) (fn_X_sit a0 a1) (fn_M_sit a0 a1) (fun h q hS e => (fx_X_sit hS e).1) (fun h q hS e => (fx_M_sit hS e).1) (cmp := true) hG ⟨⟨rfl, List.mem_cons_self⟩, ⟨rfl, ab_i32 _⟩, ⟨rfl, ab_i32 _⟩, trivial⟩ ⟨⟨rfl, List.mem_cons_self⟩, ⟨rfl, ab_i32 _⟩, ⟨rfl, ab_i32 _⟩, trivial⟩ hR (by decide +kernel) (by decide +kernel) (by decide +kernel) (by decide +kernel) (fun hM gM hR => by
    obtain ⟨⟨⟨z, dn, nx, ln, hL⟩, -⟩, gt, ⟨L, ls, li⟩, hW⟩ := hR
    obtain ⟨v, hX', hM', e1, e2, h⟩ := sim_sit (l := 0) (oS_of hG) (oS_of gM) hL gt hW a0 a1
    exact ⟨v, v, hX', hM', e1, e2, fun _ => rfl, h.1⟩)

theorem xp_known {hp : px_H}  (hG : ab_h nm_GH hp) (hR : nm_R hp) : ex_tw mi_X_known mi_M_known true 0 69 [] hp :=
  tq_two kp_X_known_0 kp_M_known_0 rfl rfl (by decide +kernel) (by decide +kernel) (avX := [.ref 0]) (avM := [.ref 69]) (fn_X_known) (fn_M_known) (fun h q hS e => (fx_X_known hS e).1) (fun h q hS e => (fx_M_known hS e).1) (cmp := true) hG ⟨⟨rfl, List.mem_cons_self⟩, trivial⟩ ⟨⟨rfl, List.mem_cons_self⟩, trivial⟩ hR (by decide +kernel) (by decide +kernel) (by decide +kernel) (by decide +kernel) (fun hM gM hR => by
    obtain ⟨⟨⟨z, dn, nx, ln, hL⟩, -⟩, gt, ⟨L, ls, li⟩, hW⟩ := hR
    obtain ⟨v, hX', hM', e1, e2, h⟩ := sim_known (l := 0) (oS_of hG) (oS_of gM) hL gt hW
    exact ⟨v, v, hX', hM', e1, e2, fun _ => rfl, h.1⟩)

theorem xp_best {hp : px_H} {a0 : Int32} {a1 : Int32} {a2 : Int32} {a3 : Int32} {a4 : Int32} (hG : ab_h nm_GH hp) (hR : nm_R hp) : ex_tw mi_X_best mi_M_best true 0 69 [.int a0, .int a1, .int a2, .int a3, .int a4] hp :=
  tq_two kp_X_best_0 kp_M_best_0 rfl rfl (by decide +kernel) (by decide +kernel) (avX := [.ref 0, .int a0, .int a1, .int a2, .int a3, .int a4]) (avM := [.ref 69, .int a0, .int a1, .int a2, .int a3, .int a4]) (fn_X_best a0 a1 a2 a3 a4) (fn_M_best a0 a1 a2 a3 a4) (fun h q hS e => (fx_X_best hS e).1) (fun h q hS e => (fx_M_best hS e).1) (cmp := true) hG ⟨⟨rfl, List.mem_cons_self⟩, ⟨rfl, ab_i32 _⟩, ⟨rfl, ab_i32 _⟩, ⟨rfl, ab_i32 _⟩, ⟨rfl, ab_i32 _⟩, ⟨rfl, ab_i32 _⟩, trivial⟩ ⟨⟨rfl, List.mem_cons_self⟩, ⟨rfl, ab_i32 _⟩, ⟨rfl, ab_i32 _⟩, ⟨rfl, ab_i32 _⟩, ⟨rfl, ab_i32 _⟩, ⟨rfl, ab_i32 _⟩, trivial⟩ hR (by decide +kernel) (by decide +kernel) (by decide +kernel) (by decide +kernel) (fun hM gM hR => by
    obtain ⟨⟨⟨z, dn, nx, ln, hL⟩, -⟩, gt, ⟨L, ls, li⟩, hW⟩ := hR
    obtain ⟨v, hX', hM', e1, e2, h⟩ := sim_best (oS_of hG) (oS_of gM) hL gt a0 a1 a2 a3 a4
    exact ⟨v, v, hX', hM', e1, e2, fun _ => rfl, h⟩)

theorem xp_never {hp : px_H} {a0 : Int32} {a1 : Int32} {a2 : Int32} {a3 : Int32} (hG : ab_h nm_GH hp) (hR : nm_R hp) : ex_tw mi_X_never mi_M_never true 0 69 [.int a0, .int a1, .int a2, .int a3] hp :=
  tq_two kp_X_never_0 kp_M_never_0 rfl rfl (by decide +kernel) (by decide +kernel) (avX := [.ref 0, .int a0, .int a1, .int a2, .int a3]) (avM := [.ref 69, .int a0, .int a1, .int a2, .int a3]) (fn_X_never a0 a1 a2 a3) (fn_M_never a0 a1 a2 a3) (fun h q hS e => (fx_X_never hS e).1) (fun h q hS e => (fx_M_never hS e).1) (cmp := true) hG ⟨⟨rfl, List.mem_cons_self⟩, ⟨rfl, ab_i32 _⟩, ⟨rfl, ab_i32 _⟩, ⟨rfl, ab_i32 _⟩, ⟨rfl, ab_i32 _⟩, trivial⟩ ⟨⟨rfl, List.mem_cons_self⟩, ⟨rfl, ab_i32 _⟩, ⟨rfl, ab_i32 _⟩, ⟨rfl, ab_i32 _⟩, ⟨rfl, ab_i32 _⟩, trivial⟩ hR (by decide +kernel) (by decide +kernel) (by decide +kernel) (by decide +kernel) (fun hM gM hR => by
    obtain ⟨⟨⟨z, dn, nx, ln, hL⟩, -⟩, gt, ⟨L, ls, li⟩, hW⟩ := hR
    obtain ⟨v, hX', hM', e1, e2, h⟩ := sim_never (oS_of hG) (oS_of gM) hL gt a0 a1 a2 a3
    exact ⟨v, v, hX', hM', e1, e2, fun _ => rfl, h⟩)

theorem xp_even {hp : px_H} {a0 : Int32} {a1 : Int32} {a2 : Int32} {a3 : Int32} (hG : ab_h nm_GH hp) (hR : nm_R hp) : ex_tw mi_X_even mi_M_even true 0 69 [.int a0, .int a1, .int a2, .int a3] hp :=
  tq_two kp_X_even_0 kp_M_even_0 rfl rfl (by decide +kernel) (by decide +kernel) (avX := [.ref 0, .int a0, .int a1, .int a2, .int a3]) (avM := [.ref 69, .int a0, .int a1, .int a2, .int a3]) (fn_X_even a0 a1 a2 a3) (fn_M_even a0 a1 a2 a3) (fun h q hS e => (fx_X_even hS e).1) (fun h q hS e => (fx_M_even hS e).1) (cmp := true) hG ⟨⟨rfl, List.mem_cons_self⟩, ⟨rfl, ab_i32 _⟩, ⟨rfl, ab_i32 _⟩, ⟨rfl, ab_i32 _⟩, ⟨rfl, ab_i32 _⟩, trivial⟩ ⟨⟨rfl, List.mem_cons_self⟩, ⟨rfl, ab_i32 _⟩, ⟨rfl, ab_i32 _⟩, ⟨rfl, ab_i32 _⟩, ⟨rfl, ab_i32 _⟩, trivial⟩ hR (by decide +kernel) (by decide +kernel) (by decide +kernel) (by decide +kernel) (fun hM gM hR => by
    obtain ⟨⟨⟨z, dn, nx, ln, hL⟩, -⟩, gt, ⟨L, ls, li⟩, hW⟩ := hR
    obtain ⟨v, hX', hM', e1, e2, h⟩ := sim_even (oS_of hG) (oS_of gM) hL gt a0 a1 a2 a3
    exact ⟨v, v, hX', hM', e1, e2, fun _ => rfl, h⟩)

theorem xp_old {hp : px_H} {a0 : Int32} {a1 : Int32} (hG : ab_h nm_GH hp) (hR : nm_R hp) : ex_tw mi_X_old mi_M_old true 0 69 [.int a0, .int a1] hp :=
  tq_two kp_X_old_0 kp_M_old_0 rfl rfl (by decide +kernel) (by decide +kernel) (avX := [.ref 0, .int a0, .int a1]) (avM := [.ref 69, .int a0, .int a1]) (fn_X_old a0 a1) (fn_M_old a0 a1) (fun h q hS e => (fx_X_old hS e).1) (fun h q hS e => (fx_M_old hS e).1) (cmp := true) hG ⟨⟨rfl, List.mem_cons_self⟩, ⟨rfl, ab_i32 _⟩, ⟨rfl, ab_i32 _⟩, trivial⟩ ⟨⟨rfl, List.mem_cons_self⟩, ⟨rfl, ab_i32 _⟩, ⟨rfl, ab_i32 _⟩, trivial⟩ hR (by decide +kernel) (by decide +kernel) (by decide +kernel) (by decide +kernel) (fun hM gM hR => by
    obtain ⟨⟨⟨z, dn, nx, ln, hL⟩, -⟩, gt, ⟨L, ls, li⟩, hW⟩ := hR
    obtain ⟨v, hX', hM', e1, e2, h⟩ := sim_old (oS_of hG) (oS_of gM) hL gt li a0 a1
    exact ⟨v, v, hX', hM', e1, e2, fun _ => rfl, h⟩)

theorem xp_seldom {hp : px_H}  (hG : ab_h nm_GH hp) (hR : nm_R hp) : ex_tw mi_X_seldom mi_M_seldom true 0 69 [] hp :=
  tq_two kp_X_seldom_0 kp_M_seldom_0 rfl rfl (by decide +kernel) (by decide +kernel) (avX := [.ref 0]) (avM := [.ref 69]) (fn_X_seldom) (fn_M_seldom) (fun h q hS e => (fx_X_seldom hS e).1) (fun h q hS e => (fx_M_seldom hS e).1) (cmp := true) hG ⟨⟨rfl, List.mem_cons_self⟩, trivial⟩ ⟨⟨rfl, List.mem_cons_self⟩, trivial⟩ hR (by decide +kernel) (by decide +kernel) (by decide +kernel) (by decide +kernel) (fun hM gM hR => by
    obtain ⟨⟨⟨z, dn, nx, ln, hL⟩, -⟩, gt, ⟨L, ls, li⟩, hW⟩ := hR
    obtain ⟨v, hX', hM', e1, e2, h⟩ := sim_seldom (l := 0) (oS_of hG) (oS_of gM) hL gt hW li
    exact ⟨v, v, hX', hM', e1, e2, fun _ => rfl, h.1⟩)

theorem xp_list {hp : px_H} {a0 : Int32} (hG : ab_h nm_GH hp) (hR : nm_R hp) : ex_tw mi_X_list mi_M_list true 0 69 [.int a0] hp :=
  two_of3 (R := TD 0) TD_ag (P := fun _ hX' hM' => ∃ L ls, LIq L ls hX' hM') kp_X_list_0 kp_M_list_0 rfl rfl (by decide +kernel) (by decide +kernel) (avX := [.ref 0, .int a0]) (avM := [.ref 69, .int a0]) (fn_X_list a0) (fn_M_list a0) (fun h q hS e => (fx_X_list hS e).1) (fun h q hS e => (fx_M_list hS e).1) (cmp := true) hG ⟨⟨rfl, List.mem_cons_self⟩, ⟨rfl, ab_i32 _⟩, trivial⟩ ⟨⟨rfl, List.mem_cons_self⟩, ⟨rfl, ab_i32 _⟩, trivial⟩ hR (fun hM gM hR => by
    obtain ⟨⟨⟨z, dn, nx, ln, hL⟩, -⟩, gt, ⟨L, ls, li⟩, hW⟩ := hR
    obtain ⟨v, hX', hM', e1, e2, h⟩ := sim_list (oS_of hG) (oS_of gM) hL li a0
    exact ⟨v, v, hX', hM', e1, e2, fun _ => rfl, h⟩) (fun hM hX' hM' oX' oM' hR hP a b oM => ⟨FD_k2 (oS_of hG) oX' oM oM' a b (by decide +kernel) (by decide +kernel) hR.1, GT_k (fz_fr (oS_of hG) oX' a) (by decide +kernel) hR.2.1, hP, RW_0⟩)

theorem xp_wipe {hp : px_H}  (hG : ab_h nm_GH hp) (hR : nm_R hp) : ex_tw mi_X_wipe mi_M_wipe true 0 69 [] hp :=
  two_of3 (R := TD 0) TD_ag (P := fun _ hX' hM' => ∃ L ls, LIq L ls hX' hM') kp_X_wipe_0 kp_M_wipe_0 rfl rfl (by decide +kernel) (by decide +kernel) (avX := [.ref 0]) (avM := [.ref 69]) (fn_X_wipe) (fn_M_wipe) (fun h q hS e => (fx_X_wipe hS e).1) (fun h q hS e => (fx_M_wipe hS e).1) (cmp := true) hG ⟨⟨rfl, List.mem_cons_self⟩, trivial⟩ ⟨⟨rfl, List.mem_cons_self⟩, trivial⟩ hR (fun hM gM hR => by
    obtain ⟨⟨⟨z, dn, nx, ln, hL⟩, -⟩, gt, ⟨L, ls, li⟩, hW⟩ := hR
    obtain ⟨v, hX', hM', e1, e2, h⟩ := sim_wipe (oS_of hG) (oS_of gM) li
    exact ⟨v, v, hX', hM', e1, e2, fun _ => rfl, h⟩) (fun hM hX' hM' oX' oM' hR hP a b oM => ⟨FD_k2 (oS_of hG) oX' oM oM' a b (by decide +kernel) (by decide +kernel) hR.1, GT_k (fz_fr (oS_of hG) oX' a) (by decide +kernel) hR.2.1, hP, RW_0⟩)

/-- frames leave all of it -/
def nm_Rf (ws : List (Nat × Nat)) (wa : List Nat) : Bool := fd_Rf ws wa && (gtF ws wa && liF ws wa)
theorem nm_R_fr {ws : List (Nat × Nat)} {wa : List Nat} {hp hp' : px_H} (hG : ab_h nm_GH hp) (hG' : ab_h nm_GH hp') (h : px_fr ws wa hp hp') (hw : nm_Rf ws wa = true) (hR : nm_R hp) : nm_R hp' := by
  simp only [nm_Rf, Bool.and_eq_true] at hw
  obtain ⟨w1, w2, w3⟩ := hw
  obtain ⟨hF, gt, ⟨L, ls, li⟩, -⟩ := hR
  have f := fz_fr (oS_of hG) (oS_of hG') h
  exact ⟨fd_R_fr hG hG' h w1 hF, GT_k f w2 gt, ⟨L, ls, LI_k f f (nX_f w3 (by decide)) (nX_a w3 (by decide)) (nX_f w3 (by decide)) (nX_a w3 (by decide)) li⟩, RW_0⟩
theorem nm_R_arr {hp : px_H} {x y : Nat × vp_A} (hx : hp[105]? = some (.inl x)) (hR : nm_R hp) : nm_R (hp.set 105 (.inl y)) := by
  have e : ∀ c, c < 105 → (hp.set 105 (.inl y))[c]? = hp[c]? := fun c hc => List.getElem?_set_ne (by omega)
  have eA : ∀ c, c < 105 → aI (hp.set 105 (.inl y)) c = aI hp c ∧ aL (hp.set 105 (.inl y)) c = aL hp c := fun c hc => ⟨by unfold aI; rw [e c hc], by unfold aL; rw [e c hc]⟩
  have eF : ∀ c k, ac_fv (hp.set 105 (.inl y)) c k = ac_fv hp c k := fun c k => by rw [ac_fv_arr hx]
  have f : fz W0 (fun c => Nat.ble 105 c) hp (hp.set 105 (.inl y)) := ⟨fun c k _ => eF c k, fun c h => eA c (nble_lt h)⟩
  obtain ⟨hF, gt, ⟨L, ls, li⟩, -⟩ := hR
  exact ⟨fd_R_arr hx hF, GT_k f (by decide) gt, ⟨L, ls, LI_k f f rfl rfl rfl rfl li⟩, RW_0⟩
set_option maxRecDepth 1000000 in
theorem h4k_t : (List.range 4096).all (fun b => decide (aI nm_H1 33 b = 0) && (decide (aI nm_H1 39 b = 0) && decide (aI nm_H1 45 b = 0))) = true := by decide +kernel
theorem nm_R0 : nm_R nm_H1 := by
  have h4 : ∀ b, b < 4096 → aI nm_H1 33 b = 0 ∧ aI nm_H1 39 b = 0 ∧ aI nm_H1 45 b = 0 := fun b hb => by
    have := List.all_eq_true.mp h4k_t b (List.mem_range.mpr hb)
    simpa only [Bool.and_eq_true, decide_eq_true_eq] using this
  refine ⟨fd_R0, ⟨fun _ _ _ => True, tE, 29, 35, 41, ⟨by decide, by decide, by decide, by decide, by decide, by decide⟩, ⟨by decide +kernel, by decide +kernel, by decide +kernel⟩, ⟨0, by omega, by decide +kernel, fun b hb => (h4 b hb).1, fun i hi => by omega⟩, ⟨0, by omega, by decide +kernel, fun b hb => (h4 b hb).2.1, fun i hi => by omega⟩, ⟨by decide +kernel, by decide, fun i hi => (by cases hi), fun b hb => (h4 b hb).2.2, fun i hi => (by cases hi)⟩⟩, ⟨0, fun _ => 0, by omega, by decide +kernel, by decide +kernel, fun j hj => by omega⟩, RW_0⟩
