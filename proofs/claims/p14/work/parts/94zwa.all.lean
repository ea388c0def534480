/-! the relation of all that the town, the chest, the text and the rules hold -/
theorem two_of3 {R : px_H → px_H → Prop} (Rag : ∀ {a b a' b' : px_H}, agX a a' → agM b b' → R a b → R a' b') {P : px_H → px_H → px_H → Prop} {κX κM : ac_K} (kX : nm_ok κX) (kM : nm_ok κM) (pX : κX.2.2.1 = []) (pM : κM.2.2.1 = []) (iX : isX κX.2.2.2.2.1 κX.2.2.2.2.2 = true) (iM : isM κM.2.2.2.2.1 κM.2.2.2.2.2 = true) {avX avM : List Value} (fX : px_H → Option (Int32 × px_H)) (fM : px_H → Option (Int32 × px_H))
    (xX : ∀ (h : px_H) (q : Int32 × px_H), oS h → fX h = some q → px_C nm_T nm_P κX.1 avX h (some (.int q.1)) q.2) (xM : ∀ (h : px_H) (q : Int32 × px_H), oS h → fM h = some q → px_C nm_T nm_P κM.1 avM h (some (.int q.1)) q.2) {cmp : Bool} {hp : px_H} (hG : ab_h nm_GH hp) (aX : ac_argv κX.2.1 avX) (aM : ac_argv κM.2.1 avM) (hR : R hp hp)
    (sim : ∀ hM : px_H, ab_h nm_GH hM → R hp hM → ∃ (v w : Int32) (hX' hM' : px_H), fX hp = some (v, hX') ∧ fM hM = some (w, hM') ∧ (cmp = true → v = w) ∧ P hM hX' hM')
    (fin : ∀ hM hX' hM' : px_H, oS hX' → oS hM' → R hp hM → P hM hX' hM' → px_fr κX.2.2.2.2.1 κX.2.2.2.2.2 hp hX' → px_fr κM.2.2.2.2.1 κM.2.2.2.2.2 hM hM' → oS hM → R hX' hM') :
    ∃ (v v' : Int32) (hp1 hp2 : px_H), px_C nm_T nm_P κX.1 avX hp (some (.int v)) hp1 ∧ ab_h nm_GH hp1 ∧ px_C nm_T nm_P κM.1 avM hp1 (some (.int v')) hp2 ∧ ab_h nm_GH hp2 ∧ (cmp = true → v = v') ∧ R hp2 hp2 := by
  have hS := oS_of hG
  obtain ⟨v, w, h1, -, s1, -, -, -⟩ := sim hp hG hR
  have c1 := xX hp _ hS s1
  obtain ⟨r, g1, o, m1, m2, m3, m4, -, -, m7⟩ := kX avX hp hG aX (fun i hi => by rw [pX] at hi; cases hi)
  obtain ⟨-, e⟩ := px_C_fun c1 m2
  simp only at e
  rw [← e] at m3 m7
  have a1 : agM hp h1 := agM_of hS m7 iX
  have hR1 := Rag (agX_rf hp) a1 hR
  obtain ⟨v2, w2, h1', h2, s3, s4, s5, s6⟩ := sim h1 m3 hR1
  rw [s1] at s3
  cases s3
  have c2 := xM h1 _ (oS_of m3) s4
  obtain ⟨r', g2, o', n1, n2, n3, n4, -, -, n7⟩ := kM avM h1 m3 aM (fun i hi => by rw [pM] at hi; cases hi)
  obtain ⟨-, e2⟩ := px_C_fun c2 n2
  simp only at e2
  rw [← e2] at n3 n7
  have a2 : agX h1 h2 := agX_of (oS_of m3) n7 iM
  exact ⟨v, w2, h1, h2, c1, m3, c2, n3, s5, Rag a2 (agM_rf h2) (fin h1 h1 h2 (oS_of m3) (oS_of n3) hR1 s6 m7 n7 (oS_of m3))⟩
/-- a cell of references that no frame names -/
theorem fr_aR {hp hp' : px_H} {ws : List (Nat × Nat)} {wa : List Nat} (hS : oS hp) {c : Nat} (hc : c < 106) (h : px_fr ws wa hp hp') (hw : c ∉ wa) (hn : ∀ k, (c, k) ∉ ws) : aR hp' c = aR hp c := (fr_cell hS hc h hn hw).2.2.2
/-- a rule beside -/
def RB (i : Nat) (hX hM : px_H) : Prop := ∃ ln, ln ≤ 7 ∧ gI hX (54 + 4 * i) 3 = Int32.ofNat ln ∧ aI hM 81 (1 + i) = Int32.ofNat ln ∧ ∀ k, k < ln → kR (aI hX (54 + 4 * i + 1) k) (aI hX (54 + 4 * i + 2) k) (aI hM 83 (7 * (1 + i) + k)) ∧ fR (aI hX (54 + 4 * i + 3) k) (aI hM 84 (7 * (1 + i) + k))
def RO (hX hM : px_H) : Prop := (∀ i, i < 3 → RB i hX hM) ∧ ∃ t : Nat, t < 8 ∧ gI hX 0 4 = Int32.ofNat t ∧ ∀ i, i < 3 → aI hM 82 (1 + i) = b01 (t.testBit i)
def KR (hX : px_H) : Prop := (∀ i, i < 3 → aR hX 51 i = 66 + i) ∧ ∀ i, i < 3 → aR hX 18 i = 54 + 4 * i
def FD (hX hM : px_H) : Prop := (∃ z dn nx ln, RLz z dn nx ln hX hM) ∧ KR hX ∧ DY hM ∧ TX hX hM ∧ RO hX hM
section sy_FD
variable {hX hM hX' hM' : px_H}
theorem KR_ag (a : agX hX hX') (h : KR hX) : KR hX' := ⟨fun i hi => by rw [agX_aR a (by omega)]; exact h.1 i hi, fun i hi => by rw [agX_aR a (by omega)]; exact h.2 i hi⟩
theorem DY_ag (b : agM hM hM') (h : DY hM) : DY hM' := fun d hd => by rw [agM_aI b (by omega) (by omega)]; exact h d hd
theorem TX_ag (a : agX hX hX') (b : agM hM hM') (h : TX hX hM) : TX hX' hM' := by
  unfold TX
  rw [agX_gI a (by omega), agX_aI a (c := 13) (by omega), agM_gI b, agM_aI b (c := 85) (by omega) (by omega)]
  exact h
theorem RB_ag {i : Nat} (hi : i < 3) (a : agX hX hX') (b : agM hM hM') (h : RB i hX hM) : RB i hX' hM' := by
  unfold RB
  rw [agX_gI a (show 54 + 4 * i < 69 by omega), agX_aI a (show 54 + 4 * i + 1 < 69 by omega), agX_aI a (show 54 + 4 * i + 2 < 69 by omega), agX_aI a (show 54 + 4 * i + 3 < 69 by omega), agM_aI b (c := 81) (by omega) (by omega), agM_aI b (c := 83) (by omega) (by omega), agM_aI b (c := 84) (by omega) (by omega)]
  exact h
theorem RO_ag (a : agX hX hX') (b : agM hM hM') (h : RO hX hM) : RO hX' hM' := by
  obtain ⟨h1, t, h2, h3, h4⟩ := h
  exact ⟨fun i hi => RB_ag hi a b (h1 i hi), t, h2, by rw [agX_gI a (by omega)]; exact h3, fun i hi => by rw [agM_aI b (by omega) (by omega)]; exact h4 i hi⟩
theorem FD_ag (a : agX hX hX') (b : agM hM hM') (h : FD hX hM) : FD hX' hM' := by
  obtain ⟨⟨z, dn, nx, ln, h1⟩, h2, h3, h4, h5⟩ := h
  exact ⟨⟨z, dn, nx, ln, RLz_ag a b h1⟩, KR_ag a h2, DY_ag b h3, TX_ag a b h4, RO_ag a b h5⟩
/-! what frames leave of it -/
variable {ws ws' : List (Nat × Nat)} {wa wa' : List Nat}
def fKR (ws : List (Nat × Nat)) (wa : List Nat) : Bool := ws.all (fun q => !Nat.beq q.1 51 && !Nat.beq q.1 18) && (!ac_in 51 wa && !ac_in 18 wa)
theorem KR_fr (oX : oS hX) (h : px_fr ws wa hX hX') (hw : fKR ws wa = true) (hR : KR hX) : KR hX' := by
  simp only [fKR, Bool.and_eq_true, Bool.not_eq_true'] at hw
  have n1 : ∀ k, (51, k) ∉ ws := fun k hm => by
    have := List.all_eq_true.mp hw.1 _ hm
    simp at this
  have n2 : ∀ k, (18, k) ∉ ws := fun k hm => by
    have := List.all_eq_true.mp hw.1 _ hm
    simp at this
  exact ⟨fun i hi => by rw [fr_aR oX (by omega) h (ac_in_no hw.2.1) n1]; exact hR.1 i hi, fun i hi => by rw [fr_aR oX (by omega) h (ac_in_no hw.2.2) n2]; exact hR.2 i hi⟩
abbrev wF_ (ws : List (Nat × Nat)) : Nat → Nat → Bool := fun c k => ac_has ws c k
abbrev wA_ (wa : List Nat) : Nat → Bool := fun c => ac_in c wa
theorem DY_k {W : Nat → Nat → Bool} {V : Nat → Bool} (b : fz W V hM hM') (hb : V 78 = false) (h : DY hM) : DY hM' := fun d hd => by rw [(b.2 78 hb).1]; exact h d hd
theorem TX_k {W W' : Nat → Nat → Bool} {V V' : Nat → Bool} (a : fz W V hX hX') (b : fz W' V' hM hM') (ha : nX W V [(12, 1)] [13] = true) (hb : nX W' V' [(69, 22)] [85] = true) (h : TX hX hM) : TX hX' hM' := by
  unfold TX
  rw [fz_gI a (c := 12) (k := 1) (nX_f ha (by decide)), (a.2 13 (nX_a ha (by decide))).1, fz_gI b (c := 69) (k := 22) (nX_f hb (by decide)), (b.2 85 (nX_a hb (by decide))).1]
  exact h
theorem RB_k {i : Nat} (hi : i < 3) {W W' : Nat → Nat → Bool} {V V' : Nat → Bool} (a : fz W V hX hX') (b : fz W' V' hM hM') (a1 : W (54 + 4 * i) 3 = false) (a2 : V (54 + 4 * i + 1) = false) (a3 : V (54 + 4 * i + 2) = false) (a4 : V (54 + 4 * i + 3) = false) (hb : nX W' V' [] [81, 83, 84] = true) (h : RB i hX hM) : RB i hX' hM' := by
  unfold RB
  rw [fz_gI a a1, (a.2 _ a2).1, (a.2 _ a3).1, (a.2 _ a4).1, (b.2 81 (nX_a hb (by decide))).1, (b.2 83 (nX_a hb (by decide))).1, (b.2 84 (nX_a hb (by decide))).1]
  exact h
theorem RO_k {W W' : Nat → Nat → Bool} {V V' : Nat → Bool} (a : fz W V hX hX') (b : fz W' V' hM hM') (ha : nX W V [(0, 4), (54, 3), (58, 3), (62, 3)] [55, 56, 57, 59, 60, 61, 63, 64, 65] = true) (hb : nX W' V' [] [81, 83, 84] = true) (hb2 : V' 82 = false) (h : RO hX hM) : RO hX' hM' := by
  obtain ⟨h1, t, h2, h3, h4⟩ := h
  refine ⟨fun i hi => ?_, t, h2, by rw [fz_gI a (nX_f ha (by decide))]; exact h3, fun i hi => by rw [(b.2 82 hb2).1]; exact h4 i hi⟩
  match i, hi with
  | 0, _ => exact RB_k (by omega) a b (nX_f ha (by decide)) (nX_a ha (by decide)) (nX_a ha (by decide)) (nX_a ha (by decide)) hb (h1 0 (by omega))
  | 1, _ => exact RB_k (by omega) a b (nX_f ha (by decide)) (nX_a ha (by decide)) (nX_a ha (by decide)) (nX_a ha (by decide)) hb (h1 1 (by omega))
  | 2, _ => exact RB_k (by omega) a b (nX_f ha (by decide)) (nX_a ha (by decide)) (nX_a ha (by decide)) (nX_a ha (by decide)) hb (h1 2 (by omega))
  | i + 3, h => omega
/-- what stands beside RLz -/
def gX (ws : List (Nat × Nat)) (wa : List Nat) : Bool := fKR ws wa && (nX (wF_ ws) (wA_ wa) [(12, 1), (0, 4), (54, 3), (58, 3), (62, 3)] [13, 55, 56, 57, 59, 60, 61, 63, 64, 65])
def gM (ws : List (Nat × Nat)) (wa : List Nat) : Bool := nX (wF_ ws) (wA_ wa) [(69, 22)] [85, 81, 82, 83, 84]
theorem nX_sub {W : Nat → Nat → Bool} {V : Nat → Bool} {fs fs' : List (Nat × Nat)} {as as' : List Nat} (h : nX W V fs as = true) (h1 : ∀ q ∈ fs', q ∈ fs) (h2 : ∀ c ∈ as', c ∈ as) : nX W V fs' as' = true := by
  simp only [nX, Bool.and_eq_true]
  exact ⟨List.all_eq_true.mpr (fun q hq => by rw [nX_f h (h1 q hq)]; rfl), List.all_eq_true.mpr (fun c hc => by rw [nX_a h (h2 c hc)]; rfl)⟩
theorem TRO_fr (oX : oS hX) (oX' : oS hX') (oM : oS hM) (oM' : oS hM') (a : px_fr ws wa hX hX') (b : px_fr ws' wa' hM hM') (ha : gX ws wa = true) (hb : gM ws' wa' = true) (h : KR hX ∧ TX hX hM ∧ RO hX hM) : KR hX' ∧ TX hX' hM' ∧ RO hX' hM' := by
  simp only [gX, Bool.and_eq_true] at ha
  have fa := fz_fr oX oX' a
  have fb := fz_fr oM oM' b
  exact ⟨KR_fr oX a ha.1 h.1, TX_k fa fb (nX_sub ha.2 (by decide) (by decide)) (nX_sub hb (by decide) (by decide)) h.2.1, RO_k fa fb (nX_sub ha.2 (by decide) (by decide)) (nX_sub hb (by decide) (by decide)) (nX_a hb (by decide)) h.2.2⟩
end sy_FD
