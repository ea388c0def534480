section mg_0
/-! never, the model; old, with what it tells -/
section tb_BE
variable {h hX hM hX' hM' hX0 hM0 : px_H} {z dn nx ln D b p A l L : Nat} {q s a : Int32} {ch : Nat → Int64} {u : Int64} {w : Int32} {y : TB × Int64 × Int64} {ls : Nat → Int32}
theorem stM_n {σ β : Nat → Int} {s : Option Nat} {x : Nat} : stM σ β s x ≠ none := by
  cases s with
  | none => exact fun h => by cases h
  | some j =>
    show (bif Pf σ β x j then some x else some j) ≠ none
    cases Pf σ β x j <;> exact fun h => by cases h
theorem neverM2 (oX0 : oS hX0) (oM0 : oS hM0) (rp : RPt z dn ln hX0 hM0) (b2 : b < 2) (hz : sz z (Int32.ofNat A)) (hD : D < dn) {a3 kin : Int32} (gt0 : GT hX0) (hA : A < 1024) (d6 : D < 6) (hs80 : aI hM0 80 D = s) (hk : kin = bg (fun p => !px_cmp .ne (aI hM0 71 p) a3) z) : ∀ (k v N c : Nat) (st : Option Nat) (y : px_H), Sz z (aI hM0 76 b) (Int32.ofNat A) st → (st = none ↔ c = 0) → v + k = A + 1 → k < N → oS y → fz WTR V98 hM0 y → SM hM0 y → ∃ hM', fn_M_never_L39 (Int32.ofNat b) (Int32.ofNat A) a3 (Int32.ofNat D) N (pO (aI hM0 76 b) (Int32.ofNat A) st) (Int32.ofNat c) (Int32.ofNat v) y = some (ansF (tf (fun v => bif sub_ (ib (Int32.ofNat A)) 10 0 v then okF b hM0 D (aI hM0 76 b) (Int32.ofNat A) v else 0) k v) (Int32.ofNat (c + tf (fun v => bif sub_ (ib (Int32.ofNat A)) 10 0 v then htF z b hM0 D (aI hM0 76 b) (Int32.ofNat A) kin s v else 0) k v)), hM') ∧ ((tf (fun v => bif sub_ (ib (Int32.ofNat A)) 10 0 v then okF b hM0 D (aI hM0 76 b) (Int32.ofNat A) v else 0) k v = 0 → RYo (aI hM0 76 b) (Int32.ofNat A) (aF σ0 (βD (aI hM0 76 b) (Int32.ofNat A)) (sub_ (ib (Int32.ofNat A)) 10 0) (htB z b hM0 D (aI hM0 76 b) (Int32.ofNat A) kin s) k v st) hM') ∧ (tf (fun v => bif sub_ (ib (Int32.ofNat A)) 10 0 v then okF b hM0 D (aI hM0 76 b) (Int32.ofNat A) v else 0) k v ≠ 0 → fz WTR V98 hM0 hM')) := by
  intro k
  induction k with
  | zero =>
    intro v N c st y hs hc hv hN oy f sm'
    obtain ⟨N, rfl⟩ : ∃ k, N = k + 1 := ⟨N - 1, by omega⟩
    have z9 := rp.1.1
    obtain ⟨r2, r3, r4⟩ := cY oy
    show ∃ hM', fb_M_never_L39 (Int32.ofNat b) (Int32.ofNat A) a3 (Int32.ofNat D) (fn_M_never_L39 (Int32.ofNat b) (Int32.ofNat A) a3 (Int32.ofNat D) N) (pO (aI hM0 76 b) (Int32.ofNat A) st) (Int32.ofNat c) (Int32.ofNat v) y = some (ansF 0 (Int32.ofNat (c + 0)), hM') ∧ ((0 = 0 → RYo (aI hM0 76 b) (Int32.ofNat A) st hM') ∧ (0 ≠ 0 → fz WTR V98 hM0 hM'))
    unfold fb_M_never_L39
    rw [show v = A + 1 from by omega, gt_t (by omega), cond_true, sb_i, Nat.add_zero]
    cases st with
    | none =>
      rw [show px_cmp .lt (pO (aI hM0 76 b) (Int32.ofNat A) none) 0 = true from rfl, cond_true]
      exact ⟨_, ans_0, fun _ => r4, fun h => absurd rfl h⟩
    | some j =>
      obtain ⟨y5, t1, t2, t3, t4⟩ := tY r2 r4 (by omega) (pkS (aI hM0 76 b) (Int32.ofNat A) j).toInt64
      rw [show px_cmp .lt (pO (aI hM0 76 b) (Int32.ofNat A) (some j)) 0 = false from pO_lt z9 (hs j rfl), cond_false]
      refine ⟨y5, ?_, fun _ => t4, fun h => absurd rfl h⟩
      show (fn_M_enters (pkS (aI hM0 76 b) (Int32.ofNat A) j).toInt64 _).bind _ = _
      rw [t1]
      exact ans_0
  | succ k ih =>
    intro v N c st y hs hc hv hN oy f sm'
    obtain ⟨N, rfl⟩ : ∃ k, N = k + 1 := ⟨N - 1, by omega⟩
    have z9 := rp.1.1
    show ∃ hM', fb_M_never_L39 (Int32.ofNat b) (Int32.ofNat A) a3 (Int32.ofNat D) (fn_M_never_L39 (Int32.ofNat b) (Int32.ofNat A) a3 (Int32.ofNat D) N) (pO (aI hM0 76 b) (Int32.ofNat A) st) (Int32.ofNat c) (Int32.ofNat v) y = _ ∧ _
    unfold fb_M_never_L39
    rw [gt_f (show v ≤ A by omega) (by omega), cond_false, sub_M (show v < 1024 by omega)]
    show ∃ hM', _ = some (ansF ((bif sub_ (ib (Int32.ofNat A)) 10 0 v then okF b hM0 D (aI hM0 76 b) (Int32.ofNat A) v else 0) + tf (fun v => bif sub_ (ib (Int32.ofNat A)) 10 0 v then okF b hM0 D (aI hM0 76 b) (Int32.ofNat A) v else 0) k (v + 1)) (Int32.ofNat (c + ((bif sub_ (ib (Int32.ofNat A)) 10 0 v then htF z b hM0 D (aI hM0 76 b) (Int32.ofNat A) kin s v else 0) + tf (fun v => bif sub_ (ib (Int32.ofNat A)) 10 0 v then htF z b hM0 D (aI hM0 76 b) (Int32.ofNat A) kin s v else 0) k (v + 1)))), hM') ∧ (((bif sub_ (ib (Int32.ofNat A)) 10 0 v then okF b hM0 D (aI hM0 76 b) (Int32.ofNat A) v else 0) + tf (fun v => bif sub_ (ib (Int32.ofNat A)) 10 0 v then okF b hM0 D (aI hM0 76 b) (Int32.ofNat A) v else 0) k (v + 1) = 0 → RYo (aI hM0 76 b) (Int32.ofNat A) (aF σ0 (βD (aI hM0 76 b) (Int32.ofNat A)) (sub_ (ib (Int32.ofNat A)) 10 0) (htB z b hM0 D (aI hM0 76 b) (Int32.ofNat A) kin s) k (v + 1) (bif sub_ (ib (Int32.ofNat A)) 10 0 v then (bif htB z b hM0 D (aI hM0 76 b) (Int32.ofNat A) kin s v then stM σ0 (βD (aI hM0 76 b) (Int32.ofNat A)) st v else st) else st)) hM') ∧ ((bif sub_ (ib (Int32.ofNat A)) 10 0 v then okF b hM0 D (aI hM0 76 b) (Int32.ofNat A) v else 0) + tf (fun v => bif sub_ (ib (Int32.ofNat A)) 10 0 v then okF b hM0 D (aI hM0 76 b) (Int32.ofNat A) v else 0) k (v + 1) ≠ 0 → fz WTR V98 hM0 hM'))
    cases hsub : sub_ (ib (Int32.ofNat A)) 10 0 v with
    | false =>
      rw [cond_false, cond_false, cond_false, cond_false, Nat.zero_add, Nat.zero_add, inc1]
      exact ih (v + 1) N c st y hs hc (by omega) (by omega) oy f sm'
    | true =>
      have hs' : sz z (pkS (aI hM0 76 b) (Int32.ofNat A) v) := pk_sz rp.1.1 (z76 oX0 oM0 rp b2 hz hD) hz (by omega) hsub
      obtain ⟨y7, q1, q2, q3, q4, q5⟩ := itM oX0 oM0 gt0 rp b2 hs' hD oy f sm'
      rw [cond_true, cond_true, cond_true, cond_true, pk_M b2 v, Option.bind_some, (f.2 76 rfl).1, q1, Option.bind_some, cmp_b01n]
      cases hr : rsM b hM0 (D + 1) (pkS (aI hM0 76 b) (Int32.ofNat A) v) with
      | none =>
        have eo : okF b hM0 D (aI hM0 76 b) (Int32.ofNat A) v = 1 := by unfold okF; rw [hr]; rfl
        rw [eo]
        exact ⟨y7, ans_M, fun h => by omega, fun _ => q3⟩
      | some r =>
        have eo : okF b hM0 D (aI hM0 76 b) (Int32.ofNat A) v = 0 := by unfold okF; rw [hr]; rfl
        have eh : htF z b hM0 D (aI hM0 76 b) (Int32.ofNat A) kin s v = bif hit z D r kin s then 1 else 0 := by unfold htF; rw [hr]
        have eb : htB z b hM0 D (aI hM0 76 b) (Int32.ofNat A) kin s v = hit z D r kin s := by unfold htB; rw [hr]
        rw [eo, eh, eb]
        obtain ⟨u, w, x3, hA'⟩ := q5 r hr
        have zM : gI y7 69 3 = Int32.ofNat z := (fz_gI q3 rfl).trans rp.1.2.2.2.1
        have e5 := nv_M2 (a1 := Int32.ofNat b) (a2 := Int32.ofNat A) (a3 := a3) (kin := kin) (s := s) (kc := fn_M_never_L39 (Int32.ofNat b) (Int32.ofNat A) a3 (Int32.ofNat D) N) z9 d6 zM (by rw [(q3.2 80 rfl).1]; exact hs80) (by rw [(q3.2 71 rfl).1]; exact hk) hA' (pO (aI hM0 76 b) (Int32.ofNat A) st) (Int32.ofNat c) (Int32.ofNat v) (pkS (aI hM0 76 b) (Int32.ofNat A) v) r.1.1 0 fu false (by omega) (fu_lt (by have := hA'.1.2.1.2.1; omega))
        have key : ∀ c st, Sz z (aI hM0 76 b) (Int32.ofNat A) st → (st = none ↔ c = 0) → ∃ hM', fn_M_never_L39 (Int32.ofNat b) (Int32.ofNat A) a3 (Int32.ofNat D) N (pO (aI hM0 76 b) (Int32.ofNat A) st) (Int32.ofNat c) (Int32.ofNat (v + 1)) y7 = some (ansF (0 + tf (fun v => bif sub_ (ib (Int32.ofNat A)) 10 0 v then okF b hM0 D (aI hM0 76 b) (Int32.ofNat A) v else 0) k (v + 1)) (Int32.ofNat (c + tf (fun v => bif sub_ (ib (Int32.ofNat A)) 10 0 v then htF z b hM0 D (aI hM0 76 b) (Int32.ofNat A) kin s v else 0) k (v + 1))), hM') ∧ ((0 + tf (fun v => bif sub_ (ib (Int32.ofNat A)) 10 0 v then okF b hM0 D (aI hM0 76 b) (Int32.ofNat A) v else 0) k (v + 1) = 0 → RYo (aI hM0 76 b) (Int32.ofNat A) (aF σ0 (βD (aI hM0 76 b) (Int32.ofNat A)) (sub_ (ib (Int32.ofNat A)) 10 0) (htB z b hM0 D (aI hM0 76 b) (Int32.ofNat A) kin s) k (v + 1) st) hM') ∧ (0 + tf (fun v => bif sub_ (ib (Int32.ofNat A)) 10 0 v then okF b hM0 D (aI hM0 76 b) (Int32.ofNat A) v else 0) k (v + 1) ≠ 0 → fz WTR V98 hM0 hM')) := fun c st hs hc => by
          rw [Nat.zero_add]
          exact ih (v + 1) N c st y7 hs hc (by omega) (by omega) q2 q3 q4
        show ∃ hM', fn_M_never_L88 (Int32.ofNat b) (Int32.ofNat A) a3 (Int32.ofNat D) (fn_M_never_L39 (Int32.ofNat b) (Int32.ofNat A) a3 (Int32.ofNat D) N) fu (pO (aI hM0 76 b) (Int32.ofNat A) st) (Int32.ofNat c) (Int32.ofNat v) (pkS (aI hM0 76 b) (Int32.ofNat A) v) (b01 false) (Int32.ofNat 0) y7 = _ ∧ _
        rw [e5, inc1, inc1]
        show ∃ hM', (bif hit z D r kin s then _ else _) = _ ∧ _
        cases hit z D r kin s with
        | true =>
          rw [cond_true, cond_true, cond_true]
          have key1 : ∀ st, Sz z (aI hM0 76 b) (Int32.ofNat A) st → st ≠ none → _ := fun st h1 h2 => key (c + 1) st h1 ⟨fun h => absurd h h2, fun h => by omega⟩
          rw [show ∀ t, c + 1 + t = c + (1 + t) from fun t => by omega] at key1
          have hn : ∀ st', stM σ0 (βD (aI hM0 76 b) (Int32.ofNat A)) st v = st' → st' ≠ none := fun st' e => by
            rw [← e]
            exact stM_n
          rcases nMs (z := z) (q := aI hM0 76 b) (a := Int32.ofNat A) (s := st) (x := v) z9 hs with ⟨g1, g2⟩ | ⟨g1, g2⟩
          · rw [g1, cond_true, g2]
            exact key1 (some v) (Sz_s hs') (hn _ g2)
          · rw [g1, cond_false, g2]
            exact key1 st hs (hn _ g2)
        | false =>
          have key0 := key c st hs hc
          rw [show ∀ t, c + t = c + (0 + t) from fun t => by omega] at key0
          exact key0
theorem sim_never2 (oX : oS hX) (oM : oS hM) (hR : RLz z dn nx ln hX hM) (gt : GT hX) (hW : RWq l hX hM) (a1 a2 a3 a4 : Int32) : ∃ (v : Int32) (hX' hM' : px_H), fn_X_never a1 a2 a3 a4 hX = some (v, hX') ∧ fn_M_never a1 a2 a3 a4 hM = some (v, hM') ∧ QR l hX' hM' := by
  obtain ⟨hR1, o1, hW1⟩ := RLz_thr' hR oM
  have hW1 := hW1 hW
  unfold fn_X_never fn_M_never
  rw [sb_i]
  generalize wF hM 69 0 (.int (Int32.ofInt 0)) = m1 at hR1 o1 hW1 ⊢
  have hT := hR1.1
  have z9 := hT.1
  have d6 := hT.2.1
  have gN : px_cmp .ne (sx_in a3.toInt64 (Int64.ofNat 0) (Int64.ofInt 5)) 0 = inN a3 6 := by rw [cmp_ne, ← cmp_eq, (gd_house a3).2, Bool.not_not]
  have g := (gd_house a3).1
  rw [gd_canPack hT.2.2.1 z9, gd_isPacking hT.2.2.2.1 z9 hT.2.2.2.2.2.1 d6, gd_drw hT.2.2.2.2.1 d6, Option.bind_some, Option.bind_some, Option.bind_some, cmp_b01, cmp_b01, cmp_b01n, gN]
  cases hc : cP a1 a2 z with
  | false => exact ⟨_, hX, m1, rfl, rfl, gt, hW1⟩
  | true =>
    cases h1 : px_cmp .lt a3 0 with
    | true =>
      rw [h1, cond_true] at g
      have g' : inN a3 6 = false := by
        cases hh : inN a3 6 with
        | false => rfl
        | true => rw [hh] at g; cases g
      rw [g']
      cases inN a4 dn <;> exact ⟨_, hX, m1, rfl, rfl, gt, hW1⟩
    | false =>
      rw [h1, cond_false] at g
      rw [g]
      cases h6 : inN a3 6 with
      | false => cases inN a4 dn <;> exact ⟨_, hX, m1, rfl, rfl, gt, hW1⟩
      | true =>
        cases hd : inN a4 dn with
        | false => exact ⟨_, hX, m1, rfl, rfl, gt, hW1⟩
        | true =>
          obtain ⟨b, A, b2, hA, rfl, rfl, hz, n6⟩ := cP_t z9 hc
          obtain ⟨D, hD, rfl⟩ := inN_t hd
          have rp := rp_of oX hR1
          have D6 : D < 6 := by omega
          have h64 : 2 ^ nbM (ib (Int32.ofNat A)) 10 0 ≤ 64 := Nat.pow_le_pow_right (n := 2) (by decide) n6
          have e11 : aI hX 11 D = aI m1 80 D := (hT.2.2.2.2.2.2.2.2 D D6).2.2.1
          have hk : bg (fun p => !px_cmp .ne (aI hX 2 p) a3) z = bg (fun p => !px_cmp .ne (aI m1 71 p) a3) z := bg_cg z (fun i hi => by rw [(hT.2.2.2.2.2.2.1 i (by omega)).1])
          have eH := vl_ofHouse hT.2.2.1 z9 a3
          generalize bg (fun p => !px_cmp .ne (aI hX 2 p) a3) z = kin at hk eH
          obtain ⟨x9, e1, e2, e4, e6⟩ := neverX2 (kin := kin) (s := aI m1 80 D) oX o1 rp b2 hz hD _ fu 0 none hX Sz_0 ⟨fun _ => rfl, fun _ => rfl⟩ (by omega) h64 (fu_lt (by omega)) oX fz_rf gt
          obtain ⟨y9, e3, e5, e7⟩ := neverM2 (a3 := a3) (kin := kin) (s := aI m1 80 D) oX o1 rp b2 hz hD gt hA D6 rfl hk (A + 1) 0 fu 0 none m1 Sz_0 ⟨fun _ => rfl, fun _ => rfl⟩ (by omega) (fu_lt (by omega)) o1 fz_rf SM_rf
          rw [two_su hA (okF b m1 D (aI m1 76 b) (Int32.ofNat A)), two_su hA (htF z b m1 D (aI m1 76 b) (Int32.ofNat A) kin (aI m1 80 D))] at e1
          rw [two_su hA (okF b m1 D (aI m1 76 b) (Int32.ofNat A))] at e4 e6
          rw [two_st hA] at e4
          have hq : RWq l x9 y9 := by
            by_cases e : tf (fun v => bif sub_ (ib (Int32.ofNat A)) 10 0 v then okF b m1 D (aI m1 76 b) (Int32.ofNat A) v else 0) (A + 1) 0 = 0
            · exact RXo_Y (e4 e) (e5 e)
            · exact RWq_k (e6 e) (e7 e) rfl rfl rfl rfl hW1
          refine ⟨_, x9, y9, ?_, e3, e2, hq⟩
          show (fn_Town_ofHouse a3 hX).bind _ = _
          rw [eH, Option.bind_some, nm_inR D 6 D6 (by omega), cond_true, fw_ok (sz_sm z9 hz), Option.bind_some, nm_ofNat_clamp D (by omega), e11]
          exact e1
end tb_BE
end mg_0

section mg_1
/-! old, with what it tells -/
def cA (g : Nat → Int32) (ht : Nat → Bool) (e : Nat → Nat) : Nat → Int32 → Int32
  | 0, v => v
  | k + 1, v => cA g ht e k (bif ht (e k) then v &&& g (e k) else v)
def mA (g : Nat → Int32) (sub ht : Nat → Bool) : Nat → Nat → Int32 → Int32
  | 0, _, v => v
  | m + 1, j, v => mA g sub ht m (j + 1) (bif sub j then (bif ht j then v &&& g j else v) else v)
def cR (g : Nat → Int32) (ht : Nat → Bool) (e : Nat → Nat) : Nat → Int32 → Int32
  | 0, v => v
  | k + 1, v => cR g ht e k (bif ht (e k) then v ||| g (e k) else v)
def mR (g : Nat → Int32) (sub ht : Nat → Bool) : Nat → Nat → Int32 → Int32
  | 0, _, v => v
  | m + 1, j, v => mR g sub ht m (j + 1) (bif sub j then (bif ht j then v ||| g j else v) else v)
section tb_BF
variable {h hX hM hX' hM' hX0 hM0 : px_H} {z dn nx ln D b p A l L i : Nat} {q s a : Int32} {g : Nat → Int32} {ht sub : Nat → Bool} {e : Nat → Nat} {ls : Nat → Int32}
theorem cA_b : ∀ (k : Nat) (v : Int32), ib (cA g ht e k v) i = true ↔ (ib v i = true ∧ ∀ w, w < k → ht (e w) = true → ib (g (e w)) i = true)
  | 0, v => ⟨fun h => ⟨h, fun w hw => by omega⟩, fun h => h.1⟩
  | k + 1, v => by
    show ib (cA g ht e k (bif ht (e k) then v &&& g (e k) else v)) i = true ↔ _
    rw [cA_b k]
    cases hh : ht (e k) with
    | false =>
      rw [cond_false]
      refine ⟨fun ⟨x, y⟩ => ⟨x, fun w hw h1 => ?_⟩, fun ⟨x, y⟩ => ⟨x, fun w hw => y w (by omega)⟩⟩
      by_cases z : w = k
      · rw [z, hh] at h1
        cases h1
      · exact y w (by omega) h1
    | true =>
      rw [cond_true, ib_and, Bool.and_eq_true]
      refine ⟨fun ⟨⟨x1, x2⟩, y⟩ => ⟨x1, fun w hw h1 => ?_⟩, fun ⟨x, y⟩ => ⟨⟨x, y k (by omega) hh⟩, fun w hw => y w (by omega)⟩⟩
      by_cases z : w = k
      · rw [z]; exact x2
      · exact y w (by omega) h1
theorem cR_b : ∀ (k : Nat) (v : Int32), ib (cR g ht e k v) i = true ↔ (ib v i = true ∨ ∃ w, w < k ∧ ht (e w) = true ∧ ib (g (e w)) i = true)
  | 0, v => ⟨fun h => Or.inl h, fun h => by rcases h with h | ⟨w, hw, -⟩; exact h; omega⟩
  | k + 1, v => by
    show ib (cR g ht e k (bif ht (e k) then v ||| g (e k) else v)) i = true ↔ _
    rw [cR_b k]
    cases hh : ht (e k) with
    | false =>
      rw [cond_false]
      refine ⟨fun h => ?_, fun h => ?_⟩
      · rcases h with h | ⟨w, h1, h2⟩
        · exact Or.inl h
        · exact Or.inr ⟨w, by omega, h2⟩
      · rcases h with h | ⟨w, h1, h2, h3⟩
        · exact Or.inl h
        · by_cases z : w = k
          · rw [z, hh] at h2
            cases h2
          · exact Or.inr ⟨w, by omega, h2, h3⟩
    | true =>
      rw [cond_true, ib_or, Bool.or_eq_true]
      refine ⟨fun h => ?_, fun h => ?_⟩
      · rcases h with (h | h) | ⟨w, h1, h2⟩
        · exact Or.inl h
        · exact Or.inr ⟨k, by omega, hh, h⟩
        · exact Or.inr ⟨w, by omega, h2⟩
      · rcases h with h | ⟨w, h1, h2, h3⟩
        · exact Or.inl (Or.inl h)
        · by_cases z : w = k
          · rw [z] at h3
            exact Or.inl (Or.inr h3)
          · exact Or.inr ⟨w, by omega, h2, h3⟩
theorem mA_b : ∀ (m j : Nat) (v : Int32), ib (mA g sub ht m j v) i = true ↔ (ib v i = true ∧ ∀ x, j ≤ x → x < j + m → sub x = true → ht x = true → ib (g x) i = true)
  | 0, j, v => ⟨fun h => ⟨h, fun w h1 h2 => by omega⟩, fun h => h.1⟩
  | m + 1, j, v => by
    show ib (mA g sub ht m (j + 1) (bif sub j then (bif ht j then v &&& g j else v) else v)) i = true ↔ _
    rw [mA_b m (j + 1)]
    cases hs : sub j with
    | false =>
      rw [cond_false]
      refine ⟨fun ⟨x, y⟩ => ⟨x, fun w h1 h2 h3 h4 => ?_⟩, fun ⟨x, y⟩ => ⟨x, fun w h1 h2 => y w (by omega) (by omega)⟩⟩
      by_cases z : w = j
      · rw [z, hs] at h3
        cases h3
      · exact y w (by omega) (by omega) h3 h4
    | true =>
      rw [cond_true]
      cases hh : ht j with
      | false =>
        rw [cond_false]
        refine ⟨fun ⟨x, y⟩ => ⟨x, fun w h1 h2 h3 h4 => ?_⟩, fun ⟨x, y⟩ => ⟨x, fun w h1 h2 => y w (by omega) (by omega)⟩⟩
        by_cases z : w = j
        · rw [z, hh] at h4
          cases h4
        · exact y w (by omega) (by omega) h3 h4
      | true =>
        rw [cond_true, ib_and, Bool.and_eq_true]
        refine ⟨fun ⟨⟨x1, x2⟩, y⟩ => ⟨x1, fun w h1 h2 h3 h4 => ?_⟩, fun ⟨x, y⟩ => ⟨⟨x, y j (by omega) (by omega) hs hh⟩, fun w h1 h2 => y w (by omega) (by omega)⟩⟩
        by_cases z : w = j
        · rw [z]; exact x2
        · exact y w (by omega) (by omega) h3 h4
theorem mR_b : ∀ (m j : Nat) (v : Int32), ib (mR g sub ht m j v) i = true ↔ (ib v i = true ∨ ∃ x, j ≤ x ∧ x < j + m ∧ sub x = true ∧ ht x = true ∧ ib (g x) i = true)
  | 0, j, v => ⟨fun h => Or.inl h, fun h => by rcases h with h | ⟨w, h1, h2, -⟩; exact h; omega⟩
  | m + 1, j, v => by
    show ib (mR g sub ht m (j + 1) (bif sub j then (bif ht j then v ||| g j else v) else v)) i = true ↔ _
    rw [mR_b m (j + 1)]
    cases hh : (sub j && ht j) with
    | false =>
      have e1 : (bif sub j then (bif ht j then v ||| g j else v) else v) = v := by
        cases hs : sub j with
        | false => rfl
        | true =>
          rw [hs, Bool.true_and] at hh
          rw [hh]
          rfl
      rw [e1]
      refine ⟨fun h => ?_, fun h => ?_⟩
      · rcases h with h | ⟨w, h1, h2, h3⟩
        · exact Or.inl h
        · exact Or.inr ⟨w, by omega, by omega, h3⟩
      · rcases h with h | ⟨w, h1, h2, h3, h4, h5⟩
        · exact Or.inl h
        · by_cases z : w = j
          · rw [z] at h3 h4
            rw [h3, h4] at hh
            cases hh
          · exact Or.inr ⟨w, by omega, by omega, h3, h4, h5⟩
    | true =>
      obtain ⟨hs, ha⟩ := Bool.and_eq_true_iff.mp hh
      rw [hs, ha, cond_true, cond_true, ib_or, Bool.or_eq_true]
      refine ⟨fun h => ?_, fun h => ?_⟩
      · rcases h with (h | h) | ⟨w, h1, h2, h3⟩
        · exact Or.inl h
        · exact Or.inr ⟨j, by omega, by omega, hs, ha, h⟩
        · exact Or.inr ⟨w, by omega, by omega, h3⟩
      · rcases h with h | ⟨w, h1, h2, h3, h4, h5⟩
        · exact Or.inl (Or.inl h)
        · by_cases z : w = j
          · rw [z] at h5
            exact Or.inl (Or.inr h5)
          · exact Or.inr ⟨w, by omega, by omega, h3, h4, h5⟩
theorem ib_iff {x y : Int32} (h : ∀ i, i < 32 → (ib x i = true ↔ ib y i = true)) : x = y := ib_ext (fun i hi => Bool.eq_iff_iff.mpr (h i hi))
theorem two_or (hA : A < 1024) : cR g ht (sp (ib (Int32.ofNat A)) 10 0) (2 ^ nbM (ib (Int32.ofNat A)) 10 0) (Int32.ofInt 0) = mR g (sub_ (ib (Int32.ofNat A)) 10 0) ht (A + 1) 0 (Int32.ofInt 0) := by
  refine ib_iff (fun i _ => ?_)
  rw [cR_b, mR_b]
  refine ⟨fun h => ?_, fun h => ?_⟩
  · rcases h with h | ⟨w, h1, h2, h3⟩
    · exact Or.inl h
    · have := (set_eq hA).mp ⟨w, h1, rfl⟩
      exact Or.inr ⟨_, Nat.zero_le _, by omega, this.2, h2, h3⟩
  · rcases h with h | ⟨x, -, h2, h3, h4, h5⟩
    · exact Or.inl h
    · obtain ⟨w, k1, k2⟩ := (set_eq hA).mpr ⟨by omega, h3⟩
      rw [← k2] at h4 h5
      exact Or.inr ⟨w, k1, h4, h5⟩
theorem m1_t : (List.range 32).all (fun i => ib (Int32.ofInt (-1)) i && decide (ib (Int16.ofInt 1023).toInt32 i = decide (i < 10))) = true := by decide +kernel
theorem two_and (hA : A < 1024) {w0 : Nat} (hw : w0 < 2 ^ nbM (ib (Int32.ofNat A)) 10 0) (h0 : ht (sp (ib (Int32.ofNat A)) 10 0 w0) = true) (hs : sm (g (sp (ib (Int32.ofNat A)) 10 0 w0))) : cA g ht (sp (ib (Int32.ofNat A)) 10 0) (2 ^ nbM (ib (Int32.ofNat A)) 10 0) (Int16.ofInt 1023).toInt32 = mA g (sub_ (ib (Int32.ofNat A)) 10 0) ht (A + 1) 0 (Int32.ofInt (-1)) := by
  refine ib_iff (fun i hi => ?_)
  have t := List.all_eq_true.mp m1_t i (List.mem_range.mpr hi)
  simp only [Bool.and_eq_true, decide_eq_true_eq] at t
  rw [cA_b, mA_b, t.2]
  refine ⟨fun ⟨_, h⟩ => ⟨t.1, fun x h1 h2 h3 h4 => ?_⟩, fun ⟨_, h⟩ => ?_⟩
  · obtain ⟨w, k1, k2⟩ := (set_eq hA).mpr ⟨show x ≤ A by omega, h3⟩
    rw [← k2] at h4 ⊢
    exact h w k1 h4
  · have hall : ∀ w, w < 2 ^ nbM (ib (Int32.ofNat A)) 10 0 → ht (sp (ib (Int32.ofNat A)) 10 0 w) = true → ib (g (sp (ib (Int32.ofNat A)) 10 0 w)) i = true := fun w h1 h2 => by
      have := (set_eq hA).mp ⟨w, h1, rfl⟩
      exact h _ (Nat.zero_le _) (by omega) this.2 h2
    refine ⟨decide_eq_true (Nat.lt_of_not_le (fun x => ?_)), hall⟩
    have := hall w0 hw h0
    rw [hs i x] at this
    cases this
noncomputable def hlB (b : Nat) (hM0 : px_H) (z : Nat) (ls : Nat → Int32) (L : Nat) (q a : Int32) (x : Nat) : Bool := match rsL b hM0 z ls L (pkS q a x) with
  | none => false
  | some E => !decide (E.1 = 0)
theorem hlB_e {x : Nat} : htL b hM0 z ls L q a x = bif hlB b hM0 z ls L q a x then 1 else 0 := by
  unfold htL hlB
  cases rsL b hM0 z ls L (pkS q a x) with
  | none => rfl
  | some E =>
    show (bif decide (E.1 = 0) then 0 else 1) = bif !decide (E.1 = 0) then 1 else 0
    cases decide (E.1 = 0) <;> rfl
theorem oldX2 (oX0 : oS hX0) (oM0 : oS hM0) (rp : RPt z dn ln hX0 hM0) (b2 : b < 2) (hz : sz z (Int32.ofNat A)) (Ld : L ≤ dn) (li : LIq L ls hX0 hM0) : ∀ (k N c : Nat) (v4 v5 : Int32) (x : px_H), c + k < 1000 → k ≤ 64 → k < N → oS x → fz WSU VBY hX0 x → GT x → ∃ hX', fn_X_old_L41 (Int32.ofNat b) (Int32.ofNat A) N (Int32.ofNat c) v4 v5 (wy k) x = some (ansF (suN (fun w => okL b hM0 z ls L (aI hM0 76 b) (Int32.ofNat A) (sp (ib (Int32.ofNat A)) 10 0 w)) k) (Int32.ofNat (c + suN (fun w => htL b hM0 z ls L (aI hM0 76 b) (Int32.ofNat A) (sp (ib (Int32.ofNat A)) 10 0 w)) k)), hX') ∧ (GT hX' ∧ ZX (suN (fun w => okL b hM0 z ls L (aI hM0 76 b) (Int32.ofNat A) (sp (ib (Int32.ofNat A)) 10 0 w)) k) 2 (rw2 (bif decide (c + suN (fun w => htL b hM0 z ls L (aI hM0 76 b) (Int32.ofNat A) (sp (ib (Int32.ofNat A)) 10 0 w)) k = 0) then 0 else (cA (pkS (aI hM0 76 b) (Int32.ofNat A)) (hlB b hM0 z ls L (aI hM0 76 b) (Int32.ofNat A)) (sp (ib (Int32.ofNat A)) 10 0) k v4).toInt64) (cR (pkS (aI hM0 76 b) (Int32.ofNat A)) (hlB b hM0 z ls L (aI hM0 76 b) (Int32.ofNat A)) (sp (ib (Int32.ofNat A)) 10 0) k v5).toInt64) hX0 hX') := by
  intro k
  induction k with
  | zero =>
    intro N c v4 v5 x hc _ hN ox f gt
    obtain ⟨N, rfl⟩ : ∃ k, N = k + 1 := ⟨N - 1, by omega⟩
    show ∃ hX', fb_X_old_L41 (Int32.ofNat b) (Int32.ofNat A) (fn_X_old_L41 (Int32.ofNat b) (Int32.ofNat A) N) (Int32.ofNat c) v4 v5 (Int32.ofInt (-1)) x = some (ansF 0 (Int32.ofNat (c + 0)), hX') ∧ (GT hX' ∧ ZX 0 2 (rw2 (bif decide (c + 0 = 0) then 0 else v4.toInt64) v5.toInt64) hX0 hX')
    unfold fb_X_old_L41
    rw [show px_cmp .lt (Int32.ofInt (-1)) 0 = true from by decide, cond_true, cmp_le, nm_ofNat_toInt c (by omega), show (0 : Int32).toInt = 0 from by decide, Nat.add_zero]
    by_cases e : c = 0
    · obtain ⟨x4, x5, t1, t2, t3, t4⟩ := two_X ox gt (Int64.ofNat 0) v5.toInt64
      rw [decide_eq_true (show (c : Int) ≤ 0 by omega), cond_true, t1, Option.bind_some, t2, Option.bind_some, decide_eq_true e, cond_true]
      exact ⟨x5, ans_0, t3, ZX_0 t4⟩
    · obtain ⟨x4, x5, t1, t2, t3, t4⟩ := two_X ox gt v4.toInt64 v5.toInt64
      rw [decide_eq_false (show ¬ (c : Int) ≤ 0 by omega), cond_false, t1, Option.bind_some, t2, Option.bind_some, decide_eq_false e, cond_false]
      exact ⟨x5, ans_0, t3, ZX_0 t4⟩
  | succ k ih =>
    intro N c v4 v5 x hc hk hN ox f gt
    obtain ⟨N, rfl⟩ : ∃ k, N = k + 1 := ⟨N - 1, by omega⟩
    have z76' : sz z (aI hM0 76 b) := (rp.1.2.2.2.2.2.2.2.1 b b2).2.2
    have e76' : aI x 7 b = aI hM0 76 b := by
      rw [(f.2 7 rfl).1]
      exact (rp.1.2.2.2.2.2.2.2.1 b b2).1
    have hs' : sz z (pkS (aI hM0 76 b) (Int32.ofNat A) (sp (ib (Int32.ofNat A)) 10 0 k)) := spk_sz z76' hz
    obtain ⟨x2, x3, q0, q1, q2, q3, q4, q5⟩ := liX oX0 oM0 rp b2 hs' Ld li ox f gt
    show ∃ hX', fb_X_old_L41 (Int32.ofNat b) (Int32.ofNat A) (fn_X_old_L41 (Int32.ofNat b) (Int32.ofNat A) N) (Int32.ofNat c) v4 v5 (Int32.ofNat k) x = _ ∧ _
    unfold fb_X_old_L41
    rw [(wy_s (show k ≤ 1024 by omega)).2.2, cond_false, pk_X b2 (show k < 64 by omega), Option.bind_some, e76', q0, Option.bind_some, q1, Option.bind_some, (wy_s (show k ≤ 1024 by omega)).1, cmp_b01n]
    show ∃ hX', _ = some (ansF (suN (fun w => okL b hM0 z ls L (aI hM0 76 b) (Int32.ofNat A) (sp (ib (Int32.ofNat A)) 10 0 w)) k + okL b hM0 z ls L (aI hM0 76 b) (Int32.ofNat A) (sp (ib (Int32.ofNat A)) 10 0 k)) (Int32.ofNat (c + (suN (fun w => htL b hM0 z ls L (aI hM0 76 b) (Int32.ofNat A) (sp (ib (Int32.ofNat A)) 10 0 w)) k + htL b hM0 z ls L (aI hM0 76 b) (Int32.ofNat A) (sp (ib (Int32.ofNat A)) 10 0 k)))), hX') ∧ (GT hX' ∧ ZX (suN (fun w => okL b hM0 z ls L (aI hM0 76 b) (Int32.ofNat A) (sp (ib (Int32.ofNat A)) 10 0 w)) k + okL b hM0 z ls L (aI hM0 76 b) (Int32.ofNat A) (sp (ib (Int32.ofNat A)) 10 0 k)) 2 (rw2 (bif decide (c + (suN (fun w => htL b hM0 z ls L (aI hM0 76 b) (Int32.ofNat A) (sp (ib (Int32.ofNat A)) 10 0 w)) k + htL b hM0 z ls L (aI hM0 76 b) (Int32.ofNat A) (sp (ib (Int32.ofNat A)) 10 0 k)) = 0) then 0 else (cA (pkS (aI hM0 76 b) (Int32.ofNat A)) (hlB b hM0 z ls L (aI hM0 76 b) (Int32.ofNat A)) (sp (ib (Int32.ofNat A)) 10 0) k (bif hlB b hM0 z ls L (aI hM0 76 b) (Int32.ofNat A) (sp (ib (Int32.ofNat A)) 10 0 k) then v4 &&& pkS (aI hM0 76 b) (Int32.ofNat A) (sp (ib (Int32.ofNat A)) 10 0 k) else v4)).toInt64) (cR (pkS (aI hM0 76 b) (Int32.ofNat A)) (hlB b hM0 z ls L (aI hM0 76 b) (Int32.ofNat A)) (sp (ib (Int32.ofNat A)) 10 0) k (bif hlB b hM0 z ls L (aI hM0 76 b) (Int32.ofNat A) (sp (ib (Int32.ofNat A)) 10 0 k) then v5 ||| pkS (aI hM0 76 b) (Int32.ofNat A) (sp (ib (Int32.ofNat A)) 10 0 k) else v5)).toInt64) hX0 hX')
    cases hr : rsL b hM0 z ls L (pkS (aI hM0 76 b) (Int32.ofNat A) (sp (ib (Int32.ofNat A)) 10 0 k)) with
    | none =>
      have eo : okL b hM0 z ls L (aI hM0 76 b) (Int32.ofNat A) (sp (ib (Int32.ofNat A)) 10 0 k) = 1 := by unfold okL; rw [hr]; rfl
      rw [eo]
      exact ⟨x3, ans_X, q4, ZX_n q3⟩
    | some E =>
      have eo : okL b hM0 z ls L (aI hM0 76 b) (Int32.ofNat A) (sp (ib (Int32.ofNat A)) 10 0 k) = 0 := by unfold okL; rw [hr]; rfl
      have eb : hlB b hM0 z ls L (aI hM0 76 b) (Int32.ofNat A) (sp (ib (Int32.ofNat A)) 10 0 k) = !decide (E.1 = 0) := by unfold hlB; rw [hr]
      rw [eo, hlB_e, eb]
      obtain ⟨Q, xt⟩ := q5 E hr
      obtain ⟨s1, s2⟩ := XT_size xt
      have key : ∀ c v4 v5, c + k < 1000 → ∃ hX', fn_X_old_L41 (Int32.ofNat b) (Int32.ofNat A) N (Int32.ofNat c) v4 v5 (wy k) x3 = some (ansF (suN (fun w => okL b hM0 z ls L (aI hM0 76 b) (Int32.ofNat A) (sp (ib (Int32.ofNat A)) 10 0 w)) k + 0) (Int32.ofNat (c + suN (fun w => htL b hM0 z ls L (aI hM0 76 b) (Int32.ofNat A) (sp (ib (Int32.ofNat A)) 10 0 w)) k)), hX') ∧ (GT hX' ∧ ZX (suN (fun w => okL b hM0 z ls L (aI hM0 76 b) (Int32.ofNat A) (sp (ib (Int32.ofNat A)) 10 0 w)) k + 0) 2 (rw2 (bif decide (c + suN (fun w => htL b hM0 z ls L (aI hM0 76 b) (Int32.ofNat A) (sp (ib (Int32.ofNat A)) 10 0 w)) k = 0) then 0 else (cA (pkS (aI hM0 76 b) (Int32.ofNat A)) (hlB b hM0 z ls L (aI hM0 76 b) (Int32.ofNat A)) (sp (ib (Int32.ofNat A)) 10 0) k v4).toInt64) (cR (pkS (aI hM0 76 b) (Int32.ofNat A)) (hlB b hM0 z ls L (aI hM0 76 b) (Int32.ofNat A)) (sp (ib (Int32.ofNat A)) 10 0) k v5).toInt64) hX0 hX') := fun c v4 v5 hc => ih N c v4 v5 x3 hc (by omega) (by omega) q2 q3 q4
      have key1 : ∀ v4 v5, _ := fun v4 v5 => key (c + 1) v4 v5 (by omega)
      rw [show ∀ t, c + 1 + t = c + (t + 1) from fun t => by omega] at key1
      have e0 : px_cmp .le (gI x3 (gR x3 28 2) 3) 0 = decide (E.1 = 0) := by
        rw [s1, cmp_le, nm_ofNat_toInt _ (by omega), show (0 : Int32).toInt = 0 from by decide]
        simp only [decide_eq_decide]
        omega
      show ∃ hX', (bif px_cmp .le (gI x3 (gR x3 28 2) 3) 0 then _ else _) = _ ∧ _
      rw [e0, inc1]
      cases decide (E.1 = 0) with
      | true => exact key c _ _ (by omega)
      | false => exact key1 _ _
theorem oldM2 (oX0 : oS hX0) (oM0 : oS hM0) (rp : RPt z dn ln hX0 hM0) (b2 : b < 2) (hz : sz z (Int32.ofNat A)) (Ld : L ≤ dn) (li : LIq L ls hX0 hM0) (gt0 : GT hX0) (hA : A < 1024) : ∀ (k v N c : Nat) (v4 v5 : Int32) (y : px_H), c + k < 3000 → v + k = A + 1 → k < N → oS y → fz WTR V98 hM0 y → SM hM0 y → ∃ hM', fn_M_old_L53 (Int32.ofNat b) (Int32.ofNat A) N (Int32.ofNat c) v4 v5 (Int32.ofNat v) y = some (ansF (tf (fun v => bif sub_ (ib (Int32.ofNat A)) 10 0 v then okL b hM0 z ls L (aI hM0 76 b) (Int32.ofNat A) v else 0) k v) (Int32.ofNat (c + tf (fun v => bif sub_ (ib (Int32.ofNat A)) 10 0 v then htL b hM0 z ls L (aI hM0 76 b) (Int32.ofNat A) v else 0) k v)), hM') ∧ ZY (tf (fun v => bif sub_ (ib (Int32.ofNat A)) 10 0 v then okL b hM0 z ls L (aI hM0 76 b) (Int32.ofNat A) v else 0) k v) 2 (rw2 (bif decide (c + tf (fun v => bif sub_ (ib (Int32.ofNat A)) 10 0 v then htL b hM0 z ls L (aI hM0 76 b) (Int32.ofNat A) v else 0) k v = 0) then 0 else (mA (pkS (aI hM0 76 b) (Int32.ofNat A)) (sub_ (ib (Int32.ofNat A)) 10 0) (hlB b hM0 z ls L (aI hM0 76 b) (Int32.ofNat A)) k v v4).toInt64) (mR (pkS (aI hM0 76 b) (Int32.ofNat A)) (sub_ (ib (Int32.ofNat A)) 10 0) (hlB b hM0 z ls L (aI hM0 76 b) (Int32.ofNat A)) k v v5).toInt64) hM0 hM' := by
  intro k
  induction k with
  | zero =>
    intro v N c v4 v5 y hc hv hN oy f sm'
    obtain ⟨N, rfl⟩ : ∃ k, N = k + 1 := ⟨N - 1, by omega⟩
    show ∃ hM', fb_M_old_L53 (Int32.ofNat b) (Int32.ofNat A) (fn_M_old_L53 (Int32.ofNat b) (Int32.ofNat A) N) (Int32.ofNat c) v4 v5 (Int32.ofNat v) y = some (ansF 0 (Int32.ofNat (c + 0)), hM') ∧ ZY 0 2 (rw2 (bif decide (c + 0 = 0) then 0 else v4.toInt64) v5.toInt64) hM0 hM'
    unfold fb_M_old_L53
    rw [show v = A + 1 from by omega, gt_t (by omega), cond_true, sb_i, cmp_ne, Nat.add_zero]
    by_cases e : c = 0
    · obtain ⟨y4, y5, t1, t2, t3⟩ := two_Y oy (Int64.ofNat 0) v5.toInt64
      subst e
      rw [show (!decide (Int32.ofNat 0 = 0)) = false from by decide, cond_false, t1, Option.bind_some, t2, Option.bind_some, decide_eq_true rfl, cond_true]
      exact ⟨y5, ans_0, ZY_0 t3⟩
    · obtain ⟨y4, y5, t1, t2, t3⟩ := two_Y oy v4.toInt64 v5.toInt64
      rw [decide_eq_false (fun x : Int32.ofNat c = 0 => e (by
        have := congrArg Int32.toInt x
        rw [nm_ofNat_toInt c (by omega), show (0 : Int32).toInt = 0 from by decide] at this
        omega)), Bool.not_false, cond_true, t1, Option.bind_some, t2, Option.bind_some, decide_eq_false e, cond_false]
      exact ⟨y5, ans_0, ZY_0 t3⟩
  | succ k ih =>
    intro v N c v4 v5 y hc hv hN oy f sm'
    obtain ⟨N, rfl⟩ : ∃ k, N = k + 1 := ⟨N - 1, by omega⟩
    have z76' : sz z (aI hM0 76 b) := (rp.1.2.2.2.2.2.2.2.1 b b2).2.2
    show ∃ hM', fb_M_old_L53 (Int32.ofNat b) (Int32.ofNat A) (fn_M_old_L53 (Int32.ofNat b) (Int32.ofNat A) N) (Int32.ofNat c) v4 v5 (Int32.ofNat v) y = _ ∧ _
    unfold fb_M_old_L53
    rw [gt_f (show v ≤ A by omega) (by omega), cond_false, sub_M (show v < 1024 by omega), inc1]
    show ∃ hM', _ = some (ansF ((bif sub_ (ib (Int32.ofNat A)) 10 0 v then okL b hM0 z ls L (aI hM0 76 b) (Int32.ofNat A) v else 0) + tf (fun v => bif sub_ (ib (Int32.ofNat A)) 10 0 v then okL b hM0 z ls L (aI hM0 76 b) (Int32.ofNat A) v else 0) k (v + 1)) (Int32.ofNat (c + ((bif sub_ (ib (Int32.ofNat A)) 10 0 v then htL b hM0 z ls L (aI hM0 76 b) (Int32.ofNat A) v else 0) + tf (fun v => bif sub_ (ib (Int32.ofNat A)) 10 0 v then htL b hM0 z ls L (aI hM0 76 b) (Int32.ofNat A) v else 0) k (v + 1)))), hM') ∧ ZY ((bif sub_ (ib (Int32.ofNat A)) 10 0 v then okL b hM0 z ls L (aI hM0 76 b) (Int32.ofNat A) v else 0) + tf (fun v => bif sub_ (ib (Int32.ofNat A)) 10 0 v then okL b hM0 z ls L (aI hM0 76 b) (Int32.ofNat A) v else 0) k (v + 1)) 2 (rw2 (bif decide (c + ((bif sub_ (ib (Int32.ofNat A)) 10 0 v then htL b hM0 z ls L (aI hM0 76 b) (Int32.ofNat A) v else 0) + tf (fun v => bif sub_ (ib (Int32.ofNat A)) 10 0 v then htL b hM0 z ls L (aI hM0 76 b) (Int32.ofNat A) v else 0) k (v + 1)) = 0) then 0 else (mA (pkS (aI hM0 76 b) (Int32.ofNat A)) (sub_ (ib (Int32.ofNat A)) 10 0) (hlB b hM0 z ls L (aI hM0 76 b) (Int32.ofNat A)) k (v + 1) (bif sub_ (ib (Int32.ofNat A)) 10 0 v then (bif hlB b hM0 z ls L (aI hM0 76 b) (Int32.ofNat A) v then v4 &&& pkS (aI hM0 76 b) (Int32.ofNat A) v else v4) else v4)).toInt64) (mR (pkS (aI hM0 76 b) (Int32.ofNat A)) (sub_ (ib (Int32.ofNat A)) 10 0) (hlB b hM0 z ls L (aI hM0 76 b) (Int32.ofNat A)) k (v + 1) (bif sub_ (ib (Int32.ofNat A)) 10 0 v then (bif hlB b hM0 z ls L (aI hM0 76 b) (Int32.ofNat A) v then v5 ||| pkS (aI hM0 76 b) (Int32.ofNat A) v else v5) else v5)).toInt64) hM0 hM'
    cases hsub : sub_ (ib (Int32.ofNat A)) 10 0 v with
    | false =>
      rw [cond_false, cond_false, cond_false, cond_false, cond_false, Nat.zero_add, Nat.zero_add]
      exact ih (v + 1) N c v4 v5 y (by omega) (by omega) (by omega) oy f sm'
    | true =>
      have hs' : sz z (pkS (aI hM0 76 b) (Int32.ofNat A) v) := pk_sz rp.1.1 z76' hz (by omega) hsub
      obtain ⟨y7, q1, q2, q3, q4⟩ := liM oX0 oM0 gt0 rp b2 hs' Ld li oy f sm'
      rw [cond_true, cond_true, cond_true, cond_true, cond_true, pk_M b2 v, Option.bind_some, (f.2 76 rfl).1, q1, Option.bind_some]
      cases hr : rsL b hM0 z ls L (pkS (aI hM0 76 b) (Int32.ofNat A) v) with
      | none =>
        have eo : okL b hM0 z ls L (aI hM0 76 b) (Int32.ofNat A) v = 1 := by unfold okL; rw [hr]; rfl
        rw [eo, lv_n]
        exact ⟨y7, ans_M, ZY_n q3⟩
      | some E =>
        have eo : okL b hM0 z ls L (aI hM0 76 b) (Int32.ofNat A) v = 0 := by unfold okL; rw [hr]; rfl
        have eb : hlB b hM0 z ls L (aI hM0 76 b) (Int32.ofNat A) v = !decide (E.1 = 0) := by unfold hlB; rw [hr]
        obtain ⟨v1, v2⟩ := lv_s (rsL_w hr)
        rw [eo, hlB_e, eb, v1, cond_true]
        have key : ∀ c v4 v5, c + k < 3000 → ∃ hM', fn_M_old_L53 (Int32.ofNat b) (Int32.ofNat A) N (Int32.ofNat c) v4 v5 (Int32.ofNat (v + 1)) y7 = some (ansF (0 + tf (fun v => bif sub_ (ib (Int32.ofNat A)) 10 0 v then okL b hM0 z ls L (aI hM0 76 b) (Int32.ofNat A) v else 0) k (v + 1)) (Int32.ofNat (c + tf (fun v => bif sub_ (ib (Int32.ofNat A)) 10 0 v then htL b hM0 z ls L (aI hM0 76 b) (Int32.ofNat A) v else 0) k (v + 1))), hM') ∧ ZY (0 + tf (fun v => bif sub_ (ib (Int32.ofNat A)) 10 0 v then okL b hM0 z ls L (aI hM0 76 b) (Int32.ofNat A) v else 0) k (v + 1)) 2 (rw2 (bif decide (c + tf (fun v => bif sub_ (ib (Int32.ofNat A)) 10 0 v then htL b hM0 z ls L (aI hM0 76 b) (Int32.ofNat A) v else 0) k (v + 1) = 0) then 0 else (mA (pkS (aI hM0 76 b) (Int32.ofNat A)) (sub_ (ib (Int32.ofNat A)) 10 0) (hlB b hM0 z ls L (aI hM0 76 b) (Int32.ofNat A)) k (v + 1) v4).toInt64) (mR (pkS (aI hM0 76 b) (Int32.ofNat A)) (sub_ (ib (Int32.ofNat A)) 10 0) (hlB b hM0 z ls L (aI hM0 76 b) (Int32.ofNat A)) k (v + 1) v5).toInt64) hM0 hM' := fun c v4 v5 hc => by
          rw [Nat.zero_add]
          exact ih (v + 1) N c v4 v5 y7 hc (by omega) (by omega) q2 q3 q4
        show ∃ hM', (bif px_cmp .lt (lg_cmp (ltV (some E)) (Int64.ofNat 0)) 0 then _ else _) = _ ∧ _
        rw [v2, inc1]
        cases decide (E.1 = 0) with
        | true =>
          have key0 := key c v4 v5 (by omega)
          rw [show ∀ t, c + t = c + (0 + t) from fun t => by omega] at key0
          exact key0
        | false =>
          have key1 : ∀ v4 v5, _ := fun v4 v5 => key (c + 1) v4 v5 (by omega)
          rw [show ∀ t, c + 1 + t = c + (1 + t) from fun t => by omega] at key1
          exact key1 _ _
theorem sim_old2 (oX : oS hX) (oM : oS hM) (hR : RLz z dn nx ln hX hM) (gt : GT hX) (hW : RWq l hX hM) (li : LIq L ls hX hM) (a1 a2 : Int32) : ∃ (v : Int32) (hX' hM' : px_H), fn_X_old a1 a2 hX = some (v, hX') ∧ fn_M_old a1 a2 hM = some (v, hM') ∧ QR l hX' hM' := by
  obtain ⟨hR1, o1, hW1⟩ := RLz_thr' hR oM
  have hW1 := hW1 hW
  have li1 : LIq L ls hX (wF hM 69 0 (.int (Int32.ofInt 0))) := ⟨li.1, li.2.1, (gI_wF_ne (by decide)).trans li.2.2.1, fun j hj => ⟨(li.2.2.2 j hj).1, by rw [aI_wF]; exact (li.2.2.2 j hj).2⟩⟩
  unfold fn_X_old fn_M_old
  rw [sb_i]
  generalize wF hM 69 0 (.int (Int32.ofInt 0)) = m1 at hR1 o1 hW1 li1 ⊢
  have hT := hR1.1
  have z9 := hT.1
  have d6 := hT.2.1
  have L6 := li.1
  rw [gd_canPack hT.2.2.1 z9, gd_MisBag, gd_isSet hT.2.2.2.1 z9, Option.bind_some, Option.bind_some, Option.bind_some, cmp_b01, cmp_b01, cmp_b01, li1.2.1, li1.2.2.1, hT.2.2.2.2.1, hT.2.2.2.2.2.1]
  cases hc : cP a1 a2 z with
  | false =>
    refine ⟨_, hX, m1, rfl, ?_, gt, hW1⟩
    revert hc
    unfold cP
    cases inN a1 2 <;> cases inS a2 z <;> cases px_cmp .gt (nm_bc a2) (Int8.ofInt 6).toInt32 <;> intro hc <;> first | rfl | cases hc
  | true =>
    have hc' := hc
    unfold cP at hc'
    simp only [Bool.and_eq_true, Bool.not_eq_true'] at hc'
    obtain ⟨c1, c2, c3⟩ := hc'
    rw [c1, c2, c3]
    cases hl : px_cmp .le (Int32.ofNat L) (Int32.ofNat dn) with
    | false => exact ⟨_, hX, m1, rfl, rfl, gt, hW1⟩
    | true =>
      rw [cmp_le, nm_ofNat_toInt L (by omega), nm_ofNat_toInt dn (by omega)] at hl
      have Ld : L ≤ dn := by have := of_decide_eq_true hl; omega
      obtain ⟨b, A, b2, hA, rfl, rfl, hz, n6⟩ := cP_t z9 hc
      have rp := rp_of oX hR1
      have h64 : 2 ^ nbM (ib (Int32.ofNat A)) 10 0 ≤ 64 := Nat.pow_le_pow_right (n := 2) (by decide) n6
      obtain ⟨x9, e1, e2, e4⟩ := oldX2 oX o1 rp b2 hz Ld li1 _ fu 0 (Int16.ofInt 1023).toInt32 (Int32.ofInt 0) hX (by omega) h64 (fu_lt (by omega)) oX fz_rf gt
      obtain ⟨y9, e3, e5⟩ := oldM2 oX o1 rp b2 hz Ld li1 gt hA (A + 1) 0 fu 0 (Int32.ofInt (-1)) (Int32.ofInt 0) m1 (by omega) (by omega) (fu_lt (by omega)) o1 fz_rf SM_rf
      rw [two_or hA] at e4
      have eF : (bif decide (0 + suN (fun w => htL b m1 z ls L (aI m1 76 b) (Int32.ofNat A) (sp (ib (Int32.ofNat A)) 10 0 w)) (2 ^ nbM (ib (Int32.ofNat A)) 10 0) = 0) then (0 : Int64) else (cA (pkS (aI m1 76 b) (Int32.ofNat A)) (hlB b m1 z ls L (aI m1 76 b) (Int32.ofNat A)) (sp (ib (Int32.ofNat A)) 10 0) (2 ^ nbM (ib (Int32.ofNat A)) 10 0) (Int16.ofInt 1023).toInt32).toInt64) = (bif decide (0 + suN (fun w => htL b m1 z ls L (aI m1 76 b) (Int32.ofNat A) (sp (ib (Int32.ofNat A)) 10 0 w)) (2 ^ nbM (ib (Int32.ofNat A)) 10 0) = 0) then (0 : Int64) else (mA (pkS (aI m1 76 b) (Int32.ofNat A)) (sub_ (ib (Int32.ofNat A)) 10 0) (hlB b m1 z ls L (aI m1 76 b) (Int32.ofNat A)) (A + 1) 0 (Int32.ofInt (-1))).toInt64) := by
        by_cases e0 : 0 + suN (fun w => htL b m1 z ls L (aI m1 76 b) (Int32.ofNat A) (sp (ib (Int32.ofNat A)) 10 0 w)) (2 ^ nbM (ib (Int32.ofNat A)) 10 0) = 0
        · rw [decide_eq_true e0, cond_true, cond_true]
        · rw [decide_eq_false e0, cond_false, cond_false]
          have hex : ∃ w, w < 2 ^ nbM (ib (Int32.ofNat A)) 10 0 ∧ hlB b m1 z ls L (aI m1 76 b) (Int32.ofNat A) (sp (ib (Int32.ofNat A)) 10 0 w) = true := Classical.byContradiction (fun hn => e0 (by
            rw [Nat.zero_add]
            refine su_0.mpr (fun j hj => ?_)
            rw [hlB_e]
            cases hb : hlB b m1 z ls L (aI m1 76 b) (Int32.ofNat A) (sp (ib (Int32.ofNat A)) 10 0 j) with
            | false => rfl
            | true => exact absurd ⟨j, hj, hb⟩ hn))
          obtain ⟨w0, w1, w2⟩ := hex
          rw [two_and hA w1 w2 (sz_sm z9 (spk_sz (hT.2.2.2.2.2.2.2.1 b b2).2.2 hz))]
      rw [eF] at e4
      rw [two_su hA (okL b m1 z ls L (aI m1 76 b) (Int32.ofNat A)), two_su hA (htL b m1 z ls L (aI m1 76 b) (Int32.ofNat A))] at e1 e4
      refine ⟨_, x9, y9, ?_, e3, e2, Z_q (by omega) hW1 e4 e5⟩
      rw [Bool.not_true, cond_false, cond_true, fw_ok (sz_sm z9 hz), Option.bind_some]
      exact e1
end tb_BF
end mg_1

section mg_2
/-! fair, on both sides -/
def WF (c k : Nat) : Bool := WAS c k || W15 c k
section tb_BG
variable {h hX hM hX' hM' : px_H} {z dn nx ln D r rc l t : Nat} {u : Int64} {w : Int32} {y : TB × Int64 × Int64}
theorem wf_a (a : fz WAS V98 hM hM') : fz WF V98 hM hM' := fz_mono a (fun c k e => by
  unfold WF at e
  simp only [Bool.or_eq_false_iff] at e
  exact e.1) (fun _ e => e)
theorem wf_b (a : fz W15 V0 hM hM') : fz WF V98 hM hM' := fz_mono a (fun c k e => by
  unfold WF at e
  simp only [Bool.or_eq_false_iff] at e
  exact e.2) (fun _ _ => rfl)
theorem mf_0 {a1 v3 v7 : Int32} {v4 : Int64} {N : Nat} (y : px_H) : fn_M_fair_L68 a1 (Int32.ofNat D) (N + 1) v3 v4 (Int32.ofInt 0) v7 y = some ((Int8.ofInt (-3)).toInt32, wF y 69 15 (.int (Int32.ofInt 0))) := by
  show fb_M_fair_L68 a1 (Int32.ofNat D) (fn_M_fair_L68 a1 (Int32.ofNat D) N) v3 v4 (Int32.ofInt 0) v7 y = _
  unfold fb_M_fair_L68
  rw [show px_cmp .eq (Int32.ofInt 0) 0 = true from by decide, show px_cmp .ne (Int32.ofInt 0) 0 = false from by decide]
  cases px_cmp .ge v7 (Int32.ofInt 4) <;> rfl
/-- one rule, on both sides -/
theorem fair_1 {x y : px_H} (hrc : rc ∈ ruls) (hG : ab_h nm_GH x) (oy : oS y) (hT : TR z dn x y) (hRR : RR rc r ln x y) (h15 : gI y 69 15 = Int32.ofNat r) (h10 : gI y 69 20 = Int32.ofInt 0) (hC : CL z nx 19 x y) (n6 : nx ≤ 6) (hn1 : gI x 19 2 = Int32.ofNat nx) (hn2 : gI y 69 31 = Int32.ofNat nx) (gt : GT x) (nD : nx ≤ D) (hD : D < dn) :
    ∃ (t : Bool) (x1 y1 : px_H), fn_X_walkBy rc (Int32.ofInt 0) (Int32.ofNat D) x = some (b01 t, x1) ∧ fn_M_asks (Int32.ofNat D) y = some (b01 t, y1) ∧ ab_h nm_GH x1 ∧ oS y1 ∧ fz WBY VBY x x1 ∧ fz WAS V98 y y1 ∧ SM y y1 ∧ GT x1 ∧ aR x1 18 = aR x 18 ∧ (t = true → ∃ u w r, WN r ∧ AQ z D u w r x1 y1) := by
  have oX := oS_of hG
  obtain ⟨h0, x1, y1, b1, b2, b3, b4, b5, b6, b7, b8, b9, -⟩ := aw2 (rc := rc) (r := r) (a := Int32.ofInt 0) hrc oX oy hT hRR h15 (fun p _ => by rw [h10]) hC n6 hn1 hn2 gt nD hD
  obtain ⟨t', x1', c1, c2, c3, c4, c5, -⟩ := walkO hrc hG hT hRR oy h10 hC n6 hn1 hn2 gt nD hD
  rw [b1] at c1
  have ex : x1' = x1 := (congrArg Prod.snd (Option.some.inj c1)).symm
  rw [ex] at c2 c5
  refine ⟨_, x1, y1, b1, b2, c2, b4, b5, b6, b7, b8, c5, fun ht => ?_⟩
  obtain ⟨r, hr⟩ := Option.isSome_iff_exists.mp ht
  exact ⟨_, _, r, WN_k hr, b9 r hr⟩
theorem fair_L2 {m1 : px_H} {a1 : Int32} (hG0 : ab_h nm_GH hX) (o1 : oS m1) (hT : TR z dn hX m1) (hB : ∀ i, i < 3 → RB i hX m1) (hK : ∀ i, i < 3 → aR hX 18 i = 54 + 4 * i) (ht : gI hX 0 4 = Int32.ofNat t) (ht2 : ∀ i, i < 3 → aI m1 82 (1 + i) = b01 (t.testBit i)) (h10 : gI m1 69 20 = Int32.ofInt 0) (hC : CL z nx 19 hX m1) (n6 : nx ≤ 6) (hn1 : gI hX 19 2 = Int32.ofNat nx) (hn2 : gI m1 69 31 = Int32.ofNat nx) (nD : nx ≤ D) (hD : D < dn) (hs : sz z a1) (n3 : ∃ i, i < z ∧ ib a1 i = true) (hW : RWq l hX m1) : ∀ (m i N N' : Nat) (v3 v3' : Int32) (v4 : Int64) (x y : px_H), i + m = 3 → m < N → m + 1 < N' → ab_h nm_GH x → oS y → fz WBY VBY hX x → fz WF V98 m1 y → SM m1 y → aR x 18 = aR hX 18 → GT x → px_cmp .lt v3' 0 = false → ∃ (v w : Int32) (hX' hM' : px_H), fn_X_fair_L66 a1 (Int32.ofNat D) N v3 v4 (Int32.ofNat i) x = some (v, hX') ∧ fn_M_fair_L68 a1 (Int32.ofNat D) N' v3' v4 (Int32.ofInt 1) (Int32.ofNat (i + 1)) y = some (w, hM') ∧ GT hX' ∧ RWq l hX' hM' := by
  have oX := oS_of hG0
  have z9 := hT.1
  intro m
  induction m with
  | zero =>
    intro i N N' v3 v3' v4 x y hi hN hN' hG oy f g sm' eR gt hv
    obtain ⟨N, rfl⟩ : ∃ k, N = k + 1 := ⟨N - 1, by omega⟩
    obtain ⟨N', rfl⟩ : ∃ k, N' = k + 1 := ⟨N' - 1, by omega⟩
    have hi : i = 3 := by omega
    subst hi
    obtain ⟨x5, t1, t2, t3, t4⟩ := one_X (oS_of hG) gt v4
    have o2 : oS (wF y 69 15 (.int (Int32.ofInt 0))) := oS_wI (cs := [69]) (ci := 9) rfl List.mem_cons_self oy
    obtain ⟨y5, r1, r2, r3⟩ := one_Y o2 v4
    show ∃ (v w : Int32) (hX' hM' : px_H), fb_X_fair_L66 a1 (Int32.ofNat D) (fn_X_fair_L66 a1 (Int32.ofNat D) N) v3 v4 (Int32.ofNat 3) x = some (v, hX') ∧ fb_M_fair_L68 a1 (Int32.ofNat D) (fn_M_fair_L68 a1 (Int32.ofNat D) N') v3' v4 (Int32.ofInt 1) (Int32.ofNat 4) y = some (w, hM') ∧ _
    unfold fb_X_fair_L66 fb_M_fair_L68
    rw [show px_cmp .ge (Int32.ofNat 3) (Int32.ofInt 3) = true from by decide, cond_true, t1, show px_cmp .ge (Int32.ofNat 4) (Int32.ofInt 4) = true from by decide, cond_true, sb_i, show px_cmp .ne (Int32.ofInt 1) 0 = true from by decide, cond_true, sb_i, r1, Option.bind_some]
    cases px_cmp .ne v3' 0 with
    | true => exact ⟨_, _, x5, y5, rfl, rfl, t3, RX_Y (by omega) t4 r3⟩
    | false => exact ⟨_, _, x5, y5, rfl, rfl, t3, RX_Y (by omega) t4 r3⟩
  | succ m ih =>
    intro i N N' v3 v3' v4 x y hi hN hN' hG oy f g sm' eR gt hv
    obtain ⟨N, rfl⟩ : ∃ k, N = k + 1 := ⟨N - 1, by omega⟩
    obtain ⟨N', rfl⟩ : ∃ k, N' = k + 2 := ⟨N' - 2, by omega⟩
    have i3 : i < 3 := by omega
    have e82 : aI y 82 (i + 1) = b01 (t.testBit i) := by rw [(g.2 82 rfl).1, Nat.add_comm]; exact ht2 i i3
    have e04 : gI x 0 4 = Int32.ofNat t := (fz_gI f rfl).trans ht
    show ∃ (v w : Int32) (hX' hM' : px_H), fb_X_fair_L66 a1 (Int32.ofNat D) (fn_X_fair_L66 a1 (Int32.ofNat D) N) v3 v4 (Int32.ofNat i) x = some (v, hX') ∧ fb_M_fair_L68 a1 (Int32.ofNat D) (fn_M_fair_L68 a1 (Int32.ofNat D) (N' + 1)) v3' v4 (Int32.ofInt 1) (Int32.ofNat (i + 1)) y = some (w, hM') ∧ _
    unfold fb_X_fair_L66 fb_M_fair_L68
    rw [show Int32.ofInt 3 = Int32.ofNat 3 from rfl, show Int32.ofInt 4 = Int32.ofNat 4 from rfl, ge_f (show i < 3 by omega) (by omega), cond_false, ge_f (show i + 1 < 4 by omega) (by omega), cond_false, show px_cmp .eq (Int32.ofInt 1) 0 = false from by decide, cond_false, cmp_le, nm_ofNat_toInt (i + 1) (by omega), show (0 : Int32).toInt = 0 from by decide, decide_eq_false (show ¬ ((i + 1 : Nat) : Int) ≤ 0 by omega), cond_false, nm_inR i 3 i3 (by omega), cond_true, nm_inR (i + 1) 4 (by omega) (by omega), cond_true, nm_ofNat_clamp i (by omega), nm_ofNat_clamp (i + 1) (by omega), inc1, inc1, eR, hK i i3, e04, hb_ne _ (show i < 32 by omega), ib_nat t (show i < 32 by omega), e82, cmp_b01n]
    cases t.testBit i with
    | false => exact ih (i + 1) N (N' + 1) v3 v3' v4 x y (by omega) (by omega) (by omega) hG oy f g sm' eR gt hv
    | true =>
      rw [cond_true, cond_true, sb_i]
      obtain ⟨ln', rB⟩ := RB_RR i3 oX (hB i i3)
      have hrc : 54 + 4 * i ∈ ruls := by
        match i, i3 with
        | 0, _ => decide
        | 1, _ => decide
        | 2, _ => decide
        | i + 3, h => omega
      have oN : oS (wF y 69 15 (.int (Int32.ofNat (i + 1)))) := oS_wI (cs := [69]) (ci := 9) rfl List.mem_cons_self oy
      have fN : fz W15 V0 y (wF y 69 15 (.int (Int32.ofNat (i + 1)))) := fz_wF rfl
      have gN : gI (wF y 69 15 (.int (Int32.ofNat (i + 1)))) 69 15 = Int32.ofNat (1 + i) := (gI_wF (cs := [69]) (ci := 9) rfl List.mem_cons_self oy).trans (by rw [Nat.add_comm])
      generalize wF y 69 15 (.int (Int32.ofNat (i + 1))) = yN at oN fN gN ⊢
      have gM : fz WF V98 m1 yN := fz_tr g (wf_b fN)
      have sN : SM m1 yN := SMtr sm' (SM_f fN rfl rfl rfl rfl rfl rfl)
      obtain ⟨tt, x1, y1, q1, q2, q3, q4, q5, q6, q7, q8, q9, q10⟩ := fair_1 (rc := 54 + 4 * i) (r := 1 + i) hrc hG oN (TR_k f gM (by decide) (by decide) hT) (RR_m gM rfl rfl rfl (RR_by oX hrc f rB)) gN ((fz_gI gM rfl).trans h10) (CL_SM (fz_gL f rfl) (fz_gI f rfl) sN hC) n6 ((fz_gI f rfl).trans hn1) (sN.2.2.trans hn2) gt nD hD
      rw [q1, q2, Option.bind_some, Option.bind_some, cmp_b01n]
      have g1 : fz WF V98 m1 y1 := fz_tr gM (wf_a q6)
      have hw1 : RWq l x1 y1 := RWq_k (fz_tr f q5) g1 rfl rfl rfl rfl hW
      cases tt with
      | false =>
        have f0 : fz W15 V0 y1 (wF y1 69 15 (.int (Int32.ofInt 0))) := fz_wF rfl
        refine ⟨(Int8.ofInt (-3)).toInt32, (Int8.ofInt (-3)).toInt32, x1, wF y1 69 15 (.int (Int32.ofInt 0)), rfl, ?_, q8, RWq_k (fz_rf (W := W0) (V := V0)) f0 rfl rfl rfl rfl hw1⟩
        exact mf_0 y1
      | true =>
        obtain ⟨u, w, rr, hw, hA⟩ := q10 rfl
        have eX := hu_XV z9 (oS_of q3) hA hw hs n3
        have eM := hu_MV (a := a1) z9 ((fz_gI g1 rfl).trans hT.2.2.2.1) hA
        have key : ∀ v3 v3' v4, px_cmp .lt v3' 0 = false → ∃ (v w : Int32) (hX' hM' : px_H), fn_X_fair_L66 a1 (Int32.ofNat D) N v3 v4 (Int32.ofNat (i + 1)) x1 = some (v, hX') ∧ fn_M_fair_L68 a1 (Int32.ofNat D) (N' + 1) v3' v4 (Int32.ofInt 1) (Int32.ofNat (i + 1 + 1)) y1 = some (w, hM') ∧ GT hX' ∧ RWq l hX' hM' := fun v3 v3' v4 hv => ih (i + 1) N (N' + 1) v3 v3' v4 x1 y1 (by omega) (by omega) (by omega) q3 q4 (fz_tr f q5) g1 (SMtr sN q7) (q9.trans eR) q8 hv
        show ∃ (v w : Int32) (hX' hM' : px_H), ((fn_Walk_howUnlike a1 x1).bind fun q32 => _) = some (v, hX') ∧ ((fn_M_unlike a1 y1).bind fun q124 => _) = some (w, hM') ∧ _
        rw [eX, eM, Option.bind_some, Option.bind_some, hv]
        show ∃ (v w : Int32) (hX' hM' : px_H), (bif px_cmp .ge (lg_cmp (huV z D rr a1) v4) 0 then _ else _) = some (v, hX') ∧ (bif px_cmp .ge (lg_cmp (huV z D rr a1) v4) 0 then _ else _) = some (w, hM') ∧ _
        cases px_cmp .ge (lg_cmp (huV z D rr a1) v4) 0 with
        | true => exact key _ _ _ hv
        | false => exact key _ _ _ (by rw [cmp_lt, nm_ofNat_toInt (i + 1) (by omega), show (0 : Int32).toInt = 0 from by decide]; exact decide_eq_false (by omega))
theorem t8_t {α : Type} {t : Nat} (h : t < 8) (a b : α) : (bif t.testBit 0 then a else bif t.testBit 1 then a else bif t.testBit 2 then a else b) = bif !decide (t = 0) then a else b := by
  match t, h with
  | 0, _ => rfl
  | 1, _ => rfl
  | 2, _ => rfl
  | 3, _ => rfl
  | 4, _ => rfl
  | 5, _ => rfl
  | 6, _ => rfl
  | 7, _ => rfl
  | t + 8, h => omega
theorem sim_fair2 (hG : ab_h nm_GH hX) (oM : oS hM) (hR : RLz z dn nx ln hX hM) (hB : ∀ i, i < 3 → RB i hX hM) (hK : ∀ i, i < 3 → aR hX 18 i = 54 + 4 * i) (t8 : t < 8) (ht : gI hX 0 4 = Int32.ofNat t) (ht2 : ∀ i, i < 3 → aI hM 82 (1 + i) = b01 (t.testBit i)) (gt : GT hX) (hW : RWq l hX hM) (a1 a2 : Int32) : ∃ (v w : Int32) (hX' hM' : px_H), fn_X_fair a1 a2 hX = some (v, hX') ∧ fn_M_fair a1 a2 hM = some (w, hM') ∧ GT hX' ∧ RWq l hX' hM' := by
  have oX := oS_of hG
  obtain ⟨hR1, o1, hW1⟩ := RLz_thr' hR oM
  have hW1 := hW1 hW
  have ee : ∀ c, aI (wF hM 69 0 (.int (Int32.ofInt 0))) c = aI hM c := fun _ => aI_wF
  have hB1 : ∀ i, i < 3 → RB i hX (wF hM 69 0 (.int (Int32.ofInt 0))) := fun i hi => RB_thr ee (hB i hi)
  have ht3 : ∀ i, i < 3 → aI (wF hM 69 0 (.int (Int32.ofInt 0))) 82 (1 + i) = b01 (t.testBit i) := fun i hi => by rw [ee]; exact ht2 i hi
  unfold fn_X_fair fn_M_fair
  rw [sb_i]
  generalize wF hM 69 0 (.int (Int32.ofInt 0)) = m1 at hR1 o1 hW1 hB1 ht3 ⊢
  have hR2 := hR1
  obtain ⟨hT, h2, h3, hC, ⟨n6, hn1, hn2⟩, h8, ⟨h9, h10⟩, h11⟩ := hR2
  have z9 := hT.1
  rw [gd_hasAll hT.2.2.1 z9, gd_isSet hT.2.2.2.1 z9, Option.bind_some, Option.bind_some, cmp_b01, (gd_ahead hR1 a2).1, (gd_ahead hR1 a2).2, Option.bind_some, Option.bind_some, cmp_b01n]
  cases hs : inS a1 z with
  | false => exact ⟨_, _, hX, m1, rfl, rfl, gt, hW1⟩
  | true =>
    rw [Bool.not_true, cond_false, cond_false]
    cases h0 : px_cmp .eq a1 0 with
    | true => exact ⟨_, _, hX, m1, rfl, rfl, gt, hW1⟩
    | false =>
      rw [cond_false, cond_false]
      cases ha : ahd nx dn a2 with
      | false => exact ⟨_, _, hX, m1, rfl, rfl, gt, hW1⟩
      | true =>
        obtain ⟨D, nD, hD, rfl⟩ := ahd_t ha
        have h3' : sz z a1 := inS_sz hs
        have n3 := bit_of h3' z9 h0
        have oN : oS (wF m1 69 15 (.int (Int32.ofInt 0))) := oS_wI (cs := [69]) (ci := 9) rfl List.mem_cons_self o1
        have fN : fz W15 V0 m1 (wF m1 69 15 (.int (Int32.ofInt 0))) := fz_wF rfl
        have gN : gI (wF m1 69 15 (.int (Int32.ofInt 0))) 69 15 = Int32.ofNat 0 := gI_wF (cs := [69]) (ci := 9) rfl List.mem_cons_self o1
        rw [cond_true, cond_true, show (Int32.ofInt 1).toNatClampNeg = 1 + 0 from rfl, show (Int32.ofInt 2).toNatClampNeg = 1 + 1 from rfl, show (Int32.ofInt 3).toNatClampNeg = 1 + 2 from rfl, ht3 0 (by omega), ht3 1 (by omega), ht3 2 (by omega), cmp_b01n, cmp_b01n, cmp_b01n, t8_t t8]
        have sN : SM m1 (wF m1 69 15 (.int (Int32.ofInt 0))) := SM_f fN rfl rfl rfl rfl rfl rfl
        obtain ⟨tt, x1, y1, q1, q2, q3, q4, q5, q6, q7, q8, q9, q10⟩ := fair_1 (rc := 14) (r := 0) (by decide) hG oN (TR_k (fz_rf (W := W0) (V := V0)) fN (by decide) (by decide) hT) (RR_m fN rfl rfl rfl (RR_of oX h3)) gN ((fz_gI fN rfl).trans h10) (CL_SM rfl rfl sN hC) n6 hn1 (sN.2.2.trans hn2) gt nD hD
        have g1 : fz WF V98 m1 y1 := fz_tr (wf_b fN) (wf_a q6)
        have e04 : gI x1 0 4 = Int32.ofNat t := (fz_gI q5 rfl).trans ht
        have en : px_cmp .ne (Int32.ofNat t) 0 = !decide (t = 0) := by
          rw [cmp_ne]
          by_cases e : t = 0
          · subst e; rfl
          · rw [decide_eq_false e, decide_eq_false (fun x : Int32.ofNat t = 0 => e (by
              have := congrArg Int32.toInt x
              rw [nm_ofNat_toInt t (by omega), show (0 : Int32).toInt = 0 from by decide] at this
              omega))]
        rw [q1, Option.bind_some, cmp_b01n]
        show ∃ (v w : Int32) (hX' hM' : px_H), (bif tt then bif px_cmp .ne (gI x1 0 4) 0 then _ else _ else _) = some (v, hX') ∧ _
        rw [e04, en]
        by_cases e : t = 0
        · rw [decide_eq_true e, Bool.not_true, cond_false, cond_false]
          have hw2 : RWq l x1 m1 := RWq_k q5 (fz_rf (W := W0) (V := V0)) rfl rfl rfl rfl hW1
          cases tt with
          | true => exact ⟨_, _, x1, m1, rfl, rfl, q8, hw2⟩
          | false => exact ⟨_, _, x1, m1, rfl, rfl, q8, hw2⟩
        · rw [decide_eq_false e, Bool.not_false, cond_true, cond_true]
          obtain ⟨N', hN'⟩ : ∃ k, fu = k + 6 := ⟨fu - 6, by have := fu_lt (m := 6) (by omega); omega⟩
          have hw1 : RWq l x1 y1 := RWq_k q5 g1 rfl rfl rfl rfl hW1
          have eM : fn_M_fair_L68 a1 (Int32.ofNat D) fu (Int32.ofInt (-1)) (Int64.ofNat 0) (Int32.ofInt 1) (Int32.ofInt 0) m1 = bif !tt then fn_M_fair_L68 a1 (Int32.ofNat D) (N' + 5) (Int32.ofInt (-1)) (Int64.ofNat 0) (b01 tt) (Int32.ofNat 1) y1 else (fn_M_unlike a1 y1).bind fun q68 => fn_M_fair_L68 a1 (Int32.ofNat D) (N' + 5) (Int32.ofInt 0) q68 (b01 tt) (Int32.ofNat 1) y1 := by
            rw [hN']
            show fb_M_fair_L68 a1 (Int32.ofNat D) (fn_M_fair_L68 a1 (Int32.ofNat D) (N' + 5)) (Int32.ofInt (-1)) (Int64.ofNat 0) (Int32.ofInt 1) (Int32.ofInt 0) m1 = _
            unfold fb_M_fair_L68
            rw [show px_cmp .ge (Int32.ofInt 0) (Int32.ofInt 4) = false from by decide, cond_false, show px_cmp .eq (Int32.ofInt 1) 0 = false from by decide, cond_false, show px_cmp .le (Int32.ofInt 0) 0 = true from by decide, cond_true, sb_i, q2, Option.bind_some, cmp_b01, show px_cmp .lt (Int32.ofInt (-1)) 0 = true from by decide]
            cases tt with
            | true => rfl
            | false => rfl
          rw [eM]
          cases tt with
          | false =>
            have f0 : fz W15 V0 y1 (wF y1 69 15 (.int (Int32.ofInt 0))) := fz_wF rfl
            refine ⟨(Int8.ofInt (-3)).toInt32, (Int8.ofInt (-3)).toInt32, x1, wF y1 69 15 (.int (Int32.ofInt 0)), rfl, ?_, q8, RWq_k (fz_rf (W := W0) (V := V0)) f0 rfl rfl rfl rfl hw1⟩
            exact mf_0 (N := N' + 4) y1
          | true =>
            obtain ⟨u, w, rr, hw, hA⟩ := q10 rfl
            have eX := hu_XV z9 (oS_of q3) hA hw h3' n3
            have eY := hu_MV (a := a1) z9 ((fz_gI g1 rfl).trans hT.2.2.2.1) hA
            show ∃ (v w : Int32) (hX' hM' : px_H), ((fn_Walk_howUnlike a1 x1).bind fun q16 => _) = some (v, hX') ∧ ((fn_M_unlike a1 y1).bind fun q68 => _) = some (w, hM') ∧ _
            rw [eX, eY, Option.bind_some, Option.bind_some]
            exact fair_L2 hG o1 hT hB1 hK ht ht3 h10 hC n6 hn1 hn2 nD hD h3' n3 hW1 3 0 fu (N' + 5) (Int32.ofInt 3) (Int32.ofInt 0) (huV z D rr a1) x1 y1 (by omega) (fu_lt (by omega)) (by omega) q3 q4 q5 g1 (SMtr sN q7) q9 q8 (by decide)
end tb_BG
end mg_2

section mg_3
/-! count, row -/
section tb_BH
variable {h hX hM hX' hM' : px_H} {z dn nx ln l t L : Nat} {ls : Nat → Int32}
theorem tb8_t {t : Nat} (h : t < 8) : (bif t.testBit 2 then (bif t.testBit 1 then (bif t.testBit 0 then Int32.ofInt 0 ||| ((Int32.ofInt 1) <<< ((Int32.ofNat (1 + 0) - Int32.ofInt 1) &&& 31)) else Int32.ofInt 0 ||| Int32.ofInt 0) ||| ((Int32.ofInt 1) <<< ((Int32.ofNat (1 + 1) - Int32.ofInt 1) &&& 31)) else (bif t.testBit 0 then Int32.ofInt 0 ||| ((Int32.ofInt 1) <<< ((Int32.ofNat (1 + 0) - Int32.ofInt 1) &&& 31)) else Int32.ofInt 0 ||| Int32.ofInt 0) ||| Int32.ofInt 0) ||| ((Int32.ofInt 1) <<< ((Int32.ofNat (1 + 2) - Int32.ofInt 1) &&& 31)) else (bif t.testBit 1 then (bif t.testBit 0 then Int32.ofInt 0 ||| ((Int32.ofInt 1) <<< ((Int32.ofNat (1 + 0) - Int32.ofInt 1) &&& 31)) else Int32.ofInt 0 ||| Int32.ofInt 0) ||| ((Int32.ofInt 1) <<< ((Int32.ofNat (1 + 1) - Int32.ofInt 1) &&& 31)) else (bif t.testBit 0 then Int32.ofInt 0 ||| ((Int32.ofInt 1) <<< ((Int32.ofNat (1 + 0) - Int32.ofInt 1) &&& 31)) else Int32.ofInt 0 ||| Int32.ofInt 0) ||| Int32.ofInt 0) ||| Int32.ofInt 0) = Int32.ofNat t := by
  match t, h with
  | 0, _ => decide
  | 1, _ => decide
  | 2, _ => decide
  | 3, _ => decide
  | 4, _ => decide
  | 5, _ => decide
  | 6, _ => decide
  | 7, _ => decide
  | t + 8, h => omega
theorem tb_4 (t8 : t < 8) (ht2 : ∀ i, i < 3 → aI hM 82 (1 + i) = b01 (t.testBit i)) : fn_M_toldBits hM = some (Int32.ofNat t) := by
  have st : ∀ (i N : Nat) (v : Int32), i < 3 → fn_M_toldBits_L4 hM (N + 1) v (Int32.ofNat (1 + i)) = fn_M_toldBits_L4 hM N (bif t.testBit i then v ||| ((Int32.ofInt 1) <<< ((Int32.ofNat (1 + i) - Int32.ofInt 1) &&& 31)) else v ||| Int32.ofInt 0) (Int32.ofNat (1 + i + 1)) := by
    intro i N v hi
    show fb_M_toldBits_L4 hM (fn_M_toldBits_L4 hM N) v (Int32.ofNat (1 + i)) = _
    unfold fb_M_toldBits_L4
    rw [show Int32.ofInt 4 = Int32.ofNat 4 from rfl, ge_f (show 1 + i < 4 by omega) (by omega), cond_false, nm_inR (1 + i) 4 (by omega) (by omega), cond_true, nm_ofNat_clamp (1 + i) (by omega), ht2 i hi, cmp_b01, inc1]
    cases t.testBit i <;> rfl
  obtain ⟨N, hN⟩ : ∃ k, fu = k + 4 := ⟨fu - 4, by have := fu_lt (m := 6) (by omega); omega⟩
  unfold fn_M_toldBits
  rw [hN]
  refine (show fn_M_toldBits_L4 hM (N + 4) (Int32.ofInt 0) (Int32.ofInt 1) = _ from st 0 (N + 3) (Int32.ofInt 0) (by omega)).trans ?_
  refine (st 1 (N + 2) _ (by omega)).trans ?_
  refine (st 2 (N + 1) _ (by omega)).trans ?_
  show fb_M_toldBits_L4 hM (fn_M_toldBits_L4 hM N) _ (Int32.ofNat 4) = _
  unfold fb_M_toldBits_L4
  rw [show px_cmp .ge (Int32.ofNat 4) (Int32.ofInt 4) = true from by decide, cond_true]
  exact congrArg some (tb8_t t8)
theorem sim_count (oM : oS hM) (hR : RLz z dn nx ln hX hM) (tx : TX hX hM) (t8 : t < 8) (ht : gI hX 0 4 = Int32.ofNat t) (ht2 : ∀ i, i < 3 → aI hM 82 (1 + i) = b01 (t.testBit i)) (hW : RWq l hX hM) (hl : 1 ≤ l) (li : LIq L ls hX hM) (a : Int32) : ∃ (v : Int32) (hM' : px_H), fn_X_count a hX = some v ∧ fn_M_count a hM = some (v, hM') := by
  obtain ⟨o1, f1⟩ := vl_thr oM
  have ee : ∀ c, aI (wF hM 69 0 (.int (Int32.ofInt 0))) c = aI hM c := fun _ => aI_wF
  obtain ⟨hT, h2, ⟨-, r1, r2, -⟩, hC, ⟨n6, hn1, hn2⟩, h8, ⟨h9, h10⟩, h11⟩ := hR
  obtain ⟨n, -, t1, t2, -⟩ := tx
  obtain ⟨s, -, w1, -⟩ := hW
  have w1 := w1 hl
  obtain ⟨-, l1, l2, -⟩ := li
  have p0 := (hT.2.2.2.2.2.2.2.1 0 (by omega)).1
  have p1 := (hT.2.2.2.2.2.2.2.1 1 (by omega)).1
  have e1 : gI (wF hM 69 0 (.int (Int32.ofInt 0))) 69 3 = Int32.ofNat z := (fz_gI f1 rfl).trans hT.2.2.2.1
  have e2 : gI (wF hM 69 0 (.int (Int32.ofInt 0))) 69 11 = Int32.ofNat dn := (fz_gI f1 rfl).trans hT.2.2.2.2.2.1
  have e3 : gI (wF hM 69 0 (.int (Int32.ofInt 0))) 69 31 = Int32.ofNat nx := (fz_gI f1 rfl).trans hn2
  have e4 : gI (wF hM 69 0 (.int (Int32.ofInt 0))) 69 22 = Int32.ofNat n := (fz_gI f1 rfl).trans t2
  have e5 : gI (wF hM 69 0 (.int (Int32.ofInt 0))) 69 1 = Int32.ofNat s := (fz_gI f1 rfl).trans w1.2
  have e6 : gI (wF hM 69 0 (.int (Int32.ofInt 0))) 69 49 = Int32.ofNat L := (fz_gI f1 rfl).trans l2
  have e7 := tb_4 (hM := wF hM 69 0 (.int (Int32.ofInt 0))) t8 (fun i hi => by rw [ee]; exact ht2 i hi)
  unfold fn_X_count fn_M_count
  rw [sb_i, show (Int32.ofInt 0).toNatClampNeg = 0 from rfl, show (Int32.ofInt 1).toNatClampNeg = 1 from rfl, ee, ee, p0, p1, r1, r2, t1, ht, hT.2.2.1, hT.2.2.2.2.1, hn1, w1.1, l1, e1, e2, e3, e4, e5, e6, e7, Option.bind_some]
  cases px_cmp .eq a (Int32.ofInt 0) with
  | true => exact ⟨_, _, rfl, rfl⟩
  | false =>
  cases px_cmp .eq a (Int32.ofInt 1) with
  | true => exact ⟨_, _, rfl, rfl⟩
  | false =>
  cases px_cmp .eq a (Int32.ofInt 2) with
  | true => exact ⟨_, _, rfl, rfl⟩
  | false =>
  cases px_cmp .eq a (Int32.ofInt 3) with
  | true => exact ⟨_, _, rfl, rfl⟩
  | false =>
  cases px_cmp .eq a (Int32.ofInt 4) with
  | true => exact ⟨_, _, rfl, rfl⟩
  | false =>
  cases px_cmp .eq a (Int32.ofInt 5) with
  | true => exact ⟨_, _, rfl, rfl⟩
  | false =>
  cases px_cmp .eq a (Int32.ofInt 6) with
  | true => exact ⟨_, _, rfl, rfl⟩
  | false =>
  cases px_cmp .eq a (Int32.ofInt 7) with
  | true => exact ⟨_, _, rfl, rfl⟩
  | false =>
  cases px_cmp .eq a (Int32.ofInt 8) with
  | true => exact ⟨_, _, rfl, rfl⟩
  | false =>
  cases px_cmp .eq a (Int32.ofInt 9) with
  | true => exact ⟨_, _, rfl, rfl⟩
  | false => exact ⟨_, _, rfl, rfl⟩
end tb_BH
end mg_3
