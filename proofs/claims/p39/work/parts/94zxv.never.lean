section mg_0
/-! questions: never, even - what is answered -/
theorem sAy_t {f : Nat → Bool} : ∀ m i, sAy f m i true = true
  | 0, _ => rfl
  | m + 1, i => sAy_t m (i + 1)
def sFl (z D : Nat) (y : TB × Int64 × Int64) (s : Int32) : Bool := sAy (fun i => !px_cmp .ne (nm_bc (sB z D (y.1.2.1 i))) s) y.1.1 0 false
theorem bif_pk {α β : Type} {c : Bool} {F : α → β} {A B : β} (h1 : ∃ x, A = F x) (h2 : ∃ x, B = F x) : ∃ x, (bif c then A else B) = F x := by
  cases c
  · exact h2
  · exact h1
section tb_W
variable {h hX hM hX0 hM0 : px_H} {z dn nx ln D b p A : Nat} {s a : Int32} {u : Int64} {w : Int32} {y : TB × Int64 × Int64}
theorem mf_X {s : Int32} (z9 : z ≤ 10) (o : oS hX) (hA : AQ z D u w y hX hM) : fn_Walk_mayFill s hX = some (b01 (sFl z D y s)) := by
  obtain ⟨⟨⟨a, bb, e, g, rf, c1, c2, cE⟩, m2, hk, -⟩, -⟩ := hA
  have n3 := cE.2.1
  have L : ∀ (m i N : Nat), i + m = y.1.1 → m < N → fn_Walk_mayFill_L2 s hX N (Int32.ofNat i) = some (b01 (sAy (fun i => !px_cmp .ne (nm_bc (sB z D (y.1.2.1 i))) s) m i false)) := by
    intro m
    induction m with
    | zero =>
      intro i N hi hN
      obtain ⟨N, rfl⟩ : ∃ k, N = k + 1 := ⟨N - 1, by omega⟩
      show fb_Walk_mayFill_L2 s hX (fn_Walk_mayFill_L2 s hX N) (Int32.ofNat i) = _
      unfold fb_Walk_mayFill_L2
      rw [rf.2.2, cE.1, show i = y.1.1 from by omega, ge_t, cond_true]
      rfl
    | succ m ih =>
      intro i N hi hN
      obtain ⟨N, rfl⟩ : ∃ k, N = k + 1 := ⟨N - 1, by omega⟩
      have hiE : i < y.1.1 := by omega
      show fb_Walk_mayFill_L2 s hX (fn_Walk_mayFill_L2 s hX N) (Int32.ofNat i) = some (b01 (sAy (fun i => !px_cmp .ne (nm_bc (sB z D (y.1.2.1 i))) s) m (i + 1) (false || !px_cmp .ne (nm_bc (sB z D (y.1.2.1 i))) s)))
      unfold fb_Walk_mayFill_L2
      rw [rf.2.2, cE.1, ge_f hiE (by omega), cond_false, si_at g.2.2.1 o (by omega), Option.bind_some, sit_eq z9 (cE.2.2.1 i hiE).1 (hk i hiE).2, inc1, Bool.false_or]
      cases px_cmp .ne (nm_bc (sB z D (y.1.2.1 i))) s with
      | true => exact ih (i + 1) N (by omega) (by omega)
      | false =>
        rw [cond_false, Bool.not_false, sAy_t]
        rfl
  unfold fn_Walk_mayFill
  exact L y.1.1 0 fu (by omega) (fu_lt (by omega))
/-- whether a way counts -/
def hit (z D : Nat) (y : TB × Int64 × Int64) (kin s : Int32) : Bool := !px_cmp .ne (sMay z D y &&& kin) 0 && sFl z D y s
theorem nv_M {a1 a2 a3 kin : Int32} {kc : Int32 → Int32 → Int32 → px_H → Option (Int32 × px_H)} (z9 : z ≤ 10) (d6 : D < 6) (zM : gI hM 69 3 = Int32.ofNat z) (hs : aI hM 80 D = s) (hk : kin = bg (fun p => !px_cmp .ne (aI hM 71 p) a3) z) (hA : AQ z D u w y hX hM) (v5 v6 v7 v8 : Int32) : ∀ (m i N : Nat) (t : Bool), i + m = y.1.1 → m < N → ∃ v5', fn_M_never_L88 a1 a2 a3 (Int32.ofNat D) kc N v5 v6 v7 v8 (b01 t) (Int32.ofNat i) hM = kc v5' (bif !px_cmp .ne (sMay z D y &&& kin) 0 && sAy (fun i => !px_cmp .ne (nm_bc (sB z D (y.1.2.1 i))) s) m i t then v6 + Int32.ofInt 1 else v6) (v7 + Int32.ofInt 1) hM := by
  intro m
  induction m with
  | zero =>
    intro i N t hi hN
    obtain ⟨N, rfl⟩ : ∃ k, N = k + 1 := ⟨N - 1, by omega⟩
    show ∃ v5', fb_M_never_L88 a1 a2 a3 (Int32.ofNat D) kc (fn_M_never_L88 a1 a2 a3 (Int32.ofNat D) kc N) v5 v6 v7 v8 (b01 t) (Int32.ofNat i) hM = kc v5' (bif !px_cmp .ne (sMay z D y &&& kin) 0 && t then v6 + Int32.ofInt 1 else v6) (v7 + Int32.ofInt 1) hM
    unfold fb_M_never_L88
    rw [show (Int32.ofInt 2).toNatClampNeg = 2 from rfl, hA.1.2.1.1, show i = y.1.1 from by omega, ge_t, cond_true, cmp_b01]
    cases t with
    | false =>
      rw [Bool.and_false]
      exact ⟨v5, rfl⟩
    | true =>
      rw [Bool.not_true, cond_false, aq_mayM hA, Option.bind_some, vl_housed zM z9 a3, Option.bind_some, ← hk, Bool.and_true]
      cases px_cmp .ne (sMay z D y &&& kin) 0 with
      | true => exact ⟨v5, rfl⟩
      | false =>
        rw [cond_false, Bool.not_false, cond_true]
        exact bif_pk (F := fun v => kc v (v6 + Int32.ofInt 1) (v7 + Int32.ofInt 1) hM) ⟨v8, rfl⟩ (bif_pk (F := fun v => kc v (v6 + Int32.ofInt 1) (v7 + Int32.ofInt 1) hM) ⟨v5, rfl⟩ ⟨v8, rfl⟩)
  | succ m ih =>
    intro i N t hi hN
    obtain ⟨N, rfl⟩ : ∃ k, N = k + 1 := ⟨N - 1, by omega⟩
    have n3 := hA.1.2.1.2.1
    have hiE : i < y.1.1 := by omega
    show ∃ v5', fb_M_never_L88 a1 a2 a3 (Int32.ofNat D) kc (fn_M_never_L88 a1 a2 a3 (Int32.ofNat D) kc N) v5 v6 v7 v8 (b01 t) (Int32.ofNat i) hM = kc v5' (bif !px_cmp .ne (sMay z D y &&& kin) 0 && sAy (fun i => !px_cmp .ne (nm_bc (sB z D (y.1.2.1 i))) s) m (i + 1) (t || !px_cmp .ne (nm_bc (sB z D (y.1.2.1 i))) s) then v6 + Int32.ofInt 1 else v6) (v7 + Int32.ofInt 1) hM
    unfold fb_M_never_L88
    rw [show (Int32.ofInt 2).toNatClampNeg = 2 from rfl, hA.1.2.1.1, ge_f hiE (by omega), cond_false, cmp_b01n, inc1]
    cases t with
    | true =>
      rw [cond_true, Bool.true_or]
      exact ih (i + 1) N true (by omega) (by omega)
    | false =>
      rw [cond_false, Bool.false_or, nm_inR i 3001 (by omega) (by omega), cond_true, nm_inR D 6 d6 (by omega), cond_true, nm_ofNat_clamp i (by omega), nm_ofNat_clamp D (by omega), hA.2 i hiE, hs]
      cases px_cmp .ne (nm_bc (sB z D (y.1.2.1 i))) s with
      | true => exact ih (i + 1) N false (by omega) (by omega)
      | false => exact ih (i + 1) N true (by omega) (by omega)
noncomputable def htF (z b : Nat) (hM0 : px_H) (D : Nat) (q a kin s : Int32) (x : Nat) : Nat := match rsM b hM0 (D + 1) (pkS q a x) with
  | none => 0
  | some y => bif hit z D y kin s then 1 else 0
section tb_W1
theorem neverX (oX0 : oS hX0) (oM0 : oS hM0) (rp : RPt z dn ln hX0 hM0) (b2 : b < 2) (hz : sz z (Int32.ofNat A)) (hD : D < dn) {kin : Int32} : ∀ (k N c : Nat) (v8 : Int32) (x : px_H), k ≤ 64 → k < N → oS x → fz WSU VBY hX0 x → GT x → ∃ hX', fn_X_never_L67 (Int32.ofNat b) (Int32.ofNat A) (Int32.ofNat D) kin s N (Int32.ofNat c) v8 (wy k) x = some (ansF (suN (fun w => okF b hM0 D (aI hM0 76 b) (Int32.ofNat A) (sp (ib (Int32.ofNat A)) 10 0 w)) k) (Int32.ofNat (c + suN (fun w => htF z b hM0 D (aI hM0 76 b) (Int32.ofNat A) kin s (sp (ib (Int32.ofNat A)) 10 0 w)) k)), hX') ∧ GT hX' := by
  intro k
  induction k with
  | zero =>
    intro N c v8 x _ hN ox f gt
    obtain ⟨N, rfl⟩ : ∃ k, N = k + 1 := ⟨N - 1, by omega⟩
    obtain ⟨x4, r1, r2, r3, r4, r5, r6⟩ := row_clear ox oM0
    obtain ⟨x5, y5, t1, t2, t3, t4, t5, t6, t7⟩ := row_tell r2 r4 r6 (by omega) v8.toInt64
    show ∃ hX', fb_X_never_L67 (Int32.ofNat b) (Int32.ofNat A) (Int32.ofNat D) kin s (fn_X_never_L67 (Int32.ofNat b) (Int32.ofNat A) (Int32.ofNat D) kin s N) (Int32.ofNat c) v8 (Int32.ofInt (-1)) x = _ ∧ _
    unfold fb_X_never_L67
    rw [show px_cmp .lt (Int32.ofInt (-1)) 0 = true from by decide, cond_true, r1, Option.bind_some]
    refine bif_ex ⟨x4, ans_0, GT_w48 r3 gt⟩ ⟨x5, ?_, GT_w48 (fz_tr r3 t5) gt⟩
    rw [t1]
    exact ans_0
  | succ k ih =>
    intro N c v8 x hk hN ox f gt
    obtain ⟨N, rfl⟩ : ∃ k, N = k + 1 := ⟨N - 1, by omega⟩
    have z9 := rp.1.1
    have hs' : sz z (pkS (aI hM0 76 b) (Int32.ofNat A) (sp (ib (Int32.ofNat A)) 10 0 k)) := spk_sz (z76 oX0 oM0 rp b2 hz hD) hz
    obtain ⟨x3, q1, q2, q3, q4, q5⟩ := itX oX0 oM0 rp b2 hs' hD ox f gt
    show ∃ hX', fb_X_never_L67 (Int32.ofNat b) (Int32.ofNat A) (Int32.ofNat D) kin s (fn_X_never_L67 (Int32.ofNat b) (Int32.ofNat A) (Int32.ofNat D) kin s N) (Int32.ofNat c) v8 (Int32.ofNat k) x = _ ∧ _
    unfold fb_X_never_L67
    rw [(wy_s (show k ≤ 1024 by omega)).2.2, cond_false, pk_X b2 (show k < 64 by omega), Option.bind_some, e76 oX0 oM0 rp b2 hz hD f, q1, Option.bind_some, (wy_s (show k ≤ 1024 by omega)).1, cmp_b01n]
    show ∃ hX', _ = some (ansF (suN (fun w => okF b hM0 D (aI hM0 76 b) (Int32.ofNat A) (sp (ib (Int32.ofNat A)) 10 0 w)) k + okF b hM0 D (aI hM0 76 b) (Int32.ofNat A) (sp (ib (Int32.ofNat A)) 10 0 k)) (Int32.ofNat (c + (suN (fun w => htF z b hM0 D (aI hM0 76 b) (Int32.ofNat A) kin s (sp (ib (Int32.ofNat A)) 10 0 w)) k + htF z b hM0 D (aI hM0 76 b) (Int32.ofNat A) kin s (sp (ib (Int32.ofNat A)) 10 0 k)))), hX') ∧ _
    unfold okF htF
    cases hr : rsM b hM0 (D + 1) (pkS (aI hM0 76 b) (Int32.ofNat A) (sp (ib (Int32.ofNat A)) 10 0 k)) with
    | none =>
      exact ⟨x3, ans_X, q4⟩
    | some y =>
      obtain ⟨u, w, y7, hA'⟩ := q5 y hr
      have key : ∀ c v8, ∃ hX', fn_X_never_L67 (Int32.ofNat b) (Int32.ofNat A) (Int32.ofNat D) kin s N (Int32.ofNat c) v8 (wy k) x3 = some (ansF (suN (fun w => okF b hM0 D (aI hM0 76 b) (Int32.ofNat A) (sp (ib (Int32.ofNat A)) 10 0 w)) k + 0) (Int32.ofNat (c + suN (fun w => htF z b hM0 D (aI hM0 76 b) (Int32.ofNat A) kin s (sp (ib (Int32.ofNat A)) 10 0 w)) k)), hX') ∧ GT hX' := fun c v8 => ih N c v8 x3 (by omega) (by omega) q2 q3 q4
      have key1 := key (c + 1)
      rw [show ∀ t, c + 1 + t = c + (t + 1) from fun t => by omega] at key1
      show ∃ hX', (fn_Walk_whoMaySit x3).bind _ = some (ansF (_ + 0) (Int32.ofNat (c + (_ + bif hit z D y kin s then 1 else 0))), hX') ∧ _
      rw [aq_mayX z9 q2 hA', Option.bind_some, mf_X z9 q2 hA', inc1]
      unfold hit
      cases px_cmp .ne (sMay z D y &&& kin) 0 with
      | true => exact key c v8
      | false =>
        rw [cond_false, Option.bind_some, cmp_b01, Bool.not_false, Bool.true_and]
        cases sFl z D y s with
        | false => exact key c v8
        | true =>
          rw [Bool.not_true, cond_false, cond_true]
          exact bif_ex (key1 _) (bif_ex (key1 _) (key1 _))
theorem neverM (oX0 : oS hX0) (oM0 : oS hM0) (rp : RPt z dn ln hX0 hM0) (b2 : b < 2) (hz : sz z (Int32.ofNat A)) (hD : D < dn) {a3 kin : Int32} (gt0 : GT hX0) (hA : A < 1024) (d6 : D < 6) (hs : aI hM0 80 D = s) (hk : kin = bg (fun p => !px_cmp .ne (aI hM0 71 p) a3) z) : ∀ (k v N c : Nat) (v5 : Int32) (y : px_H), v + k = A + 1 → k < N → oS y → fz WTR V98 hM0 y → SM hM0 y → ∃ hM', fn_M_never_L39 (Int32.ofNat b) (Int32.ofNat A) a3 (Int32.ofNat D) N v5 (Int32.ofNat c) (Int32.ofNat v) y = some (ansF (tf (fun v => bif sub_ (ib (Int32.ofNat A)) 10 0 v then okF b hM0 D (aI hM0 76 b) (Int32.ofNat A) v else 0) k v) (Int32.ofNat (c + tf (fun v => bif sub_ (ib (Int32.ofNat A)) 10 0 v then htF z b hM0 D (aI hM0 76 b) (Int32.ofNat A) kin s v else 0) k v)), hM') ∧ True := by
  intro k
  induction k with
  | zero =>
    intro v N c v5 y hv hN oy f sm'
    obtain ⟨N, rfl⟩ : ∃ k, N = k + 1 := ⟨N - 1, by omega⟩
    obtain ⟨x4, r1, r2, r3, r4, r5, r6⟩ := row_clear oX0 oy
    obtain ⟨x5, y5, t1, t2, t3, t4, t5, t6, t7⟩ := row_tell r2 r4 r6 (by omega) v5.toInt64
    show ∃ hM', fb_M_never_L39 (Int32.ofNat b) (Int32.ofNat A) a3 (Int32.ofNat D) (fn_M_never_L39 (Int32.ofNat b) (Int32.ofNat A) a3 (Int32.ofNat D) N) v5 (Int32.ofNat c) (Int32.ofNat v) y = _ ∧ _
    unfold fb_M_never_L39
    rw [show v = A + 1 from by omega, gt_t (by omega), cond_true, sb_i]
    refine bif_ex ⟨_, ans_0, trivial⟩ ⟨y5, ?_, trivial⟩
    rw [t2]
    exact ans_0
  | succ k ih =>
    intro v N c v5 y hv hN oy f sm'
    obtain ⟨N, rfl⟩ : ∃ k, N = k + 1 := ⟨N - 1, by omega⟩
    have z9 := rp.1.1
    show ∃ hM', fb_M_never_L39 (Int32.ofNat b) (Int32.ofNat A) a3 (Int32.ofNat D) (fn_M_never_L39 (Int32.ofNat b) (Int32.ofNat A) a3 (Int32.ofNat D) N) v5 (Int32.ofNat c) (Int32.ofNat v) y = _ ∧ _
    unfold fb_M_never_L39
    rw [gt_f (show v ≤ A by omega) (by omega), cond_false, sub_M (show v < 1024 by omega)]
    show ∃ hM', _ = some (ansF ((bif sub_ (ib (Int32.ofNat A)) 10 0 v then okF b hM0 D (aI hM0 76 b) (Int32.ofNat A) v else 0) + tf (fun v => bif sub_ (ib (Int32.ofNat A)) 10 0 v then okF b hM0 D (aI hM0 76 b) (Int32.ofNat A) v else 0) k (v + 1)) (Int32.ofNat (c + ((bif sub_ (ib (Int32.ofNat A)) 10 0 v then htF z b hM0 D (aI hM0 76 b) (Int32.ofNat A) kin s v else 0) + tf (fun v => bif sub_ (ib (Int32.ofNat A)) 10 0 v then htF z b hM0 D (aI hM0 76 b) (Int32.ofNat A) kin s v else 0) k (v + 1)))), hM') ∧ _
    cases hsub : sub_ (ib (Int32.ofNat A)) 10 0 v with
    | false =>
      rw [cond_false, cond_false, cond_false, Nat.zero_add, Nat.zero_add, inc1]
      exact ih (v + 1) N c v5 y (by omega) (by omega) oy f sm'
    | true =>
      have hs' : sz z (pkS (aI hM0 76 b) (Int32.ofNat A) v) := pk_sz rp.1.1 (z76 oX0 oM0 rp b2 hz hD) hz (by omega) hsub
      obtain ⟨y7, q1, q2, q3, q4, q5⟩ := itM oX0 oM0 gt0 rp b2 hs' hD oy f sm'
      rw [cond_true, cond_true, cond_true, pk_M b2 v, Option.bind_some, (f.2 76 rfl).1, q1, Option.bind_some, cmp_b01n]
      unfold okF htF
      cases hr : rsM b hM0 (D + 1) (pkS (aI hM0 76 b) (Int32.ofNat A) v) with
      | none =>
        exact ⟨y7, ans_M, trivial⟩
      | some r =>
        obtain ⟨u, w, x3, hA'⟩ := q5 r hr
        have zM : gI y7 69 3 = Int32.ofNat z := (fz_gI q3 rfl).trans rp.1.2.2.2.1
        obtain ⟨v5', e5⟩ := nv_M (a1 := Int32.ofNat b) (a2 := Int32.ofNat A) (a3 := a3) (kin := kin) (s := s) (kc := fn_M_never_L39 (Int32.ofNat b) (Int32.ofNat A) a3 (Int32.ofNat D) N) z9 d6 zM (by rw [(q3.2 80 rfl).1]; exact hs) (by rw [(q3.2 71 rfl).1]; exact hk) hA' v5 (Int32.ofNat c) (Int32.ofNat v) (pkS (aI hM0 76 b) (Int32.ofNat A) v) r.1.1 0 fu false (by omega) (fu_lt (by have := hA'.1.2.1.2.1; omega))
        have key : ∀ c, ∃ hM', fn_M_never_L39 (Int32.ofNat b) (Int32.ofNat A) a3 (Int32.ofNat D) N v5' (Int32.ofNat c) (Int32.ofNat (v + 1)) y7 = some (ansF (0 + tf (fun v => bif sub_ (ib (Int32.ofNat A)) 10 0 v then okF b hM0 D (aI hM0 76 b) (Int32.ofNat A) v else 0) k (v + 1)) (Int32.ofNat (c + tf (fun v => bif sub_ (ib (Int32.ofNat A)) 10 0 v then htF z b hM0 D (aI hM0 76 b) (Int32.ofNat A) kin s v else 0) k (v + 1))), hM') ∧ True := fun c => by
          rw [Nat.zero_add]
          exact ih (v + 1) N c v5' y7 (by omega) (by omega) q2 q3 q4
        have key1 := key (c + 1)
        rw [show ∀ t, c + 1 + t = c + (1 + t) from fun t => by omega] at key1
        show ∃ hM', fn_M_never_L88 (Int32.ofNat b) (Int32.ofNat A) a3 (Int32.ofNat D) (fn_M_never_L39 (Int32.ofNat b) (Int32.ofNat A) a3 (Int32.ofNat D) N) fu v5 (Int32.ofNat c) (Int32.ofNat v) (pkS (aI hM0 76 b) (Int32.ofNat A) v) (b01 false) (Int32.ofNat 0) y7 = some (ansF (0 + _) (Int32.ofNat (c + ((bif hit z D r kin s then 1 else 0) + _))), hM') ∧ _
        rw [e5, inc1, inc1]
        show ∃ hM', fn_M_never_L39 (Int32.ofNat b) (Int32.ofNat A) a3 (Int32.ofNat D) N v5' (bif hit z D r kin s then Int32.ofNat (c + 1) else Int32.ofNat c) (Int32.ofNat (v + 1)) y7 = _ ∧ _
        cases hit z D r kin s with
        | true => exact key1
        | false =>
          have key0 := key c
          rw [show ∀ t, c + t = c + (0 + t) from fun t => by omega] at key0
          exact key0
end tb_W1
theorem sim_never (oX : oS hX) (oM : oS hM) (hR : RLz z dn nx ln hX hM) (gt : GT hX) (a1 a2 a3 a4 : Int32) : ∃ (v : Int32) (hX' hM' : px_H), fn_X_never a1 a2 a3 a4 hX = some (v, hX') ∧ fn_M_never a1 a2 a3 a4 hM = some (v, hM') ∧ GT hX' := by
  obtain ⟨hR1, o1, -⟩ := RLz_thr' (l := 0) hR oM
  unfold fn_X_never fn_M_never
  rw [sb_i]
  generalize wF hM 69 0 (.int (Int32.ofInt 0)) = m1 at hR1 o1 ⊢
  have hT := hR1.1
  have z9 := hT.1
  have d6 := hT.2.1
  have gN : px_cmp .ne (sx_in a3.toInt64 (Int64.ofNat 0) (Int64.ofInt 5)) 0 = inN a3 6 := by rw [cmp_ne, ← cmp_eq, (gd_house a3).2, Bool.not_not]
  have g := (gd_house a3).1
  rw [gd_canPack hT.2.2.1 z9, gd_isPacking hT.2.2.2.1 z9 hT.2.2.2.2.2.1 d6, gd_drw hT.2.2.2.2.1 d6, Option.bind_some, Option.bind_some, Option.bind_some, cmp_b01, cmp_b01, cmp_b01n, gN]
  cases hc : cP a1 a2 z with
  | false => exact ⟨_, hX, m1, rfl, rfl, gt⟩
  | true =>
    cases h1 : px_cmp .lt a3 0 with
    | true =>
      rw [h1, cond_true] at g
      have g' : inN a3 6 = false := by
        cases hh : inN a3 6 with
        | false => rfl
        | true => rw [hh] at g; cases g
      rw [g']
      cases inN a4 dn <;> exact ⟨_, hX, m1, rfl, rfl, gt⟩
    | false =>
      rw [h1, cond_false] at g
      rw [g]
      cases h6 : inN a3 6 with
      | false => cases inN a4 dn <;> exact ⟨_, hX, m1, rfl, rfl, gt⟩
      | true =>
        cases hd : inN a4 dn with
        | false => exact ⟨_, hX, m1, rfl, rfl, gt⟩
        | true =>
          obtain ⟨b, A, b2, hA, rfl, rfl, hz, n6⟩ := cP_t z9 hc
          obtain ⟨D, hD, rfl⟩ := inN_t hd
          have rp := rp_of oX hR1
          have D6 : D < 6 := by omega
          have h64 : 2 ^ nbM (ib (Int32.ofNat A)) 10 0 ≤ 64 := Nat.pow_le_pow_right (n := 2) (by decide) n6
          have e11 : aI hX 11 D = aI m1 80 D := (hT.2.2.2.2.2.2.2.2 D D6).2.2.1
          have hk : bg (fun p => !px_cmp .ne (aI hX 2 p) a3) z = bg (fun p => !px_cmp .ne (aI m1 71 p) a3) z := bg_cg z (fun i hi => by rw [(hT.2.2.2.2.2.2.1 i (by omega)).1])
          have eH := vl_ofHouse hT.2.2.1 z9 a3
          generalize bg (fun p => !px_cmp .ne (aI hX 2 p) a3) z = kin at hk eH
          obtain ⟨x9, e1, e2⟩ := neverX (kin := kin) (s := aI m1 80 D) oX o1 rp b2 hz hD _ fu 0 (Int32.ofInt (-1)) hX h64 (fu_lt (by omega)) oX fz_rf gt
          obtain ⟨y9, e3, -⟩ := neverM (a3 := a3) (kin := kin) (s := aI m1 80 D) oX o1 rp b2 hz hD gt hA D6 rfl hk (A + 1) 0 fu 0 (Int32.ofInt (-1)) m1 (by omega) (fu_lt (by omega)) o1 fz_rf SM_rf
          rw [two_su hA (okF b m1 D (aI m1 76 b) (Int32.ofNat A)), two_su hA (htF z b m1 D (aI m1 76 b) (Int32.ofNat A) kin (aI m1 80 D))] at e1
          refine ⟨_, x9, y9, ?_, e3, e2⟩
          show (fn_Town_ofHouse a3 hX).bind _ = _
          rw [eH, Option.bind_some, nm_inR D 6 D6 (by omega), cond_true, fw_ok (sz_sm z9 hz), Option.bind_some, nm_ofNat_clamp D (by omega), e11]
          exact e1
/-! even -/
theorem bif_es {α : Type} {c : Bool} {A B : Option α} (h1 : ∃ v, A = some v) (h2 : ∃ v, B = some v) : ∃ v, (bif c then A else B) = some v := by
  cases c
  · exact h2
  · exact h1
theorem hu_X (z9 : z ≤ 10) (o : oS hX) (hA : AQ z D u w y hX hM) (a : Int32) : ∃ v, fn_Walk_howUnlike a hX = some v := by
  have L : ∀ (m i N : Nat) (v2 v4 : Int64), i + m = 10 → m < N → ∃ v, fn_Walk_howUnlike_L12 a hX N v2 v4 (Int32.ofNat i) = some v := by
    intro m
    induction m with
    | zero =>
      intro i N v2 v4 hi hN
      obtain ⟨N, rfl⟩ : ∃ k, N = k + 1 := ⟨N - 1, by omega⟩
      show ∃ v, fb_Walk_howUnlike_L12 a hX (fn_Walk_howUnlike_L12 a hX N) v2 v4 (Int32.ofNat i) = some v
      unfold fb_Walk_howUnlike_L12
      rw [show i = 10 from by omega, show px_cmp .ge (Int32.ofNat 10) (Int8.ofInt 10).toInt32 = true from by decide, cond_true]
      exact ⟨_, rfl⟩
    | succ m ih =>
      intro i N v2 v4 hi hN
      obtain ⟨N, rfl⟩ : ∃ k, N = k + 1 := ⟨N - 1, by omega⟩
      show ∃ v, fb_Walk_howUnlike_L12 a hX (fn_Walk_howUnlike_L12 a hX N) v2 v4 (Int32.ofNat i) = some v
      unfold fb_Walk_howUnlike_L12
      rw [show (Int8.ofInt 10).toInt32 = Int32.ofNat 10 from by decide, ge_f (show i < 10 by omega) (by omega), cond_false, aq_anyX z9 o hA, Option.bind_some, inc1]
      have key : ∀ v2 v4, ∃ v, fn_Walk_howUnlike_L12 a hX N v2 v4 (Int32.ofNat (i + 1)) = some v := fun v2 v4 => ih (i + 1) N v2 v4 (by omega) (by omega)
      repeat' (first | exact key _ _ | (refine bif_es ?_ ?_))
  unfold fn_Walk_howUnlike
  exact L 10 0 fu _ _ (by omega) (fu_lt (by omega))
theorem hu_M (z9 : z ≤ 10) (zM : gI hM 69 3 = Int32.ofNat z) (hA : AQ z D u w y hX hM) (a : Int32) : ∃ v, fn_M_unlike a hM = some v := by
  have L : ∀ (m i N : Nat) (v2 v4 : Int64), i + m = z → m < N → ∃ v, fn_M_unlike_L10 a hM N v2 v4 (Int32.ofNat i) = some v := by
    intro m
    induction m with
    | zero =>
      intro i N v2 v4 hi hN
      obtain ⟨N, rfl⟩ : ∃ k, N = k + 1 := ⟨N - 1, by omega⟩
      show ∃ v, fb_M_unlike_L10 a hM (fn_M_unlike_L10 a hM N) v2 v4 (Int32.ofNat i) = some v
      unfold fb_M_unlike_L10
      rw [zM, show i = z from by omega, ge_t, cond_true]
      exact ⟨_, rfl⟩
    | succ m ih =>
      intro i N v2 v4 hi hN
      obtain ⟨N, rfl⟩ : ∃ k, N = k + 1 := ⟨N - 1, by omega⟩
      show ∃ v, fb_M_unlike_L10 a hM (fn_M_unlike_L10 a hM N) v2 v4 (Int32.ofNat i) = some v
      unfold fb_M_unlike_L10
      rw [zM, ge_f (show i < z by omega) (by omega), cond_false, aq_anyM hA, Option.bind_some, inc1]
      have key : ∀ v2 v4, ∃ v, fn_M_unlike_L10 a hM N v2 v4 (Int32.ofNat (i + 1)) = some v := fun v2 v4 => ih (i + 1) N v2 v4 (by omega) (by omega)
      repeat' (first | exact key _ _ | (refine bif_es ?_ ?_))
  unfold fn_M_unlike
  exact L z 0 fu _ _ (by omega) (fu_lt (by omega))
section tb_W2
theorem evenX (oX0 : oS hX0) (oM0 : oS hM0) (rp : RPt z dn ln hX0 hM0) (b2 : b < 2) (hz : sz z (Int32.ofNat A)) (hD : D < dn) {a3 : Int32} : ∀ (k N : Nat) (v6 : Int32) (v7 : Int64) (x : px_H), k ≤ 64 → k < N → oS x → fz WSU VBY hX0 x → GT x → ∃ hX', fn_X_even_L50 (Int32.ofNat b) (Int32.ofNat A) a3 (Int32.ofNat D) N v6 v7 (wy k) x = some (ansF (suN (fun w => okF b hM0 D (aI hM0 76 b) (Int32.ofNat A) (sp (ib (Int32.ofNat A)) 10 0 w)) k) (Int32.ofInt 0), hX') ∧ GT hX' := by
  intro k
  induction k with
  | zero =>
    intro N v6 v7 x _ hN ox f gt
    obtain ⟨N, rfl⟩ : ∃ k, N = k + 1 := ⟨N - 1, by omega⟩
    obtain ⟨x4, x5, t1, t2, t3⟩ := tell2X ox oM0 gt v6.toInt64 v7
    refine ⟨x5, ?_, t3⟩
    show fb_X_even_L50 (Int32.ofNat b) (Int32.ofNat A) a3 (Int32.ofNat D) (fn_X_even_L50 (Int32.ofNat b) (Int32.ofNat A) a3 (Int32.ofNat D) N) v6 v7 (Int32.ofInt (-1)) x = _
    unfold fb_X_even_L50
    rw [show px_cmp .lt (Int32.ofInt (-1)) 0 = true from by decide, cond_true, t1, Option.bind_some, t2, Option.bind_some]
    exact ans_0
  | succ k ih =>
    intro N v6 v7 x hk hN ox f gt
    obtain ⟨N, rfl⟩ : ∃ k, N = k + 1 := ⟨N - 1, by omega⟩
    have hs : sz z (pkS (aI hM0 76 b) (Int32.ofNat A) (sp (ib (Int32.ofNat A)) 10 0 k)) := spk_sz (z76 oX0 oM0 rp b2 hz hD) hz
    obtain ⟨x3, q1, q2, q3, q4, q5⟩ := itX oX0 oM0 rp b2 hs hD ox f gt
    show ∃ hX', fb_X_even_L50 (Int32.ofNat b) (Int32.ofNat A) a3 (Int32.ofNat D) (fn_X_even_L50 (Int32.ofNat b) (Int32.ofNat A) a3 (Int32.ofNat D) N) v6 v7 (Int32.ofNat k) x = _ ∧ _
    unfold fb_X_even_L50
    rw [(wy_s (show k ≤ 1024 by omega)).2.2, cond_false, pk_X b2 (show k < 64 by omega), Option.bind_some, e76 oX0 oM0 rp b2 hz hD f, q1, Option.bind_some, (wy_s (show k ≤ 1024 by omega)).1, cmp_b01n]
    show ∃ hX', _ = some (ansF (suN (fun w => okF b hM0 D (aI hM0 76 b) (Int32.ofNat A) (sp (ib (Int32.ofNat A)) 10 0 w)) k + okF b hM0 D (aI hM0 76 b) (Int32.ofNat A) (sp (ib (Int32.ofNat A)) 10 0 k)) (Int32.ofInt 0), hX') ∧ _
    unfold okF
    cases hr : rsM b hM0 (D + 1) (pkS (aI hM0 76 b) (Int32.ofNat A) (sp (ib (Int32.ofNat A)) 10 0 k)) with
    | none =>
      exact ⟨x3, ans_X, q4⟩
    | some y =>
      obtain ⟨u, w, y7, hA'⟩ := q5 y hr
      have key : ∀ v6 v7, ∃ hX', fn_X_even_L50 (Int32.ofNat b) (Int32.ofNat A) a3 (Int32.ofNat D) N v6 v7 (wy k) x3 = some (ansF (suN (fun w => okF b hM0 D (aI hM0 76 b) (Int32.ofNat A) (sp (ib (Int32.ofNat A)) 10 0 w)) k + 0) (Int32.ofInt 0), hX') ∧ GT hX' := fun v6 v7 => ih N v6 v7 x3 (by omega) (by omega) q2 q3 q4
      obtain ⟨vv, hv⟩ := hu_X rp.1.1 q2 hA' a3
      show ∃ hX', (fn_Walk_howUnlike a3 x3).bind _ = _ ∧ _
      rw [hv, Option.bind_some]
      repeat' (first | exact key _ _ | (refine bif_ex ?_ ?_))
theorem evenM (oX0 : oS hX0) (oM0 : oS hM0) (rp : RPt z dn ln hX0 hM0) (b2 : b < 2) (hz : sz z (Int32.ofNat A)) (hD : D < dn) {a3 : Int32} (gt0 : GT hX0) (hA : A < 1024) : ∀ (k v N : Nat) (v6 : Int32) (v7 : Int64) (y : px_H), v + k = A + 1 → k < N → oS y → fz WTR V98 hM0 y → SM hM0 y → ∃ hM', fn_M_even_L39 (Int32.ofNat b) (Int32.ofNat A) a3 (Int32.ofNat D) N v6 v7 (Int32.ofNat v) y = some (ansF (tf (fun v => bif sub_ (ib (Int32.ofNat A)) 10 0 v then okF b hM0 D (aI hM0 76 b) (Int32.ofNat A) v else 0) k v) (Int32.ofInt 0), hM') ∧ True := by
  intro k
  induction k with
  | zero =>
    intro v N v6 v7 y hv hN oy f sm'
    obtain ⟨N, rfl⟩ : ∃ k, N = k + 1 := ⟨N - 1, by omega⟩
    obtain ⟨y4, y5, t1, t2⟩ := tell2M oX0 oy v6.toInt64 v7
    refine ⟨y5, ?_, trivial⟩
    show fb_M_even_L39 (Int32.ofNat b) (Int32.ofNat A) a3 (Int32.ofNat D) (fn_M_even_L39 (Int32.ofNat b) (Int32.ofNat A) a3 (Int32.ofNat D) N) v6 v7 (Int32.ofNat v) y = _
    unfold fb_M_even_L39
    rw [show v = A + 1 from by omega, gt_t (by omega), cond_true, sb_i, t1, Option.bind_some, t2, Option.bind_some]
    exact ans_0
  | succ k ih =>
    intro v N v6 v7 y hv hN oy f sm'
    obtain ⟨N, rfl⟩ : ∃ k, N = k + 1 := ⟨N - 1, by omega⟩
    show ∃ hM', fb_M_even_L39 (Int32.ofNat b) (Int32.ofNat A) a3 (Int32.ofNat D) (fn_M_even_L39 (Int32.ofNat b) (Int32.ofNat A) a3 (Int32.ofNat D) N) v6 v7 (Int32.ofNat v) y = _ ∧ _
    unfold fb_M_even_L39
    rw [gt_f (show v ≤ A by omega) (by omega), cond_false, sub_M (show v < 1024 by omega), inc1]
    show ∃ hM', _ = some (ansF ((bif sub_ (ib (Int32.ofNat A)) 10 0 v then okF b hM0 D (aI hM0 76 b) (Int32.ofNat A) v else 0) + tf (fun v => bif sub_ (ib (Int32.ofNat A)) 10 0 v then okF b hM0 D (aI hM0 76 b) (Int32.ofNat A) v else 0) k (v + 1)) (Int32.ofInt 0), hM') ∧ _
    cases hsub : sub_ (ib (Int32.ofNat A)) 10 0 v with
    | false =>
      rw [cond_false, cond_false, Nat.zero_add]
      exact ih (v + 1) N v6 v7 y (by omega) (by omega) oy f sm'
    | true =>
      have hs : sz z (pkS (aI hM0 76 b) (Int32.ofNat A) v) := pk_sz rp.1.1 (z76 oX0 oM0 rp b2 hz hD) hz (by omega) hsub
      obtain ⟨y7, q1, q2, q3, q4, q5⟩ := itM oX0 oM0 gt0 rp b2 hs hD oy f sm'
      rw [cond_true, cond_true, pk_M b2 v, Option.bind_some, (f.2 76 rfl).1, q1, Option.bind_some, cmp_b01n]
      unfold okF
      cases hr : rsM b hM0 (D + 1) (pkS (aI hM0 76 b) (Int32.ofNat A) v) with
      | none =>
        exact ⟨y7, ans_M, trivial⟩
      | some r =>
        obtain ⟨u, w, x3, hA'⟩ := q5 r hr
        have key : ∀ v6 v7, ∃ hM', fn_M_even_L39 (Int32.ofNat b) (Int32.ofNat A) a3 (Int32.ofNat D) N v6 v7 (Int32.ofNat (v + 1)) y7 = some (ansF (0 + tf (fun v => bif sub_ (ib (Int32.ofNat A)) 10 0 v then okF b hM0 D (aI hM0 76 b) (Int32.ofNat A) v else 0) k (v + 1)) (Int32.ofInt 0), hM') ∧ True := fun v6 v7 => by
          rw [Nat.zero_add]
          exact ih (v + 1) N v6 v7 y7 (by omega) (by omega) q2 q3 q4
        obtain ⟨vv, hv⟩ := hu_M rp.1.1 ((fz_gI q3 rfl).trans rp.1.2.2.2.1) hA' a3
        show ∃ hM', (fn_M_unlike a3 y7).bind _ = _ ∧ _
        rw [hv, Option.bind_some]
        repeat' (first | exact key _ _ | (refine bif_ex ?_ ?_))
end tb_W2
theorem sim_even (oX : oS hX) (oM : oS hM) (hR : RLz z dn nx ln hX hM) (gt : GT hX) (a1 a2 a3 a4 : Int32) : ∃ (v : Int32) (hX' hM' : px_H), fn_X_even a1 a2 a3 a4 hX = some (v, hX') ∧ fn_M_even a1 a2 a3 a4 hM = some (v, hM') ∧ GT hX' := by
  obtain ⟨hR1, o1, -⟩ := RLz_thr' (l := 0) hR oM
  unfold fn_X_even fn_M_even
  rw [sb_i]
  generalize wF hM 69 0 (.int (Int32.ofInt 0)) = m1 at hR1 o1 ⊢
  have hT := hR1.1
  have z9 := hT.1
  have d6 := hT.2.1
  rw [gd_canPack hT.2.2.1 z9, gd_isPacking hT.2.2.2.1 z9 hT.2.2.2.2.2.1 d6, gd_drw hT.2.2.2.2.1 d6, gd_hasAll hT.2.2.1 z9, gd_isSet hT.2.2.2.1 z9, Option.bind_some, Option.bind_some, Option.bind_some, Option.bind_some, Option.bind_some, cmp_b01, cmp_b01, cmp_b01, cmp_b01n, cmp_ne a3 0, ← cmp_eq a3 0]
  cases hc : cP a1 a2 z with
  | false => exact ⟨_, hX, m1, rfl, rfl, gt⟩
  | true =>
    cases hs : inS a3 z with
    | false => cases inN a4 dn <;> exact ⟨_, hX, m1, rfl, rfl, gt⟩
    | true =>
      cases h0 : px_cmp .eq a3 0 with
      | true => cases inN a4 dn <;> exact ⟨_, hX, m1, rfl, rfl, gt⟩
      | false =>
        cases hd : inN a4 dn with
        | false => exact ⟨_, hX, m1, rfl, rfl, gt⟩
        | true =>
          obtain ⟨b, A, b2, hA, rfl, rfl, hz, n6⟩ := cP_t z9 hc
          obtain ⟨D, hD, rfl⟩ := inN_t hd
          have rp := rp_of oX hR1
          have h64 : 2 ^ nbM (ib (Int32.ofNat A)) 10 0 ≤ 64 := Nat.pow_le_pow_right (n := 2) (by decide) n6
          obtain ⟨x9, e1, e2⟩ := evenX (a3 := a3) oX o1 rp b2 hz hD _ fu (Int32.ofInt (-1)) (Int64.ofNat 0) hX h64 (fu_lt (by omega)) oX fz_rf gt
          obtain ⟨y9, e3, -⟩ := evenM (a3 := a3) oX o1 rp b2 hz hD gt hA (A + 1) 0 fu (Int32.ofInt (-1)) (Int64.ofNat 0) m1 (by omega) (fu_lt (by omega)) o1 fz_rf SM_rf
          rw [two_su hA (okF b m1 D (aI m1 76 b) (Int32.ofNat A))] at e1
          refine ⟨_, x9, y9, ?_, e3, e2⟩
          rw [Bool.not_true, cond_false, cond_false, cond_false, cond_true, fw_ok (sz_sm z9 hz), Option.bind_some]
          exact e1
end tb_W
end mg_0

section mg_1
/-! sums of chances -/
theorem i64_add {a b : Int64} (h0 : 0 ≤ a.toInt) (h1 : 0 ≤ b.toInt) (h : a.toInt + b.toInt ≤ 4000000000000000000) : (a + b).toInt = a.toInt + b.toInt := by
  rw [Int64.toInt_add]
  exact Int.bmod_eq_of_le_mul_two (by omega) (by omega)
def twN (C : Nat → Int64) : Nat → Int
  | 0 => 0
  | n + 1 => twN C n + (C n).toInt
theorem tw_cg {C C' : Nat → Int64} : ∀ n, (∀ j, j < n → C j = C' j) → twN C n = twN C' n
  | 0, _ => rfl
  | n + 1, h => by
    show twN C n + (C n).toInt = twN C' n + (C' n).toInt
    rw [tw_cg n (fun j hj => h j (by omega)), h n (by omega)]
theorem tw_nn {C : Nat → Int64} : ∀ n, (∀ j, j < n → 0 ≤ (C j).toInt) → 0 ≤ twN C n ∧ ∀ j, j < n → (C j).toInt ≤ twN C n
  | 0, _ => ⟨Int.le_refl _, fun j hj => by omega⟩
  | n + 1, h => by
    obtain ⟨h1, h2⟩ := tw_nn (C := C) n (fun j hj => h j (by omega))
    have hn := h n (by omega)
    show 0 ≤ twN C n + (C n).toInt ∧ ∀ j, j < n + 1 → (C j).toInt ≤ twN C n + (C n).toInt
    refine ⟨by omega, fun j hj => ?_⟩
    by_cases e : j = n
    · subst e; omega
    · have := h2 j (by omega); omega
theorem tw_mn {C : Nat → Int64} (i : Nat) : ∀ m, (∀ j, j < i + m → 0 ≤ (C j).toInt) → twN C i ≤ twN C (i + m)
  | 0, _ => Int.le_refl _
  | m + 1, h => by
    have := tw_mn (C := C) i m (fun j hj => h j (by omega))
    have h1 := h (i + m) (by omega)
    show twN C i ≤ twN C (i + m) + (C (i + m)).toInt
    omega
theorem tw_up {C : Nat → Int64} {i : Nat} {v : Int64} : ∀ n, i < n → twN (vp_updL C i v) n = twN C n - (C i).toInt + v.toInt
  | 0, h => by omega
  | n + 1, h => by
    show twN (vp_updL C i v) n + (vp_updL C i v n).toInt = twN C n + (C n).toInt - (C i).toInt + v.toInt
    by_cases e : i = n
    · subst e
      rw [vp_updL_eq, if_pos rfl, tw_cg (C' := C) i (fun j hj => by rw [vp_updL_eq, if_neg (by omega)])]
      omega
    · rw [vp_updL_eq, if_neg (by omega), tw_up n (by omega)]
      omega
def nn (T : TB) : Prop := ∀ i, i < T.1 → 0 ≤ (T.2.2 i).toInt
def tw (T : TB) : Int := twN T.2.2 T.1
theorem nn_0 {T : TB} (h : nn T) : 0 ≤ tw T := (tw_nn _ h).1
theorem nn_E : nn tE := fun i hi => by cases hi
theorem adT_w {T T' : TB} {k : KY} {c : Int64} (hn : nn T) (hc : 0 ≤ c.toInt) (hl : tw T + c.toInt ≤ 4000000000000000000) (h : adT T k c = some T') : nn T' ∧ tw T' = tw T + c.toInt := by
  unfold adT at h
  split at h
  · rename_i i hf
    cases h
    have hi := (fnd_some hf).1
    have h1 := hn i hi
    have h2 := (tw_nn T.1 hn).2 i hi
    have e : (T.2.2 i + c).toInt = (T.2.2 i).toInt + c.toInt := i64_add h1 hc (by unfold tw at hl; omega)
    refine ⟨fun j hj => ?_, ?_⟩
    · show 0 ≤ (vp_updL T.2.2 i (T.2.2 i + c) j).toInt
      rw [vp_updL_eq]
      by_cases x : j = i
      · rw [if_pos x, e]; omega
      · rw [if_neg x]; exact hn j hj
    · show twN (vp_updL T.2.2 i (T.2.2 i + c)) T.1 = twN T.2.2 T.1 + c.toInt
      rw [tw_up T.1 hi, e]
      omega
  · split at h
    · cases h
    · cases h
      refine ⟨fun j hj => ?_, ?_⟩
      · show 0 ≤ (vp_updL T.2.2 T.1 c j).toInt
        have hj : j < T.1 + 1 := hj
        rw [vp_updL_eq]
        by_cases x : j = T.1
        · rw [if_pos x]; exact hc
        · rw [if_neg x]; exact hn j (by omega)
      · show twN (vp_updL T.2.2 T.1 c) T.1 + (vp_updL T.2.2 T.1 c T.1).toInt = twN T.2.2 T.1 + c.toInt
        rw [vp_updL_eq, if_pos rfl, tw_cg (C' := T.2.2) T.1 (fun j hj => by rw [vp_updL_eq, if_neg (by omega)])]
theorem adI_w {T : TB} {k : KY} {c : Int64} (hn : nn T) (hc : 0 ≤ c.toInt) (hl : tw T + c.toInt ≤ 4000000000000000000) : nn (adI T k c) ∧ tw (adI T k c) ≤ tw T + c.toInt := by
  unfold adI
  cases h : adT T k c with
  | none => exact ⟨hn, by show tw T ≤ _; omega⟩
  | some T' =>
    obtain ⟨a, b⟩ := adT_w hn hc hl h
    exact ⟨a, by show tw T' ≤ _; omega⟩
section tb_X1
variable {h0 : px_H} {d b : Nat} {k : KY}
theorem sDr_w {sh : Int64} (hs : 0 ≤ sh.toInt) : ∀ (m p : Nat) (x y : TB × Int64), nn x.1 → tw x.1 + (nbM (ib (pv k.1 b)) m p : Int) * sh.toInt ≤ 4000000000000000000 → sDr h0 d b k sh m p x = some y → nn y.1 ∧ tw y.1 = tw x.1 + (nbM (ib (pv k.1 b)) m p : Int) * sh.toInt
  | 0, p, x, y, hn, hl, h => by
    cases h
    refine ⟨hn, ?_⟩
    show tw x.1 = tw x.1 + (0 : Int) * sh.toInt
    rw [Int.zero_mul, Int.add_zero]
  | m + 1, p, x, y, hn, hl, h => by
    have e : nbM (ib (pv k.1 b)) (m + 1) p = nbM (ib (pv k.1 b)) m (p + 1) + (bif ib (pv k.1 b) p then 1 else 0) := rfl
    rw [e] at hl ⊢
    have g0 : 0 ≤ (nbM (ib (pv k.1 b)) m (p + 1) : Int) * sh.toInt := Int.mul_nonneg (by omega) hs
    unfold sDr at h
    split at h
    · rename_i hb
      rw [hb, cond_true, Int.natCast_add, Int.add_mul, show ((1 : Nat) : Int) * sh.toInt = sh.toInt from by rw [show ((1 : Nat) : Int) = 1 from rfl, Int.one_mul]] at hl ⊢
      obtain ⟨B, hB, h⟩ := bd_e h
      obtain ⟨b1, b2⟩ := adT_w hn hs (by omega) hB
      obtain ⟨c1, c2⟩ := sDr_w hs m (p + 1) _ y b1 (by show tw B + _ ≤ _; omega) h
      refine ⟨c1, ?_⟩
      have c2 : tw y.1 = tw B + _ := c2
      omega
    · rename_i hb
      have hb : ib (pv k.1 b) p = false := by cases hx : ib (pv k.1 b) p with
        | false => rfl
        | true => exact absurd hx hb
      rw [hb, cond_false, Nat.add_zero] at hl ⊢
      exact sDr_w hs m (p + 1) x y hn hl h
theorem shr_w {c : Int64} (hc : 0 ≤ c.toInt) (ho : sOv h0 d b k = false) : 0 ≤ (shr k b c).toInt ∧ (nbM (ib (pv k.1 b)) 10 0 : Int) * (shr k b c).toInt ≤ c.toInt := by
  obtain ⟨i, hi, e⟩ := sOv_f ho
  have e1 : nbM (ib (pv k.1 b)) 10 0 = cb (ib (pv k.1 b)) 10 := by
    rw [nb_cb]
    exact congrArg (fun f => cb f 10) (funext (fun j => by rw [Nat.zero_add]))
  have n1 := cb_1 e hi
  have n2 := cb_le (ib (pv k.1 b)) 10
  rw [e1]
  have e2 : (nm_bc (pv k.1 b)).toInt64.toInt = (cb (ib (pv k.1 b)) 10 : Nat) := by rw [Int32.toInt_toInt64, bc_cb (pv_sm _ _), nm_ofNat_toInt _ (by omega)]
  have e3 : (shr k b c).toInt = c.toInt / (cb (ib (pv k.1 b)) 10 : Nat) := by
    unfold shr
    rw [Int64.toInt_div_of_ne_left _ _ (fun x => by rw [x] at hc; exact absurd hc (by decide)), e2, Int.tdiv_eq_ediv_of_nonneg hc]
  rw [e3]
  exact ⟨Int.ediv_nonneg hc (by omega), Int.mul_ediv_self_le (by omega)⟩
theorem sSw_w {N : TB} (nN : nn N) : ∀ (m i : Nat) (E B : TB) (dr vn : Int64) (y : TB × TB × Int64 × Int64), i + m ≤ N.1 → nn E → nn B → tw E + tw B + (twN N.2.2 (i + m) - twN N.2.2 i) ≤ 4000000000000000000 → sSw h0 d b N m i E B dr vn = some y → nn y.1 ∧ nn y.2.1 ∧ tw y.1 + tw y.2.1 ≤ tw E + tw B + (twN N.2.2 (i + m) - twN N.2.2 i)
  | 0, i, E, B, dr, vn, y, hi, nE, nB, hl, h => by
    cases h
    refine ⟨nE, nB, ?_⟩
    show tw E + tw B ≤ tw E + tw B + (twN N.2.2 i - twN N.2.2 i)
    omega
  | m + 1, i, E, B, dr, vn, y, hi, nE, nB, hl, h => by
    have hc := nN i (by omega)
    have e1 : twN N.2.2 (i + 1) = twN N.2.2 i + (N.2.2 i).toInt := rfl
    have e2 : i + (m + 1) = i + 1 + m := by omega
    rw [e2] at hl ⊢
    have e3 := tw_mn (C := N.2.2) (i + 1) m (fun j hj => nN j (by omega))
    have nB0 := nn_0 nB
    have nE0 := nn_0 nE
    unfold sSw at h
    split at h
    · obtain ⟨E', hE, h⟩ := bd_e h
      obtain ⟨b1, b2⟩ := adT_w nE hc (by omega) hE
      obtain ⟨c1, c2, c3⟩ := sSw_w nN m (i + 1) E' B dr vn y (by omega) b1 nB (by omega) h
      exact ⟨c1, c2, by omega⟩
    · rename_i ho
      have ho : sOv h0 d b (N.2.1 i) = false := by cases hx : sOv h0 d b (N.2.1 i) with
        | false => rfl
        | true => exact absurd hx ho
      obtain ⟨x, hx, h⟩ := bd_e h
      obtain ⟨s1, s2⟩ := shr_w hc ho
      obtain ⟨b1, b2⟩ := sDr_w s1 10 0 (B, vn) x nB (by show tw B + _ ≤ _; omega) hx
      have b2 : tw x.1 = tw B + _ := b2
      obtain ⟨c1, c2, c3⟩ := sSw_w nN m (i + 1) E x.1 _ _ y (by omega) nE b1 (by omega) h
      exact ⟨c1, c2, by omega⟩
theorem sGo_w : ∀ (m : Nat) (N E : TB) (dr vn : Int64) (y : TB × Int64 × Int64), nn N → nn E → tw N + tw E ≤ 4000000000000000000 → sGo h0 d b m N E dr vn = some y → nn y.1 ∧ tw y.1 ≤ tw N + tw E
  | 0, N, E, dr, vn, y, nN, nE, hl, h => by
    cases h
    have := nn_0 nN
    exact ⟨nE, by show tw E ≤ _; omega⟩
  | m + 1, N, E, dr, vn, y, nN, nE, hl, h => by
    have n0 := nn_0 nN
    unfold sGo at h
    split at h
    · cases h
      exact ⟨nE, by show tw E ≤ _; omega⟩
    · obtain ⟨x, hx, h⟩ := bd_e h
      have t0 : tw tE = 0 := rfl
      have t1 : twN N.2.2 0 = 0 := rfl
      have t2 : twN N.2.2 (0 + N.1) = tw N := by rw [Nat.zero_add]; rfl
      obtain ⟨b1, b2, b3⟩ := sSw_w nN N.1 0 E tE dr vn x (by omega) nE nn_E (by omega) hx
      obtain ⟨c1, c2⟩ := sGo_w m x.2.1 x.1 _ _ y b2 b1 (by omega) h
      exact ⟨c1, by omega⟩
theorem sOps_w {E : TB} (nE : nn E) : ∀ (m i : Nat) (N : TB), i + m ≤ E.1 → nn N → tw N + (twN E.2.2 (i + m) - twN E.2.2 i) ≤ 4000000000000000000 → nn (sOps h0 d E m i N) ∧ tw (sOps h0 d E m i N) ≤ tw N + (twN E.2.2 (i + m) - twN E.2.2 i)
  | 0, i, N, hi, nN, hl => by
    refine ⟨nN, ?_⟩
    show tw N ≤ tw N + (twN E.2.2 i - twN E.2.2 i)
    omega
  | m + 1, i, N, hi, nN, hl => by
    have hc := nE i (by omega)
    have e1 : twN E.2.2 (i + 1) = twN E.2.2 i + (E.2.2 i).toInt := rfl
    have e2 : i + (m + 1) = i + 1 + m := by omega
    rw [e2] at hl ⊢
    have e3 := tw_mn (C := E.2.2) (i + 1) m (fun j hj => nE j (by omega))
    obtain ⟨b1, b2⟩ := adI_w (k := sOp h0 d (E.2.1 i)) nN hc (by omega)
    obtain ⟨c1, c2⟩ := sOps_w nE m (i + 1) (adI N (sOp h0 d (E.2.1 i)) (E.2.2 i)) (by omega) b1 (by omega)
    exact ⟨c1, by show tw (sOps h0 d E m (i + 1) (adI N (sOp h0 d (E.2.1 i)) (E.2.2 i))) ≤ _; omega⟩
theorem sPass_w {E : TB} {y : TB × Int64 × Int64} (nE : nn E) (hl : tw E ≤ 4000000000000000000) (h : sPass h0 d b E = some y) : nn y.1 ∧ tw y.1 ≤ tw E := by
  have t0 : tw tE = 0 := rfl
  have t1 : twN E.2.2 0 = 0 := rfl
  have t2 : twN E.2.2 (0 + E.1) = tw E := by rw [Nat.zero_add]; rfl
  obtain ⟨b1, b2⟩ := sOps_w (h0 := h0) (d := d) nE E.1 0 tE (by omega) nn_E (by omega)
  obtain ⟨c1, c2⟩ := sGo_w 11 _ tE _ _ y b1 nn_E (by omega) h
  exact ⟨c1, by omega⟩
end tb_X1
/-! some of a table -/
def cpT (f : Nat → Bool) (E : TB) : Nat → TB
  | 0 => tE
  | n + 1 => bif f n then ((cpT f E n).1 + 1, fun j => if j = (cpT f E n).1 then E.2.1 n else (cpT f E n).2.1 j, vp_updL (cpT f E n).2.2 (cpT f E n).1 (E.2.2 n)) else cpT f E n
theorem cp_n {f : Nat → Bool} {E : TB} : ∀ n, (cpT f E n).1 ≤ n
  | 0 => Nat.le_refl 0
  | n + 1 => by
    have := cp_n (f := f) (E := E) n
    unfold cpT
    cases f n with
    | false => exact Nat.le_succ_of_le this
    | true => exact Nat.succ_le_succ this
theorem cp_w {f : Nat → Bool} {E : TB} (nE : nn E) : ∀ n, n ≤ E.1 → nn (cpT f E n) ∧ tw (cpT f E n) ≤ twN E.2.2 n
  | 0, _ => ⟨nn_E, Int.le_refl 0⟩
  | n + 1, hn => by
    obtain ⟨h1, h2⟩ := cp_w (f := f) nE n (by omega)
    have hc := nE n (by omega)
    have e1 : twN E.2.2 (n + 1) = twN E.2.2 n + (E.2.2 n).toInt := rfl
    unfold cpT
    cases f n with
    | false => exact ⟨h1, by rw [cond_false]; omega⟩
    | true =>
      rw [cond_true]
      refine ⟨fun j hj => ?_, ?_⟩
      · show 0 ≤ (vp_updL (cpT f E n).2.2 (cpT f E n).1 (E.2.2 n) j).toInt
        have hj : j < (cpT f E n).1 + 1 := hj
        rw [vp_updL_eq]
        by_cases x : j = (cpT f E n).1
        · rw [if_pos x]; exact hc
        · rw [if_neg x]; exact h1 j (by omega)
      · show twN (vp_updL (cpT f E n).2.2 (cpT f E n).1 (E.2.2 n)) (cpT f E n).1 + (vp_updL (cpT f E n).2.2 (cpT f E n).1 (E.2.2 n) (cpT f E n).1).toInt ≤ _
        rw [vp_updL_eq, if_pos rfl, tw_cg (C' := (cpT f E n).2.2) (cpT f E n).1 (fun j hj => by rw [vp_updL_eq, if_neg (by omega)])]
        have h2 : twN (cpT f E n).2.2 (cpT f E n).1 ≤ twN E.2.2 n := h2
        omega
theorem cp_k {f : Nat → Bool} {E : TB} : ∀ n j, j < (cpT f E n).1 → ∃ j', j' < n ∧ (cpT f E n).2.1 j = E.2.1 j'
  | 0, j, hj => by cases hj
  | n + 1, j, hj => by
    have ih := cp_k (f := f) (E := E) n
    unfold cpT at hj ⊢
    cases hf : f n with
    | false =>
      rw [hf, cond_false] at hj
      rw [cond_false]
      obtain ⟨j', h1, h2⟩ := ih j hj
      exact ⟨j', by omega, h2⟩
    | true =>
      rw [hf, cond_true] at hj
      rw [cond_true]
      have hj : j < (cpT f E n).1 + 1 := hj
      show ∃ j', j' < n + 1 ∧ (if j = (cpT f E n).1 then E.2.1 n else (cpT f E n).2.1 j) = E.2.1 j'
      by_cases x : j = (cpT f E n).1
      · rw [if_pos x]
        exact ⟨n, by omega, rfl⟩
      · rw [if_neg x]
        obtain ⟨j', h1, h2⟩ := ih j (by omega)
        exact ⟨j', by omega, h2⟩
theorem cp_p {P : KY → Prop} {f : Nat → Bool} {E : TB} (hp : pT P E) {n : Nat} (hn : n ≤ E.1) : pT P (cpT f E n) := fun j hj => by
  obtain ⟨j', h1, h2⟩ := cp_k n j hj
  rw [h2]
  exact hp j' (by omega)
/-- what goes on with some of the ends, one by one, is that -/
theorem sFt_cp {f : Nat → Bool} {E : TB} (dE : dT E) (n3 : E.1 ≤ 3000) : ∀ (m i : Nat), i + m = E.1 → sFt f E m i (cpT f E i) = cpT f E E.1
  | 0, i, hi => by
    rw [show E.1 = i from by omega]
    rfl
  | m + 1, i, hi => by
    rw [← sFt_cp dE n3 m (i + 1) (by omega)]
    show sFt f E m (i + 1) (bif f i then adI (cpT f E i) (E.2.1 i) (E.2.2 i) else cpT f E i) = sFt f E m (i + 1) (bif f i then _ else cpT f E i)
    cases f i with
    | false => rfl
    | true =>
      rw [cond_true, cond_true]
      have hf : ∀ j, j < (cpT f E i).1 → (cpT f E i).2.1 j ≠ E.2.1 i := fun j hj x => by
        obtain ⟨j', h1, h2⟩ := cp_k i j hj
        have := dE j' i (by omega) (by omega) (h2.symm.trans x)
        omega
      have := cp_n (f := f) (E := E) i
      have e : adI (cpT f E i) (E.2.1 i) (E.2.2 i) = ((cpT f E i).1 + 1, fun j => if j = (cpT f E i).1 then E.2.1 i else (cpT f E i).2.1 j, vp_updL (cpT f E i).2.2 (cpT f E i).1 (E.2.2 i)) := by
        unfold adI adT
        rw [fnd_of hf, if_neg (by omega)]
        rfl
      rw [e]
theorem sS_w {C : Nat → Int64} : ∀ m, (∀ j, j < m → 0 ≤ (C j).toInt) → twN C m ≤ 4000000000000000000 → (sS (fun _ => true) C m 0 (Int64.ofNat 0)).toInt = twN C m
  | 0, _, _ => (by decide : (Int64.ofNat 0).toInt = 0)
  | m + 1, h, hl => by
    have n0 := (tw_nn (C := C) m (fun j hj => h j (by omega))).1
    have hm := h m (by omega)
    have hl : twN C m + (C m).toInt ≤ 4000000000000000000 := hl
    have ih := sS_w m (fun j hj => h j (by omega)) (by omega)
    rw [sS_snoc, Nat.zero_add, i64_add (by omega) hm (by omega), ih]
    rfl
theorem sSum_w {E : TB} (nE : nn E) (hl : tw E ≤ 4000000000000000000) : (sSum E).toInt = tw E := sS_w E.1 nE hl
end mg_1

section mg_2
/-! lists: the ends that go on -/
section tb_Y
variable {h hX hM hX' hM' h0 : px_H} {z dn nx ln D d b L : Nat} {s a : Int32} {u : Int64} {w : Int32} {E : TB}
theorem gow2 (z9 : z ≤ 10) (o : oS hX) (xt : XT (QE D u w) E hX) (hk : pT (kEN z D) E) (dE : dT E) (a : Int32) : ∃ x3, fn_Walk_goOnWith a hX = some x3 ∧ oS x3 ∧ fz WPS VPS hX x3 ∧ XT (QE D u w) (cpT (fun j => !px_cmp .ne (sB z D (E.2.1 j)) a) E E.1) x3 := by
  obtain ⟨a', bb, e, g, rf, c1, c2, cE⟩ := xt
  have n3 := cE.2.1
  obtain ⟨x2, q1, q2, q3, q4⟩ := ca_clear g.2.1 o c2
  have hV : ∀ c, Nat.beq c (bb + 4) = true → Vt bb c = true := vt_4
  obtain ⟨x3, r1, r2, r3, r4, r5, r6, r7⟩ := go_X (aa := a) (D := D) z9 g hk E.1 0 fu x2 tE (by omega) (fu_lt (by omega)) q2 (RF_fz q3 (wt_28 g.2.1 0) (wt_28 g.2.1 1) (wt_28 g.2.1 2) rf) (CT0_fz q3 (wt_ne g.2.2.2.1) (fun c h1 h2 => by
    cases hv : Nat.beq c (bb + 4) with
    | false => rfl
    | true =>
      have := hV c hv
      rw [vt_ne g.1 g.2.1 g.2.2.2.1 h1 h2] at this
      cases this) c1) (q4 _) (CT_t g.2.2.1 g.2.1 (fun x => g.2.2.2.2.2 x.symm) hV q3 cE)
  have e7 : sFt (fun j => !px_cmp .ne (sB z D (E.2.1 j)) a) E E.1 0 tE = cpT (fun j => !px_cmp .ne (sB z D (E.2.1 j)) a) E E.1 := sFt_cp dE n3 E.1 0 (by omega)
  rw [e7] at r7
  refine ⟨x3, ?_, r2, fz_tr (wps_a (px_t g.2.1 hV q3)) r3, ⟨a', e, bb, ⟨g.1, g.2.2.1, g.2.1, g.2.2.2.2.1, g.2.2.2.1, fun x => g.2.2.2.2.2 x.symm⟩, r4, r5, r6, r7⟩⟩
  unfold fn_Walk_goOnWith
  rw [rf.2.1, q1, Option.bind_some]
  exact r1
theorem ix6 (i : Nat) : (Int16.ofInt 6002).toInt32 + Int32.ofNat i = Int32.ofNat (6002 + i) := by
  rw [show (Int16.ofInt 6002).toInt32 = Int32.ofNat 6002 from by decide, ← Int32.ofNat_add]
def C6 (T : TB) (lo hi : Nat) (h : px_H) : Prop := ∀ j, lo ≤ j → j < hi → aL h 93 (6002 + j) = (T.2.1 j).1 ∧ aL h 94 (6002 + j) = (T.2.1 j).2 ∧ aL h 95 (6002 + j) = T.2.2 j
theorem C6_fz {T : TB} {lo hi : Nat} {W : Nat → Nat → Bool} {V : Nat → Bool} (f : fz W V h hM) (v1 : V 93 = false) (v2 : V 94 = false) (v3 : V 95 = false) (c : C6 T lo hi h) : C6 T lo hi hM := fun j h1 h2 => by
  rw [(f.2 93 v1).2, (f.2 94 v2).2, (f.2 95 v3).2]
  exact c j h1 h2
theorem kl_L {f : Nat → Bool} {ls : Int32} (z9 : z ≤ 10) (d6 : d < 6) (n3 : E.1 ≤ 3000) (hf : ∀ j, j < E.1 → f j = !px_cmp .ne (sB z d (E.2.1 j)) ls) : ∀ (m i N : Nat) (h : px_H), i + m = E.1 → m < N → MX h0 h → gI h 69 3 = Int32.ofNat z → aI h 99 d = ls → aI h 96 2 = Int32.ofNat E.1 → C6 (cpT f E i) 0 (cpT f E i).1 h → C6 E i E.1 h → ∃ h', fn_M_keepsListed_L4 (Int32.ofNat d) N (Int32.ofNat (cpT f E i).1) (Int32.ofNat i) h = some h' ∧ MX h0 h' ∧ MT 2 (cpT f E E.1) h' := by
  intro m
  induction m with
  | zero =>
    intro i N h hi hN mx hz h99 h96 c1 c2
    obtain ⟨N, rfl⟩ : ∃ k, N = k + 1 := ⟨N - 1, by omega⟩
    have hi : i = E.1 := by omega
    show ∃ h', fb_M_keepsListed_L4 (Int32.ofNat d) (fn_M_keepsListed_L4 (Int32.ofNat d) N) (Int32.ofNat (cpT f E i).1) (Int32.ofNat i) h = _ ∧ _
    unfold fb_M_keepsListed_L4
    rw [show (Int32.ofInt 2).toNatClampNeg = 2 from rfl, h96, hi, ge_t, cond_true, sb_i]
    rw [hi] at c1
    have o1 := mx.1
    have n1 := cp_n (f := f) (E := E) E.1
    refine ⟨uI h 96 2 (Int32.ofNat (cpT f E E.1).1), rfl, ⟨oS_uI (cs := [96]) (t := nr_size) (n := 3) rfl List.mem_cons_self o1, fz_tr mx.2 (fz_uI rfl)⟩, ?_, by omega, fun j hj => ?_⟩
    · rw [aI_uI (cs := [96]) (t := nr_size) (n := 3) rfl List.mem_cons_self o1, upd_eq, if_pos rfl]
    · rw [aL_uI, aL_uI, aL_uI]
      exact c1 j (Nat.zero_le _) hj
  | succ m ih =>
    intro i N h hi hN mx hz h99 h96 c1 c2
    obtain ⟨N, rfl⟩ : ∃ k, N = k + 1 := ⟨N - 1, by omega⟩
    have hiE : i < E.1 := by omega
    show ∃ h', fb_M_keepsListed_L4 (Int32.ofNat d) (fn_M_keepsListed_L4 (Int32.ofNat d) N) (Int32.ofNat (cpT f E i).1) (Int32.ofNat i) h = _ ∧ _
    have mt : MT 2 (E.1, fun j => (aL h 93 (6002 + j), aL h 94 (6002 + j)), fun j => aL h 95 (6002 + j)) h := ⟨h96, n3, fun j _ => ⟨rfl, rfl, rfl⟩⟩
    obtain ⟨h1, a1, a2, a3⟩ := sa_ok (d := d) (i := i) mx.1 hz z9 mt hiE
    have e1 : sB z d (aL h 93 (6002 + i), aL h 94 (6002 + i)) = sB z d (E.2.1 i) := by rw [(c2 i (Nat.le_refl i) hiE).1, (c2 i (Nat.le_refl i) hiE).2.1]
    have a1 : fn_M_satAt (Int32.ofNat i) (Int32.ofNat d) h = some (sB z d (E.2.1 i), h1) := by
      rw [← e1]
      exact a1
    have mx1 : MX h0 h1 := MX_m mx a2 (wm_w a3)
    have z1 : gI h1 69 3 = Int32.ofNat z := (fz_gI a3 rfl).trans hz
    have l1 : aI h1 99 d = ls := by rw [(a3.2 99 rfl).1]; exact h99
    have s1 : aI h1 96 2 = Int32.ofNat E.1 := by rw [(a3.2 96 rfl).1]; exact h96
    have d1 := C6_fz a3 rfl rfl rfl c1
    have d2 := C6_fz a3 rfl rfl rfl c2
    have nle := cp_n (f := f) (E := E) i
    unfold fb_M_keepsListed_L4
    rw [show (Int32.ofInt 2).toNatClampNeg = 2 from rfl, h96, ge_f hiE (by omega), cond_false, a1, Option.bind_some, nm_inR d 6 d6 (by omega), cond_true, nm_ofNat_clamp d (by omega), l1, inc1]
    have hfi := hf i hiE
    cases hp : px_cmp .ne (sB z d (E.2.1 i)) ls with
    | true =>
      rw [hp, Bool.not_true] at hfi
      have ec : cpT f E (i + 1) = cpT f E i := by
        show (bif f i then _ else cpT f E i) = _
        rw [hfi, cond_false]
      rw [cond_true, ← ec]
      exact ih (i + 1) N h1 (by omega) (by omega) mx1 z1 l1 s1 (by rw [ec]; exact d1) (fun j j1 j2 => d2 j (by omega) j2)
    | false =>
      rw [hp, Bool.not_false] at hfi
      have ec : cpT f E (i + 1) = ((cpT f E i).1 + 1, fun j => if j = (cpT f E i).1 then E.2.1 i else (cpT f E i).2.1 j, vp_updL (cpT f E i).2.2 (cpT f E i).1 (E.2.2 i)) := by
        show (bif f i then _ else cpT f E i) = _
        rw [hfi, cond_true]
      have ec1 : (cpT f E (i + 1)).1 = (cpT f E i).1 + 1 := by rw [ec]
      rw [cond_false, ix6, ix6, nm_inR (6002 + i) 9003 (by omega) (by omega), nm_inR (6002 + (cpT f E i).1) 9003 (by omega) (by omega), nm_ofNat_clamp (6002 + i) (by omega), nm_ofNat_clamp (6002 + (cpT f E i).1) (by omega), inc1]
      simp only [cond_true]
      obtain ⟨g1, g2, g3⟩ := d2 i (Nat.le_refl i) hiE
      generalize hn : (cpT f E i).1 = n at *
      rw [sb_i]
      have o2 : oS (uL h1 93 (6002 + n) (aL h1 93 (6002 + i))) := oS_uL (cs := [93]) (t := nr_one) (n := 9003) rfl List.mem_cons_self a2
      have x2 : aL (uL h1 93 (6002 + n) (aL h1 93 (6002 + i))) 93 = vp_updL (aL h1 93) (6002 + n) (aL h1 93 (6002 + i)) := aL_uL (cs := [93]) (t := nr_one) (n := 9003) rfl List.mem_cons_self a2
      have y2 : ∀ x, x ≠ 93 → aL (uL h1 93 (6002 + n) (aL h1 93 (6002 + i))) x = aL h1 x := fun x hx => aL_uL_ne hx
      have f2 : fz W0 V9 h1 (uL h1 93 (6002 + n) (aL h1 93 (6002 + i))) := fz_uL rfl
      have i2 : ∀ x, aI (uL h1 93 (6002 + n) (aL h1 93 (6002 + i))) x = aI h1 x := fun _ => aI_uL
      generalize uL h1 93 (6002 + n) (aL h1 93 (6002 + i)) = h2 at o2 x2 y2 f2 i2 ⊢
      rw [sb_i]
      have o3 : oS (uL h2 94 (6002 + n) (aL h2 94 (6002 + i))) := oS_uL (cs := [94]) (t := nr_other) (n := 9003) rfl List.mem_cons_self o2
      have x3 : aL (uL h2 94 (6002 + n) (aL h2 94 (6002 + i))) 94 = vp_updL (aL h1 94) (6002 + n) (aL h1 94 (6002 + i)) := by rw [aL_uL (cs := [94]) (t := nr_other) (n := 9003) rfl List.mem_cons_self o2, y2 94 (by decide)]
      have y3 : aL (uL h2 94 (6002 + n) (aL h2 94 (6002 + i))) 93 = aL h2 93 := aL_uL_ne (by decide)
      have y3' : aL (uL h2 94 (6002 + n) (aL h2 94 (6002 + i))) 95 = aL h1 95 := (aL_uL_ne (by decide)).trans (y2 95 (by decide))
      have f3 : fz W0 V9 h1 (uL h2 94 (6002 + n) (aL h2 94 (6002 + i))) := fz_tr f2 (fz_uL rfl)
      have i3 : ∀ x, aI (uL h2 94 (6002 + n) (aL h2 94 (6002 + i))) x = aI h1 x := fun x => aI_uL.trans (i2 x)
      generalize uL h2 94 (6002 + n) (aL h2 94 (6002 + i)) = h3 at o3 x3 y3 y3' f3 i3 ⊢
      rw [sb_i]
      have o4 : oS (uL h3 95 (6002 + n) (aL h3 95 (6002 + i))) := oS_uL (cs := [95]) (t := nr_part) (n := 9003) rfl List.mem_cons_self o3
      have x4 : aL (uL h3 95 (6002 + n) (aL h3 95 (6002 + i))) 95 = vp_updL (aL h1 95) (6002 + n) (aL h1 95 (6002 + i)) := by rw [aL_uL (cs := [95]) (t := nr_part) (n := 9003) rfl List.mem_cons_self o3, y3']
      have y4 : aL (uL h3 95 (6002 + n) (aL h3 95 (6002 + i))) 93 = vp_updL (aL h1 93) (6002 + n) (aL h1 93 (6002 + i)) := (aL_uL_ne (by decide)).trans (y3.trans x2)
      have y4' : aL (uL h3 95 (6002 + n) (aL h3 95 (6002 + i))) 94 = vp_updL (aL h1 94) (6002 + n) (aL h1 94 (6002 + i)) := (aL_uL_ne (by decide)).trans x3
      have f4 : fz W0 V9 h1 (uL h3 95 (6002 + n) (aL h3 95 (6002 + i))) := fz_tr f3 (fz_uL rfl)
      have i4 : ∀ x, aI (uL h3 95 (6002 + n) (aL h3 95 (6002 + i))) x = aI h1 x := fun x => aI_uL.trans (i3 x)
      generalize uL h3 95 (6002 + n) (aL h3 95 (6002 + i)) = h4 at o4 x4 y4 y4' f4 i4 ⊢
      rw [← ec1]
      refine ih (i + 1) N h4 (by omega) (by omega) (MX_m mx1 o4 (v9_w f4)) ((fz_gI f4 rfl).trans z1) (by rw [i4]; exact l1) (by rw [i4]; exact s1) ?_ ?_
      · rw [ec]
        intro j _ hj
        have hj : j < n + 1 := hj
        show aL h4 93 (6002 + j) = (if j = n then E.2.1 i else (cpT f E i).2.1 j).1 ∧ aL h4 94 (6002 + j) = (if j = n then E.2.1 i else (cpT f E i).2.1 j).2 ∧ aL h4 95 (6002 + j) = vp_updL (cpT f E i).2.2 n (E.2.2 i) j
        rw [y4, y4', x4, vp_updL_eq, vp_updL_eq, vp_updL_eq, vp_updL_eq]
        by_cases e : j = n
        · have e' : 6002 + j = 6002 + n := by omega
          simp only [if_pos e, if_pos e']
          exact ⟨g1, g2, g3⟩
        · have e' : ¬ 6002 + j = 6002 + n := by omega
          simp only [if_neg e, if_neg e']
          exact d1 j (Nat.zero_le _) (by omega)
      · intro j j1 j2
        rw [y4, y4', x4, vp_updL_eq, vp_updL_eq, vp_updL_eq, if_neg (by omega), if_neg (by omega), if_neg (by omega)]
        exact d2 j (by omega) j2
theorem kl2 {ls : Int32} (z9 : z ≤ 10) (d6 : d < 6) (mx : MX h0 hM) (hz : gI hM 69 3 = Int32.ofNat z) (h99 : aI hM 99 d = ls) (g2 : MT 2 E hM) : ∃ h', fn_M_keepsListed (Int32.ofNat d) hM = some h' ∧ MX h0 h' ∧ MT 2 (cpT (fun j => !px_cmp .ne (sB z d (E.2.1 j)) ls) E E.1) h' :=
  kl_L (f := fun j => !px_cmp .ne (sB z d (E.2.1 j)) ls) z9 d6 g2.2.1 (fun _ _ => rfl) E.1 0 fu hM (by omega) (fu_lt (by have := g2.2.1; omega)) mx hz h99 g2.1 (fun j _ hj => by cases hj) (fun j _ hj => g2.2.2 j hj)
/-! drawings as listed -/
noncomputable def sLw (h0 : px_H) (z : Nat) (ls : Nat → Int32) : Nat → Nat → TB → Option TB
  | 0, _, E => some E
  | m + 1, d, E => (sPass h0 d (bgO h0 d) E).bind fun y => sLw h0 z ls m (d + 1) (cpT (fun j => !px_cmp .ne (sB z d (y.1.2.1 j)) (ls d)) y.1 y.1.1)
theorem sLw_w {ls : Nat → Int32} : ∀ (m d : Nat) (E E' : TB), nn E → tw E ≤ 4000000000000000000 → sLw h0 z ls m d E = some E' → nn E' ∧ tw E' ≤ tw E
  | 0, d, E, E', nE, hl, h => by
    cases h
    exact ⟨nE, Int.le_refl _⟩
  | m + 1, d, E, E', nE, hl, h => by
    unfold sLw at h
    obtain ⟨y, hy, h⟩ := bd_e h
    obtain ⟨a1, a2⟩ := sPass_w nE hl hy
    obtain ⟨b1, b2⟩ := cp_w (f := fun j => !px_cmp .ne (sB z d (y.1.2.1 j)) (ls d)) a1 y.1.1 (Nat.le_refl _)
    have e : twN y.1.2.2 y.1.1 = tw y.1 := rfl
    obtain ⟨c1, c2⟩ := sLw_w m (d + 1) _ E' b1 (by omega) h
    exact ⟨c1, by omega⟩
/-- behind the walk of lets -/
noncomputable def ltE (v1 v3 : Int32) (hp : px_H) : Option (Int64 × px_H) :=
  bif px_inR v1 2 then
  sb (uI hp 76 v1.toNatClampNeg (gI hp 69 48)) fun h25 =>
  (fn_M_comesBack h25).bind fun q27 =>
  bif px_cmp .ne v3 0 then
    fn_M_lets_L108 q27 fu (Int64.ofNat 0) (Int32.ofInt 0)
  else
    some ((Int64.ofInt (-2)), q27)
  else none
theorem ltz_0 {v1 : Int32} {N d : Nat} (h : px_H) : fn_M_lets_L44 v1 (N + 1) (Int32.ofInt 0) (Int32.ofNat d) h = ltE v1 (Int32.ofInt 0) h := by
  show fb_M_lets_L44 v1 (fn_M_lets_L44 v1 N) (Int32.ofInt 0) (Int32.ofNat d) h = _
  unfold fb_M_lets_L44
  rw [show px_cmp .eq (Int32.ofInt 0) 0 = true from by decide, cond_true]
  unfold ltE
  cases px_cmp .ge (Int32.ofNat d) (gI h 69 49) <;> rfl
theorem lw2 {ls : Nat → Int32} {v1 : Int32} (o0 : oS h0) (hr : gI h0 69 15 = Int32.ofNat 0) (z9 : z ≤ 10) (d6 : dn ≤ 6) (Ld : L ≤ dn) : ∀ (m d N : Nat) (hX hM : px_H) (E : TB) (Q : Int64 → Int32 → KY → Prop), d + m = L → m + 1 < N → XS z dn 14 0 ln h0 hX → XT Q E hX → (∀ s q k, Q s q k → QO u w s q k) → pT (kCL z d) E → MX h0 hM → MT 2 E hM → gI hX 0 16 = Int32.ofNat L → gI hM 69 49 = Int32.ofNat L → gI hM 69 3 = Int32.ofNat z → (∀ j, j < L → aI hX 53 j = ls j ∧ aI hM 99 j = ls j) →
    ∃ hX' hM', fn_X_walkAsListed_L2 N (Int32.ofNat d) hX = some (b01 (sLw h0 z ls m d E).isSome, hX') ∧ fn_M_lets_L44 v1 N (Int32.ofInt 1) (Int32.ofNat d) hM = ltE v1 (b01 (sLw h0 z ls m d E).isSome) hM' ∧ oS hX' ∧ MX h0 hM' ∧ fz WPS VPS hX hX' ∧ GT hX' ∧ ∀ E', sLw h0 z ls m d E = some E' → (∃ Q', XT Q' E' hX') ∧ MT 2 E' hM' := by
  intro m
  induction m with
  | zero =>
    intro d N hX hM E Q hm hN xs xt hQ hk mx g2 gX gM zM hl
    obtain ⟨N, rfl⟩ : ∃ k, N = k + 1 := ⟨N - 1, by omega⟩
    have : d = L := by omega
    subst this
    refine ⟨hX, hM, ?_, ?_, xs.1, mx, fz_rf, ⟨Q, E, xt⟩, fun E' h => by cases h; exact ⟨⟨Q, xt⟩, g2⟩⟩
    · show fb_X_walkAsListed_L2 (fn_X_walkAsListed_L2 N) (Int32.ofNat d) hX = _
      unfold fb_X_walkAsListed_L2
      rw [gX, ge_t, cond_true]
      rfl
    · show fb_M_lets_L44 v1 (fn_M_lets_L44 v1 N) (Int32.ofInt 1) (Int32.ofNat d) hM = ltE v1 (Int32.ofInt 1) hM
      unfold fb_M_lets_L44
      rw [gM, ge_t, cond_true]
      rfl
  | succ m ih =>
    intro d N hX hM E Q hm hN xs xt hQ hk mx g2 gX gM zM hl
    obtain ⟨N, rfl⟩ : ∃ k, N = k + 1 := ⟨N - 1, by omega⟩
    have D6 : d < 6 := by omega
    obtain ⟨h1, m1, a1, a2, a3, a4, a5, Ec, Em, a6, a7, a8⟩ := ps2 o0 hr (rc := 14) (by decide) (show d < dn by omega) xs xt hQ hk (Nat.le_refl d) mx g2
    have eW : sLw h0 z ls (m + 1) d E = (sPass h0 d (bgO h0 d) E).bind fun y => sLw h0 z ls m (d + 1) (cpT (fun j => !px_cmp .ne (sB z d (y.1.2.1 j)) (ls d)) y.1 y.1.1) := rfl
    have eX : fn_X_walkAsListed_L2 (N + 1) (Int32.ofNat d) hX = bif (sPass h0 d (bgO h0 d) E).isSome then (fn_Walk_goOnWith (aI h1 53 d) h1).bind fun q9 => fn_X_walkAsListed_L2 N (Int32.ofNat (d + 1)) q9 else some (Int32.ofInt 0, h1) := by
      show fb_X_walkAsListed_L2 (fn_X_walkAsListed_L2 N) (Int32.ofNat d) hX = _
      unfold fb_X_walkAsListed_L2
      rw [gX, ge_f (show d < L by omega) (by omega), cond_false, show (Int8.ofInt 6).toInt32 = Int32.ofNat 6 from by decide, ge_f (show d < 6 by omega) (by omega), cond_false, a1, Option.bind_some, cmp_b01n, nm_inR d 6 D6 (by omega), cond_true, nm_ofNat_clamp d (by omega), inc1]
    have eM : fn_M_lets_L44 v1 (N + 1) (Int32.ofInt 1) (Int32.ofNat d) hM = bif !(sPass h0 d (bgO h0 d) E).isSome then fn_M_lets_L44 v1 N (b01 (sPass h0 d (bgO h0 d) E).isSome) (Int32.ofNat (d + 1)) m1 else (fn_M_keepsListed (Int32.ofNat d) m1).bind fun q58 => fn_M_lets_L44 v1 N (b01 (sPass h0 d (bgO h0 d) E).isSome) (Int32.ofNat (d + 1)) q58 := by
      show fb_M_lets_L44 v1 (fn_M_lets_L44 v1 N) (Int32.ofInt 1) (Int32.ofNat d) hM = _
      unfold fb_M_lets_L44
      rw [gM, ge_f (show d < L by omega) (by omega), cond_false, show px_cmp .eq (Int32.ofInt 1) 0 = false from by decide, cond_false, a2, Option.bind_some, cmp_b01, inc1]
    rw [eX, eW, eM]
    cases hP : sPass h0 d (bgO h0 d) E with
    | none =>
      obtain ⟨N, rfl⟩ : ∃ k, N = k + 1 := ⟨N - 1, by omega⟩
      refine ⟨h1, m1, rfl, ?_, a3.1, a4, a5, ⟨_, Ec, a6⟩, fun E' h => by cases h⟩
      exact ltz_0 m1
    | some y =>
      obtain ⟨y1, y2, y3, y4, -⟩ := a8 y hP
      subst y1
      obtain ⟨x3, b1, b2, b3, b4⟩ := gow2 (a := ls d) z9 a3.1 a6 y3 y4
      have m7 : MT 2 y.1 m1 := by rw [← y2]; exact a7.1
      obtain ⟨y3', c1, c2, c3⟩ := kl2 (ls := ls d) z9 D6 a4 ((fz_gI (fz_tr (fz_sy mx.2) a4.2) rfl).trans zM) (by rw [((fz_tr (fz_sy mx.2) a4.2).2 99 rfl).1]; exact (hl d (by omega)).2) m7
      have l53 : aI h1 53 d = ls d := by rw [(a5.2 53 rfl).1]; exact (hl d (by omega)).1
      have fX : fz WPS VPS hX x3 := fz_tr a5 b3
      have fM : fz WMW VMW hM y3' := fz_tr (fz_sy mx.2) c2.2
      obtain ⟨h2, m2, d1, d2, d3, d4, d5, d7, d8⟩ := ih (d + 1) N x3 y3' (cpT (fun j => !px_cmp .ne (sB z d (y.1.2.1 j)) (ls d)) y.1 y.1.1) (QE d u w) (by omega) (by omega) (XS_ps (by decide) b2 b3 a3) b4 (fun _ _ _ h => h.1) (fun i hi => (cp_p y3 (Nat.le_refl _) i hi).1) c2 c3 ((fz_gI fX rfl).trans gX) ((fz_gI fM rfl).trans gM) ((fz_gI fM rfl).trans zM) (fun j hj => by rw [(fX.2 53 rfl).1, (fM.2 99 rfl).1]; exact hl j hj)
      refine ⟨h2, m2, ?_, ?_, d3, d4, fz_tr fX d5, d7, d8⟩
      · rw [l53, b1]
        exact d1
      · rw [c1]
        exact d2
end tb_Y
end mg_2

section mg_3
/-! questions: old, seldom -/
def ltV : Option TB → Int64
  | none => Int64.ofInt (-2)
  | some E => if E.1 = 0 then Int64.ofInt (-1) else sSum E
noncomputable def rsL (b : Nat) (hM : px_H) (z : Nat) (ls : Nat → Int32) (L : Nat) (s : Int32) : Option TB := (preM b s hM).bind fun y2 => sLw y2 z ls L 0 (tS (kyOf y2))
/-- what was listed, on both sides -/
def LIq (L : Nat) (ls : Nat → Int32) (hX hM : px_H) : Prop := L ≤ 6 ∧ gI hX 0 16 = Int32.ofNat L ∧ gI hM 69 49 = Int32.ofNat L ∧ ∀ j, j < L → aI hX 53 j = ls j ∧ aI hM 99 j = ls j
theorem lg_gt {x y : Int64} (h : y.toInt < x.toInt) : lg_cmp x y = 1 := by
  unfold lg_cmp
  rw [if_pos (Int64.lt_iff_toInt_lt.mpr h)]
theorem lv_n : px_cmp .ne (lg_cmp (ltV none) (Int64.ofInt (-2))) 0 = false := by decide
theorem lv_s {E : TB} (h : 0 ≤ (sSum E).toInt) : px_cmp .ne (lg_cmp (ltV (some E)) (Int64.ofInt (-2))) 0 = true ∧ px_cmp .lt (lg_cmp (ltV (some E)) (Int64.ofNat 0)) 0 = decide (E.1 = 0) := by
  by_cases e : E.1 = 0
  · rw [show ltV (some E) = Int64.ofInt (-1) from if_pos e, decide_eq_true e]
    decide
  · rw [show ltV (some E) = sSum E from if_neg e, decide_eq_false e]
    refine ⟨?_, ?_⟩
    · rw [lg_gt (show (Int64.ofInt (-2)).toInt < (sSum E).toInt by rw [show (Int64.ofInt (-2)).toInt = -2 from by decide]; omega)]
      decide
    · have := (lg_cmp_ge (sSum E) (Int64.ofNat 0)).mpr (Int64.le_iff_toInt_le.mpr (by rw [show (Int64.ofNat 0).toInt = 0 from by decide]; exact h))
      rw [cmp_lt, decide_eq_false]
      have := Int32.le_iff_toInt_le.mp this
      omega
section tb_Z
variable {h hX hM hX' hM' h0 hX0 hM0 : px_H} {z dn nx ln D d b L A : Nat} {s a : Int32} {k1 : KY} {ls : Nat → Int32} {l : Nat}
theorem ls_M {E : TB} (g2 : MT 2 E h) : fn_M_lets_L108 h fu (Int64.ofNat 0) (Int32.ofInt 0) = some (ltV (some E), h) := by
  have n3 := g2.2.1
  have L : ∀ (m i N : Nat) (acc : Int64), i + m = E.1 → m < N → fn_M_lets_L108 h N acc (Int32.ofNat i) = some (if E.1 = 0 then Int64.ofInt (-1) else sS (fun _ => true) E.2.2 m i acc, h) := by
    intro m
    induction m with
    | zero =>
      intro i N acc hi hN
      obtain ⟨N, rfl⟩ : ∃ k, N = k + 1 := ⟨N - 1, by omega⟩
      show fb_M_lets_L108 h (fn_M_lets_L108 h N) acc (Int32.ofNat i) = some (if E.1 = 0 then Int64.ofInt (-1) else acc, h)
      unfold fb_M_lets_L108
      rw [show (Int32.ofInt 2).toNatClampNeg = 2 from rfl, g2.1, show i = E.1 from by omega, ge_t, cond_true, cmp_ne]
      by_cases e : E.1 = 0
      · rw [if_pos e, e]
        rfl
      · rw [if_neg e, decide_eq_false (fun x => by
          have := congrArg Int32.toInt x
          rw [nm_ofNat_toInt _ (by omega), show (0 : Int32).toInt = 0 from by decide] at this
          omega)]
        rfl
    | succ m ih =>
      intro i N acc hi hN
      obtain ⟨N, rfl⟩ : ∃ k, N = k + 1 := ⟨N - 1, by omega⟩
      have hiE : i < E.1 := by omega
      show fb_M_lets_L108 h (fn_M_lets_L108 h N) acc (Int32.ofNat i) = some (if E.1 = 0 then Int64.ofInt (-1) else sS (fun _ => true) E.2.2 m (i + 1) (acc + E.2.2 i), h)
      unfold fb_M_lets_L108
      rw [show (Int32.ofInt 2).toNatClampNeg = 2 from rfl, g2.1, ge_f hiE (by omega), cond_false, ep_ok g2 hiE, Option.bind_some, inc1]
      exact ih (i + 1) N _ (by omega) (by omega)
  exact L E.1 0 fu (Int64.ofNat 0) (by omega) (fu_lt (by omega))
theorem XT_size {Q : Int64 → Int32 → KY → Prop} {E : TB} (xt : XT Q E hX) : gI hX (gR hX 28 2) 3 = Int32.ofNat E.1 ∧ E.1 ≤ 3000 := by
  obtain ⟨_, _, e', _, rf5, _, _, cE5⟩ := xt
  rw [rf5.2.2]
  exact ⟨cE5.1, cE5.2.1⟩
theorem let_2 (oX : oS hX) (oM : oS hM) (rp : RPt z dn ln hX hM) (gt : GT hX) (b2 : b < 2) (hs : sz z s) (Ld : L ≤ dn) (li : LIq L ls hX hM) (o0 : oS h0) (m0 : ∀ y2, preM b s hM = some y2 → fz WMW VMW h0 y2 ∧ kyOf y2 = k1) :
    ∃ x2 x3 y7, fn_X_supposePacked (Int32.ofNat b) s hX = some x2 ∧ fn_X_walkAsListed x2 = some (b01 (sLw h0 z ls L 0 (tS k1)).isSome, x3) ∧ fn_M_lets (Int32.ofNat b) s hM = some (ltV (sLw h0 z ls L 0 (tS k1)), y7) ∧ oS x3 ∧ oS y7 ∧ fz WSU VBY hX x3 ∧ fz WTR V98 hM y7 ∧ SM hM y7 ∧ GT x3 ∧ ∀ E, sLw h0 z ls L 0 (tS k1) = some E → (∃ Q, XT Q E x3) ∧ MT 2 E y7 := by
  obtain ⟨x2, y2, u, w, a1, a2, a3, a4, a5, a6, a7, a8⟩ := st_2 oX oM rp gt b2 hs
  obtain ⟨hT, hRR, h15, h20, hsp⟩ := rp
  obtain ⟨L6, li1, li2, li3⟩ := li
  have z9 := hT.1
  have d6 := hT.2.1
  obtain ⟨y1, y2', c1, c2, c3, c4, c5, c6, c7, c8, c9, c10, c11, c11L, c12, c13, -⟩ := pre_ok (s := s) b2 oM
  rw [c2] at a2
  cases a2
  obtain ⟨f0, ek⟩ := m0 y2 c2
  obtain ⟨xs, e15⟩ := a8 h0 f0
  rw [ek] at a5 a6 a7
  obtain ⟨ym, y3, d1, d2, d3, d4, -, -⟩ := ms_start (h0 := h0) ⟨c4, f0⟩
  rw [ek] at d4
  have hQ : ∀ s q k, QS u w k1 s q k → QO u w s q k := by
    rintro s q k ⟨rfl, rfl, rfl⟩
    exact a5
  have f23 : fz WMW VMW y2 y3 := fz_tr (fz_sy f0) d3.2
  have z1 : ∀ {c k : Nat}, Wrm c k = false → (Nat.beq c 69 && (Nat.beq k 48 || (Nat.beq k 31 || (Nat.beq k 32 || Nat.beq k 33)))) = false → WMW c k = false → gI y3 c k = gI hM c k := fun h1 h2 h3 => (fz_gI f23 h3).trans ((fz_gI c9 h2).trans (fz_gI c5 h1))
  have z2 : aI y3 99 = aI hM 99 := ((f23.2 99 rfl).1).trans (((c9.2 99 rfl).1).trans (c5.2 99 rfl).1)
  obtain ⟨x3, y4, e1, e2, e3, e4, e5, e6, e7⟩ := lw2 (ls := ls) (v1 := Int32.ofNat b) (u := u) (w := w) o0 e15 z9 d6 Ld L 0 fu x2 y3 (tS k1) _ (by omega) (fu_lt (by omega)) xs a7 hQ (fun i _ => a6) d3 d4 ((fz_gI a4 rfl).trans li1) ((z1 rfl rfl rfl).trans li2) ((z1 rfl rfl rfl).trans hT.2.2.2.1) (fun j hj => by rw [(a4.2 53 rfl).1, z2]; exact li3 j hj)
  have f24 : fz WMW VMW y2 y4 := fz_tr (fz_sy f0) e4.2
  have p4 : aI y4 76 = upd (aI hM 76) b s := ((f24.2 76 rfl).1).trans c11
  have p4L : aL y4 76 = aL hM 76 := ((f24.2 76 rfl).2).trans c11L
  have g4 : gI y4 69 48 = aI hM 76 b := (fz_gI f24 rfl).trans c12
  have o5 : oS (uI y4 76 b (gI y4 69 48)) := oS_uI (cs := [76]) (t := nr_packed) (n := 2) rfl List.mem_cons_self e4.1
  have p5 : aI (uI y4 76 b (gI y4 69 48)) 76 = aI hM 76 := by
    rw [aI_uI (cs := [76]) (t := nr_packed) (n := 2) rfl List.mem_cons_self e4.1, p4, g4]
    funext j
    rw [upd_eq, upd_eq]
    by_cases e : j = b
    · rw [if_pos e, e]
    · rw [if_neg e, if_neg e]
  have p5L : aL (uI y4 76 b (gI y4 69 48)) 76 = aL hM 76 := aL_uI.trans p4L
  have f45 : fz W0 (fun c => Nat.beq c 76) y4 (uI y4 76 b (gI y4 69 48)) := fz_uI rfl
  have eT : fn_M_lets (Int32.ofNat b) s hM = (fn_M_comesBack (uI y4 76 b (gI y4 69 48))).bind fun q27 => bif px_cmp .ne (b01 (sLw h0 z ls L 0 (tS k1)).isSome) 0 then fn_M_lets_L108 q27 fu (Int64.ofNat 0) (Int32.ofInt 0) else some ((Int64.ofInt (-2)), q27) := by
    unfold fn_M_lets
    simp only [nm_inR b 2 b2 (by omega), nm_ofNat_clamp b (show b < 2147483648 by omega), cond_true, sb]
    rw [c1, Option.bind_some, c10, Option.bind_some, d1, Option.bind_some, d2, Option.bind_some]
    refine (show fn_M_lets_L44 (Int32.ofNat b) fu (Int32.ofInt 1) (Int32.ofInt 0) y3 = _ from e2).trans ?_
    unfold ltE
    rw [nm_inR b 2 b2 (by omega), cond_true, nm_ofNat_clamp b (by omega), sb_i]
  generalize uI y4 76 b (gI y4 69 48) = y5 at o5 p5 p5L f45 eT
  have k34 : gL y5 69 34 = gL y1 69 34 := (fz_gL f45 rfl).trans ((fz_gL f24 rfl).trans (fz_gL c9 rfl))
  have k35 : gL y5 69 35 = gL y1 69 35 := (fz_gL f45 rfl).trans ((fz_gL f24 rfl).trans (fz_gL c9 rfl))
  have k36 : gI y5 69 36 = gI y1 69 36 := (fz_gI f45 rfl).trans ((fz_gI f24 rfl).trans (fz_gI c9 rfl))
  obtain ⟨y6, r1, r2, r3, r4⟩ := restore (h := hM) (h5 := y1) (h9 := y5) hsp.1 hsp.2 c6 c7 c8 k34 k35 k36 o5
  have wt : ∀ {c k : Nat}, WTR c k = false → Wrm c k = false ∧ WMW c k = false ∧ (Nat.beq c 69 && Nat.beq k 48) = false := fun {c k} e => by
    unfold WTR WAS at e
    simp only [Bool.or_eq_false_iff] at e
    exact ⟨e.1.2, e.1.1, e.2⟩
  have v8 : ∀ {c : Nat}, V98 c = false → VMW c = false := fun {c} e => by
    unfold V98 at e
    simp only [Bool.or_eq_false_iff] at e
    exact e.1
  have f6 : fz WTR V76 hM y6 := by
    refine fz_tr (v76_a c5 (fun c k e => (wt e).1) (fun _ _ _ => rfl)) (fz_tr (v76_a c9 (fun c k e => ?_) (fun c e1 e2 => ?_)) (fz_tr (v76_a f24 (fun c k e => (wt e).2.1) (fun c e1 _ => v8 e1)) (fz_tr (v76_a f45 (fun _ _ _ => rfl) (fun c _ e2 => e2)) (v76_a r3 (fun c k e => ?_) (fun c e1 _ => ?_)))))
    · rcases wmw_c (wt e).2.1 with x | x
      · rw [x]; rfl
      · have := (wt e).2.2
        rw [x.1, x.2.1, x.2.2]
        simpa only [Bool.or_false] using this
    · unfold V8
      have := vmw_c (v8 e1)
      rw [this.1, this.2.1, this.2.2.1, e2]
      rfl
    · unfold W3n
      rcases wmw_c (wt e).2.1 with x | x
      · rw [x]; rfl
      · rw [x.1, x.2.1, x.2.2, Bool.or_self, Bool.or_self, Bool.and_false]
    · unfold VM
      have := vmw_c (v8 e1)
      rw [this.1, this.2.1, this.2.2.1]
      rfl
  have p6 : aI y6 76 = aI hM 76 := ((r3.2 76 rfl).1).trans p5
  have p6L : aL y6 76 = aL hM 76 := ((r3.2 76 rfl).2).trans p5L
  have f6' : fz WTR V98 hM y6 := ⟨f6.1, fun c hv => by
    by_cases x : c = 76
    · subst x
      exact ⟨p6, p6L⟩
    · refine f6.2 c ?_
      unfold V76
      rw [hv]
      cases hb : Nat.beq c 76 with
      | false => rfl
      | true => exact absurd (Nat.eq_of_beq_eq_true hb) x⟩
  have fX : fz WSU VBY hX x3 := fz_tr a4 (wsu_a (wby_a e5))
  rw [r1, Option.bind_some, cmp_b01n] at eT
  have e1 : fn_X_walkAsListed x2 = some (b01 (sLw h0 z ls L 0 (tS k1)).isSome, x3) := e1
  refine ⟨x2, x3, y6, a1, e1, ?_, e3, r2, fX, f6', r4, e6, fun E hE => ?_⟩
  · rw [eT]
    cases hS : sLw h0 z ls L 0 (tS k1) with
    | none => rfl
    | some E =>
      obtain ⟨-, m4⟩ := e7 E hS
      exact ls_M (MT_fz r3 rfl rfl rfl rfl (MT_fz f45 rfl rfl rfl rfl m4))
  · obtain ⟨q4, m4⟩ := e7 E hE
    exact ⟨q4, MT_fz r3 rfl rfl rfl rfl (MT_fz f45 rfl rfl rfl rfl m4)⟩
/-- the class, wherever it stands -/
theorem liX {x : px_H} (oX0 : oS hX0) (oM0 : oS hM0) (rp : RPt z dn ln hX0 hM0) (b2 : b < 2) (hs : sz z s) (Ld : L ≤ dn) (li : LIq L ls hX0 hM0) (ox : oS x) (f : fz WSU VBY hX0 x) (gt : GT x) :
    ∃ x2 x3, fn_X_supposePacked (Int32.ofNat b) s x = some x2 ∧ fn_X_walkAsListed x2 = some (b01 (rsL b hM0 z ls L s).isSome, x3) ∧ oS x3 ∧ fz WSU VBY hX0 x3 ∧ GT x3 ∧ ∀ E, rsL b hM0 z ls L s = some E → ∃ Q, XT Q E x3 := by
  obtain ⟨y1, y2, c1, c2, c3, c4, -⟩ := pre_ok (s := s) b2 oM0
  have eR : rsL b hM0 z ls L s = sLw y2 z ls L 0 (tS (kyOf y2)) := by
    unfold rsL
    rw [c2, Option.bind_some]
  have li' : LIq L ls x hM0 := ⟨li.1, (fz_gI f rfl).trans li.2.1, li.2.2.1, fun j hj => ⟨by rw [(f.2 53 rfl).1]; exact (li.2.2.2 j hj).1, (li.2.2.2 j hj).2⟩⟩
  obtain ⟨x2, x3, y7, q0, q1, q2, q3, q4, q5, q6, q7, q8, q9⟩ := let_2 (h0 := y2) (k1 := kyOf y2) ox oM0 (rp_f oX0 f fz_rf SM_rf rp) gt b2 hs Ld li' c4 (fun y2' hy => by
    rw [c2] at hy
    cases hy
    exact ⟨fz_rf, rfl⟩)
  rw [eR]
  exact ⟨x2, x3, q0, q1, q3, fz_tr f q5, q8, fun E hE => (q9 E hE).1⟩
/-- the model, wherever it stands -/
theorem liM {y : px_H} (oX0 : oS hX0) (oM0 : oS hM0) (gt0 : GT hX0) (rp : RPt z dn ln hX0 hM0) (b2 : b < 2) (hs : sz z s) (Ld : L ≤ dn) (li : LIq L ls hX0 hM0) (oy : oS y) (f : fz WTR V98 hM0 y) (sm' : SM hM0 y) :
    ∃ y7, fn_M_lets (Int32.ofNat b) s y = some (ltV (rsL b hM0 z ls L s), y7) ∧ oS y7 ∧ fz WTR V98 hM0 y7 ∧ SM hM0 y7 := by
  obtain ⟨y1, y2, c1, c2, c3, c4, -⟩ := pre_ok (s := s) b2 oM0
  have eR : rsL b hM0 z ls L s = sLw y2 z ls L 0 (tS (kyOf y2)) := by
    unfold rsL
    rw [c2, Option.bind_some]
  have li' : LIq L ls hX0 y := ⟨li.1, li.2.1, (fz_gI f rfl).trans li.2.2.1, fun j hj => ⟨(li.2.2.2 j hj).1, by rw [(f.2 99 rfl).1]; exact (li.2.2.2 j hj).2⟩⟩
  obtain ⟨x2, x3, y7, q0, q1, q2, q3, q4, q5, q6, q7, q8, q9⟩ := let_2 (h0 := y2) (k1 := kyOf y2) oX0 oy (rp_f oX0 fz_rf f sm' rp) gt0 b2 hs Ld li' c4 (fun y2' hy => pre_same b2 oM0 oy sm' f c2 hy)
  rw [eR]
  exact ⟨y7, q2, q4, fz_tr f q6, SMtr sm' q7⟩
theorem rsL_w {E : TB} (h : rsL b hM0 z ls L s = some E) : 0 ≤ (sSum E).toInt := by
  unfold rsL at h
  obtain ⟨y2, h2, h⟩ := bd_e h
  have n1 : nn (tS (kyOf y2)) := fun i _ => (by decide : (0 : Int) ≤ (Int64.ofInt 1000000000000).toInt)
  have t1 : tw (tS (kyOf y2)) = 1000000000000 := by
    show (0 : Int) + (Int64.ofInt 1000000000000).toInt = _
    decide
  obtain ⟨a1, a2⟩ := sLw_w L 0 _ E n1 (by omega) h
  rw [sSum_w a1 (by omega)]
  exact nn_0 a1
noncomputable def okL (b : Nat) (hM0 : px_H) (z : Nat) (ls : Nat → Int32) (L : Nat) (q a : Int32) (x : Nat) : Nat := bif (rsL b hM0 z ls L (pkS q a x)).isSome then 0 else 1
noncomputable def htL (b : Nat) (hM0 : px_H) (z : Nat) (ls : Nat → Int32) (L : Nat) (q a : Int32) (x : Nat) : Nat := match rsL b hM0 z ls L (pkS q a x) with
  | none => 0
  | some E => bif decide (E.1 = 0) then 0 else 1
section tb_Z1
theorem oldX (oX0 : oS hX0) (oM0 : oS hM0) (rp : RPt z dn ln hX0 hM0) (b2 : b < 2) (hz : sz z (Int32.ofNat A)) (Ld : L ≤ dn) (li : LIq L ls hX0 hM0) : ∀ (k N c : Nat) (v4 v5 : Int32) (x : px_H), k ≤ 64 → k < N → oS x → fz WSU VBY hX0 x → GT x → ∃ hX', fn_X_old_L41 (Int32.ofNat b) (Int32.ofNat A) N (Int32.ofNat c) v4 v5 (wy k) x = some (ansF (suN (fun w => okL b hM0 z ls L (aI hM0 76 b) (Int32.ofNat A) (sp (ib (Int32.ofNat A)) 10 0 w)) k) (Int32.ofNat (c + suN (fun w => htL b hM0 z ls L (aI hM0 76 b) (Int32.ofNat A) (sp (ib (Int32.ofNat A)) 10 0 w)) k)), hX') ∧ GT hX' := by
  intro k
  induction k with
  | zero =>
    intro N c v4 v5 x _ hN ox f gt
    obtain ⟨N, rfl⟩ : ∃ k, N = k + 1 := ⟨N - 1, by omega⟩
    obtain ⟨x4, x5, t1, t2, t3⟩ := tell2X ox oM0 gt (Int64.ofNat 0) v5.toInt64
    obtain ⟨x6, x7, r1, r2, r3⟩ := tell2X ox oM0 gt v4.toInt64 v5.toInt64
    show ∃ hX', fb_X_old_L41 (Int32.ofNat b) (Int32.ofNat A) (fn_X_old_L41 (Int32.ofNat b) (Int32.ofNat A) N) (Int32.ofNat c) v4 v5 (Int32.ofInt (-1)) x = _ ∧ _
    unfold fb_X_old_L41
    rw [show px_cmp .lt (Int32.ofInt (-1)) 0 = true from by decide, cond_true]
    refine bif_ex ⟨x5, ?_, t3⟩ ⟨x7, ?_, r3⟩
    · rw [t1, Option.bind_some, t2]
      exact ans_0
    · rw [r1, Option.bind_some, r2]
      exact ans_0
  | succ k ih =>
    intro N c v4 v5 x hk hN ox f gt
    obtain ⟨N, rfl⟩ : ∃ k, N = k + 1 := ⟨N - 1, by omega⟩
    have z76' : sz z (aI hM0 76 b) := (rp.1.2.2.2.2.2.2.2.1 b b2).2.2
    have e76' : aI x 7 b = aI hM0 76 b := by
      rw [(f.2 7 rfl).1]
      exact (rp.1.2.2.2.2.2.2.2.1 b b2).1
    have hs' : sz z (pkS (aI hM0 76 b) (Int32.ofNat A) (sp (ib (Int32.ofNat A)) 10 0 k)) := spk_sz z76' hz
    obtain ⟨x2, x3, q0, q1, q2, q3, q4, q5⟩ := liX oX0 oM0 rp b2 hs' Ld li ox f gt
    show ∃ hX', fb_X_old_L41 (Int32.ofNat b) (Int32.ofNat A) (fn_X_old_L41 (Int32.ofNat b) (Int32.ofNat A) N) (Int32.ofNat c) v4 v5 (Int32.ofNat k) x = _ ∧ _
    unfold fb_X_old_L41
    rw [(wy_s (show k ≤ 1024 by omega)).2.2, cond_false, pk_X b2 (show k < 64 by omega), Option.bind_some, e76', q0, Option.bind_some, q1, Option.bind_some, (wy_s (show k ≤ 1024 by omega)).1, cmp_b01n]
    show ∃ hX', _ = some (ansF (suN (fun w => okL b hM0 z ls L (aI hM0 76 b) (Int32.ofNat A) (sp (ib (Int32.ofNat A)) 10 0 w)) k + okL b hM0 z ls L (aI hM0 76 b) (Int32.ofNat A) (sp (ib (Int32.ofNat A)) 10 0 k)) (Int32.ofNat (c + (suN (fun w => htL b hM0 z ls L (aI hM0 76 b) (Int32.ofNat A) (sp (ib (Int32.ofNat A)) 10 0 w)) k + htL b hM0 z ls L (aI hM0 76 b) (Int32.ofNat A) (sp (ib (Int32.ofNat A)) 10 0 k)))), hX') ∧ _
    unfold okL htL
    cases hr : rsL b hM0 z ls L (pkS (aI hM0 76 b) (Int32.ofNat A) (sp (ib (Int32.ofNat A)) 10 0 k)) with
    | none =>
      exact ⟨x3, ans_X, q4⟩
    | some E =>
      obtain ⟨Q, xt⟩ := q5 E hr
      obtain ⟨s1, s2⟩ := XT_size xt
      have key : ∀ c v4 v5, ∃ hX', fn_X_old_L41 (Int32.ofNat b) (Int32.ofNat A) N (Int32.ofNat c) v4 v5 (wy k) x3 = some (ansF (suN (fun w => okL b hM0 z ls L (aI hM0 76 b) (Int32.ofNat A) (sp (ib (Int32.ofNat A)) 10 0 w)) k + 0) (Int32.ofNat (c + suN (fun w => htL b hM0 z ls L (aI hM0 76 b) (Int32.ofNat A) (sp (ib (Int32.ofNat A)) 10 0 w)) k)), hX') ∧ GT hX' := fun c v4 v5 => ih N c v4 v5 x3 (by omega) (by omega) q2 q3 q4
      have key1 := key (c + 1)
      rw [show ∀ t, c + 1 + t = c + (t + 1) from fun t => by omega] at key1
      have e0 : px_cmp .le (gI x3 (gR x3 28 2) 3) 0 = decide (E.1 = 0) := by
        rw [s1, cmp_le, nm_ofNat_toInt _ (by omega), show (0 : Int32).toInt = 0 from by decide]
        simp only [decide_eq_decide]
        omega
      show ∃ hX', (bif px_cmp .le (gI x3 (gR x3 28 2) 3) 0 then _ else _) = some (ansF (_ + 0) (Int32.ofNat (c + (_ + bif decide (E.1 = 0) then 0 else 1))), hX') ∧ _
      rw [e0, inc1]
      cases decide (E.1 = 0) with
      | true => exact key c _ _
      | false => exact key1 _ _
theorem oldM (oX0 : oS hX0) (oM0 : oS hM0) (rp : RPt z dn ln hX0 hM0) (b2 : b < 2) (hz : sz z (Int32.ofNat A)) (Ld : L ≤ dn) (li : LIq L ls hX0 hM0) (gt0 : GT hX0) (hA : A < 1024) : ∀ (k v N c : Nat) (v4 v5 : Int32) (y : px_H), v + k = A + 1 → k < N → oS y → fz WTR V98 hM0 y → SM hM0 y → ∃ hM', fn_M_old_L53 (Int32.ofNat b) (Int32.ofNat A) N (Int32.ofNat c) v4 v5 (Int32.ofNat v) y = some (ansF (tf (fun v => bif sub_ (ib (Int32.ofNat A)) 10 0 v then okL b hM0 z ls L (aI hM0 76 b) (Int32.ofNat A) v else 0) k v) (Int32.ofNat (c + tf (fun v => bif sub_ (ib (Int32.ofNat A)) 10 0 v then htL b hM0 z ls L (aI hM0 76 b) (Int32.ofNat A) v else 0) k v)), hM') ∧ True := by
  intro k
  induction k with
  | zero =>
    intro v N c v4 v5 y hv hN oy f sm'
    obtain ⟨N, rfl⟩ : ∃ k, N = k + 1 := ⟨N - 1, by omega⟩
    obtain ⟨y4, y5, t1, t2⟩ := tell2M oX0 oy v4.toInt64 v5.toInt64
    obtain ⟨y6, y7, r1, r2⟩ := tell2M oX0 oy (Int64.ofNat 0) v5.toInt64
    show ∃ hM', fb_M_old_L53 (Int32.ofNat b) (Int32.ofNat A) (fn_M_old_L53 (Int32.ofNat b) (Int32.ofNat A) N) (Int32.ofNat c) v4 v5 (Int32.ofNat v) y = _ ∧ _
    unfold fb_M_old_L53
    rw [show v = A + 1 from by omega, gt_t (by omega), cond_true, sb_i]
    refine bif_ex ⟨y5, ?_, trivial⟩ ⟨y7, ?_, trivial⟩
    · rw [t1, Option.bind_some, t2]
      exact ans_0
    · rw [r1, Option.bind_some, r2]
      exact ans_0
  | succ k ih =>
    intro v N c v4 v5 y hv hN oy f sm'
    obtain ⟨N, rfl⟩ : ∃ k, N = k + 1 := ⟨N - 1, by omega⟩
    have z76' : sz z (aI hM0 76 b) := (rp.1.2.2.2.2.2.2.2.1 b b2).2.2
    show ∃ hM', fb_M_old_L53 (Int32.ofNat b) (Int32.ofNat A) (fn_M_old_L53 (Int32.ofNat b) (Int32.ofNat A) N) (Int32.ofNat c) v4 v5 (Int32.ofNat v) y = _ ∧ _
    unfold fb_M_old_L53
    rw [gt_f (show v ≤ A by omega) (by omega), cond_false, sub_M (show v < 1024 by omega), inc1]
    show ∃ hM', _ = some (ansF ((bif sub_ (ib (Int32.ofNat A)) 10 0 v then okL b hM0 z ls L (aI hM0 76 b) (Int32.ofNat A) v else 0) + tf (fun v => bif sub_ (ib (Int32.ofNat A)) 10 0 v then okL b hM0 z ls L (aI hM0 76 b) (Int32.ofNat A) v else 0) k (v + 1)) (Int32.ofNat (c + ((bif sub_ (ib (Int32.ofNat A)) 10 0 v then htL b hM0 z ls L (aI hM0 76 b) (Int32.ofNat A) v else 0) + tf (fun v => bif sub_ (ib (Int32.ofNat A)) 10 0 v then htL b hM0 z ls L (aI hM0 76 b) (Int32.ofNat A) v else 0) k (v + 1)))), hM') ∧ _
    cases hsub : sub_ (ib (Int32.ofNat A)) 10 0 v with
    | false =>
      rw [cond_false, cond_false, cond_false, Nat.zero_add, Nat.zero_add]
      exact ih (v + 1) N c v4 v5 y (by omega) (by omega) oy f sm'
    | true =>
      have hs' : sz z (pkS (aI hM0 76 b) (Int32.ofNat A) v) := pk_sz rp.1.1 z76' hz (by omega) hsub
      obtain ⟨y7, q1, q2, q3, q4⟩ := liM oX0 oM0 gt0 rp b2 hs' Ld li oy f sm'
      rw [cond_true, cond_true, cond_true, pk_M b2 v, Option.bind_some, (f.2 76 rfl).1, q1, Option.bind_some]
      unfold okL htL
      cases hr : rsL b hM0 z ls L (pkS (aI hM0 76 b) (Int32.ofNat A) v) with
      | none =>
        refine ⟨y7, ?_, trivial⟩
        rw [lv_n]
        exact ans_M
      | some E =>
        obtain ⟨v1, v2⟩ := lv_s (rsL_w hr)
        have key : ∀ c v4 v5, ∃ hM', fn_M_old_L53 (Int32.ofNat b) (Int32.ofNat A) N (Int32.ofNat c) v4 v5 (Int32.ofNat (v + 1)) y7 = some (ansF (0 + tf (fun v => bif sub_ (ib (Int32.ofNat A)) 10 0 v then okL b hM0 z ls L (aI hM0 76 b) (Int32.ofNat A) v else 0) k (v + 1)) (Int32.ofNat (c + tf (fun v => bif sub_ (ib (Int32.ofNat A)) 10 0 v then htL b hM0 z ls L (aI hM0 76 b) (Int32.ofNat A) v else 0) k (v + 1))), hM') ∧ True := fun c v4 v5 => by
          rw [Nat.zero_add]
          exact ih (v + 1) N c v4 v5 y7 (by omega) (by omega) q2 q3 q4
        have key1 := key (c + 1)
        rw [show ∀ t, c + 1 + t = c + (1 + t) from fun t => by omega] at key1
        show ∃ hM', (bif px_cmp .ne (lg_cmp (ltV (some E)) (Int64.ofInt (-2))) 0 then bif px_cmp .lt (lg_cmp (ltV (some E)) (Int64.ofNat 0)) 0 then _ else _ else _) = some (ansF (0 + _) (Int32.ofNat (c + ((bif decide (E.1 = 0) then 0 else 1) + _))), hM') ∧ _
        rw [v1, cond_true, v2, inc1]
        cases decide (E.1 = 0) with
        | true =>
          have key0 := key c
          rw [show ∀ t, c + t = c + (0 + t) from fun t => by omega] at key0
          exact key0 _ _
        | false => exact key1 _ _
end tb_Z1
theorem sim_old (oX : oS hX) (oM : oS hM) (hR : RLz z dn nx ln hX hM) (gt : GT hX) (li : LIq L ls hX hM) (a1 a2 : Int32) : ∃ (v : Int32) (hX' hM' : px_H), fn_X_old a1 a2 hX = some (v, hX') ∧ fn_M_old a1 a2 hM = some (v, hM') ∧ GT hX' := by
  obtain ⟨hR1, o1, -⟩ := RLz_thr' (l := 0) hR oM
  have li1 : LIq L ls hX (wF hM 69 0 (.int (Int32.ofInt 0))) := ⟨li.1, li.2.1, (gI_wF_ne (by decide)).trans li.2.2.1, fun j hj => ⟨(li.2.2.2 j hj).1, by rw [aI_wF]; exact (li.2.2.2 j hj).2⟩⟩
  unfold fn_X_old fn_M_old
  rw [sb_i]
  generalize wF hM 69 0 (.int (Int32.ofInt 0)) = m1 at hR1 o1 li1 ⊢
  have hT := hR1.1
  have z9 := hT.1
  have d6 := hT.2.1
  have L6 := li.1
  rw [gd_canPack hT.2.2.1 z9, gd_MisBag, gd_isSet hT.2.2.2.1 z9, Option.bind_some, Option.bind_some, Option.bind_some, cmp_b01, cmp_b01, cmp_b01, li1.2.1, li1.2.2.1, hT.2.2.2.2.1, hT.2.2.2.2.2.1]
  cases hc : cP a1 a2 z with
  | false =>
    refine ⟨_, hX, m1, rfl, ?_, gt⟩
    revert hc
    unfold cP
    cases inN a1 2 <;> cases inS a2 z <;> cases px_cmp .gt (nm_bc a2) (Int8.ofInt 6).toInt32 <;> intro hc <;> first | rfl | cases hc
  | true =>
    have hc' := hc
    unfold cP at hc'
    simp only [Bool.and_eq_true, Bool.not_eq_true'] at hc'
    obtain ⟨c1, c2, c3⟩ := hc'
    rw [c1, c2, c3]
    cases hl : px_cmp .le (Int32.ofNat L) (Int32.ofNat dn) with
    | false => exact ⟨_, hX, m1, rfl, rfl, gt⟩
    | true =>
      rw [cmp_le, nm_ofNat_toInt L (by omega), nm_ofNat_toInt dn (by omega)] at hl
      have Ld : L ≤ dn := by have := of_decide_eq_true hl; omega
      obtain ⟨b, A, b2, hA, rfl, rfl, hz, n6⟩ := cP_t z9 hc
      have rp := rp_of oX hR1
      have h64 : 2 ^ nbM (ib (Int32.ofNat A)) 10 0 ≤ 64 := Nat.pow_le_pow_right (n := 2) (by decide) n6
      obtain ⟨x9, e1, e2⟩ := oldX oX o1 rp b2 hz Ld li1 _ fu 0 (Int16.ofInt 1023).toInt32 (Int32.ofInt 0) hX h64 (fu_lt (by omega)) oX fz_rf gt
      obtain ⟨y9, e3, -⟩ := oldM oX o1 rp b2 hz Ld li1 gt hA (A + 1) 0 fu 0 (Int32.ofInt (-1)) (Int32.ofInt 0) m1 (by omega) (fu_lt (by omega)) o1 fz_rf SM_rf
      rw [two_su hA (okL b m1 z ls L (aI m1 76 b) (Int32.ofNat A)), two_su hA (htL b m1 z ls L (aI m1 76 b) (Int32.ofNat A))] at e1
      refine ⟨_, x9, y9, ?_, e3, e2⟩
      rw [Bool.not_true, cond_false, cond_true, fw_ok (sz_sm z9 hz), Option.bind_some]
      exact e1
theorem sim_seldom (oX : oS hX) (oM : oS hM) (hR : RLz z dn nx ln hX hM) (gt : GT hX) (hW : RWq l hX hM) (li : LIq L ls hX hM) : ∃ (v : Int32) (hX' hM' : px_H), fn_X_seldom hX = some (v, hX') ∧ fn_M_seldom hM = some (v, hM') ∧ QR l hX' hM' := by
  obtain ⟨hR1, o1, hW1⟩ := RLz_thr' hR oM
  have hW1 := hW1 hW
  have li1 : LIq L ls hX (wF hM 69 0 (.int (Int32.ofInt 0))) := ⟨li.1, li.2.1, (gI_wF_ne (by decide)).trans li.2.2.1, fun j hj => ⟨(li.2.2.2 j hj).1, by rw [aI_wF]; exact (li.2.2.2 j hj).2⟩⟩
  unfold fn_X_seldom fn_M_seldom
  rw [sb_i]
  generalize wF hM 69 0 (.int (Int32.ofInt 0)) = m1 at hR1 o1 hW1 li1 ⊢
  have hT := hR1.1
  have z9 := hT.1
  have d6 := hT.2.1
  have L6 := li.1
  have e7 := (hT.2.2.2.2.2.2.2.1 0 (by omega)).1
  have hs := (hT.2.2.2.2.2.2.2.1 0 (by omega)).2.2
  rw [li1.2.1, li1.2.2.1, hT.2.2.2.2.1, hT.2.2.2.2.2.1, show (Int32.ofInt 0).toNatClampNeg = 0 from rfl, e7]
  cases hl : px_cmp .le (Int32.ofNat L) (Int32.ofNat dn) with
  | false => exact ⟨_, hX, m1, rfl, rfl, gt, hW1⟩
  | true =>
    rw [cmp_le, nm_ofNat_toInt L (by omega), nm_ofNat_toInt dn (by omega)] at hl
    have Ld : L ≤ dn := by have := of_decide_eq_true hl; omega
    have rp := rp_of oX hR1
    obtain ⟨x2, x3, q0, q1, q2, q3, q4, q5⟩ := liX oX o1 rp (b := 0) (by omega) hs Ld li1 oX fz_rf gt
    obtain ⟨y7, r1, r2, r3, r4⟩ := liM oX o1 gt rp (b := 0) (by omega) hs Ld li1 o1 fz_rf SM_rf
    have q0 : fn_X_supposePacked (Int32.ofInt 0) (aI m1 76 0) hX = some x2 := q0
    have r1 : fn_M_lets (Int32.ofInt 0) (aI m1 76 0) m1 = some _ := r1
    rw [cond_true, cond_true, q0, Option.bind_some, q1, Option.bind_some, r1, Option.bind_some, cmp_b01n]
    have hw3 : RWq l x3 y7 := RWq_k q3 r3 rfl rfl rfl rfl hW1
    cases hr : rsL 0 m1 z ls L (aI m1 76 0) with
    | none =>
      refine ⟨_, x3, y7, rfl, ?_, q4, hw3⟩
      rw [lv_n]
      rfl
    | some E =>
      obtain ⟨v1, v2⟩ := lv_s (rsL_w hr)
      obtain ⟨Q, a, bb, e, g, rf, c1, c2, cE⟩ := q5 E hr
      obtain ⟨x5, y5, t1, t2, t3, t4, t5, t6, t7⟩ := tell1 q2 r2 (sSum E)
      have eV : (if ltV (some E) < (Int64.ofNat 0) then (Int64.ofNat 0) else ltV (some E)) = sSum E := by
        by_cases x : E.1 = 0
        · rw [show ltV (some E) = Int64.ofInt (-1) from if_pos x, if_pos (by decide)]
          unfold sSum
          rw [x]
          rfl
        · rw [show ltV (some E) = sSum E from if_neg x, if_neg (fun y => by
            have := Int64.lt_iff_toInt_lt.mp y
            have h0 := rsL_w hr
            rw [show (Int64.ofNat 0).toInt = 0 from by decide] at this
            omega)]
      refine ⟨Int32.ofInt 0, x5, y5, ?_, ?_, GT_w48 t5 ⟨Q, E, a, bb, e, g, rf, c1, c2, cE⟩, _, RWs_v t7⟩
      · show (fn_Walk_chanceOfAll x3).bind _ = _
        rw [all_X q2 g.2.2.1 rf.2.2 cE, Option.bind_some, t1]
        rfl
      · rw [v1, cond_true, sb_i, eV, t2]
        rfl
end tb_Z
end mg_3

section mg_4
/-! questions: war, fair -/
section tb_AA
variable {h hX hM hX' hM' h0 : px_H} {z dn nx ln D r rc l : Nat} {u : Int64} {w : Int32} {y : TB × Int64 × Int64}
theorem SM_f {W : Nat → Nat → Bool} {V : Nat → Bool} (f : fz W V hM hM') (w1 : W 69 31 = false) (w2 : W 69 32 = false) (w3 : W 69 33 = false) (v1 : V 88 = false) (v2 : V 89 = false) (v3 : V 90 = false) : SM hM hM' :=
  ⟨⟨by rw [(f.2 88 v1).1], by rw [(f.2 88 v1).1], by rw [(f.2 89 v2).1], by rw [(f.2 89 v2).1], fz_gI f w2, fz_gI f w3⟩, fun p _ => by rw [(f.2 90 v3).1], fz_gI f w1⟩
theorem CL_SM (e0 : gL hX' 19 0 = gL hX 19 0) (e1 : gI hX' 19 1 = gI hX 19 1) (s : SM hM hM') (h : CL z nx 19 hX hM) : CL z nx 19 hX' hM' := by
  obtain ⟨⟨s1, s2, s3, s4, s5, s6⟩, s7, s8⟩ := s
  obtain ⟨⟨h1, h2, h3, h4, h5, h6, h7⟩, h8, h9⟩ := h
  refine ⟨⟨by rw [e0, s1]; exact h1, by rw [e0, s2]; exact h2, by rw [e0, s3]; exact h3, by rw [e0, s4]; exact h4, by rw [e0]; exact h5, s5.trans h6, s6.trans h7⟩, fun p hp => by rw [e1, s7 p hp]; exact h8 p hp, fun j hj => ?_⟩
  match j, hj with
  | 0, _ => exact ⟨by rw [s1]; exact (h9 0 (by omega)).1, by rw [s3]; exact (h9 0 (by omega)).2⟩
  | 1, _ => exact ⟨by rw [s2]; exact (h9 1 (by omega)).1, by rw [s4]; exact (h9 1 (by omega)).2⟩
  | j + 2, h => omega
theorem rl_by (hS : oS h) {rc : Nat} (hr : rc ∈ ruls) : VBY (gR h rc 0) = false ∧ VBY (gR h rc 1) = false ∧ VBY (gR h rc 2) = false := by
  obtain ⟨-, -, -, m0⟩ := bR_ok (cs := ruls) (ci := 3) (k := 0) (ds := [15, 23, 55, 59, 63]) (a := rc) rfl hr hS
  obtain ⟨-, -, -, m1⟩ := bR_ok (cs := ruls) (ci := 3) (k := 1) (ds := [16, 24, 56, 60, 64]) (a := rc) rfl hr hS
  obtain ⟨-, -, -, m2⟩ := bR_ok (cs := ruls) (ci := 3) (k := 2) (ds := [17, 25, 57, 61, 65]) (a := rc) rfl hr hS
  exact ⟨all_f (q := fun x => VBY x) rfl _ m0, all_f (q := fun x => VBY x) rfl _ m1, all_f (q := fun x => VBY x) rfl _ m2⟩
theorem rl_wby {rc : Nat} (hr : rc ∈ ruls) (k : Nat) (h3 : k ≤ 3) : WBY rc k = false := by
  have : ∀ k, k ≤ 3 → ∀ x, x ∈ ruls → WBY x k = false := fun k hk => by
    match k, hk with
    | 0, _ => exact all_f (q := fun x => WBY x 0) rfl
    | 1, _ => exact all_f (q := fun x => WBY x 1) rfl
    | 2, _ => exact all_f (q := fun x => WBY x 2) rfl
    | 3, _ => exact all_f (q := fun x => WBY x 3) rfl
    | k + 4, h => omega
  exact this k h3 rc hr
theorem RR_by (oX : oS hX) (hrc : rc ∈ ruls) (f : fz WBY VBY hX hX') (h : RR rc r ln hX hM) : RR rc r ln hX' hM := by
  obtain ⟨l7, r4, r1, r2, r3⟩ := h
  obtain ⟨v0, v1, v2⟩ := rl_by oX hrc
  refine ⟨l7, r4, (fz_gI f (rl_wby hrc 3 (by omega))).trans r1, r2, fun k hk => ?_⟩
  rw [fz_gR f (rl_wby hrc 0 (by omega)), fz_gR f (rl_wby hrc 1 (by omega)), fz_gR f (rl_wby hrc 2 (by omega)), (f.2 _ v0).1, (f.2 _ v1).1, (f.2 _ v2).1]
  exact r3 k hk
theorem sbw_M {s : Nat} (d6 : D < 6) (s9 : s < 100) (hs : aI hM 80 D = Int32.ofNat s) (hA : AQ z D u w y hX hM) : fn_M_sumBelow (Int32.ofNat D) hM = some (sLe z D y s 0 (Int64.ofNat 0)) := by
  have L : ∀ (m v N : Nat) (acc : Int64), v + m = s → m < N → fn_M_sumBelow_L5 (Int32.ofNat D) hM N acc (Int32.ofNat v) = some (sLe z D y m v acc) := by
    intro m
    induction m with
    | zero =>
      intro v N acc hv hN
      obtain ⟨N, rfl⟩ : ∃ k, N = k + 1 := ⟨N - 1, by omega⟩
      show fb_M_sumBelow_L5 (Int32.ofNat D) hM (fn_M_sumBelow_L5 (Int32.ofNat D) hM N) acc (Int32.ofNat v) = _
      unfold fb_M_sumBelow_L5
      rw [nm_inR D 6 d6 (by omega), cond_true, nm_ofNat_clamp D (by omega), hs, show v = s from by omega, ge_t, cond_true]
      rfl
    | succ m ih =>
      intro v N acc hv hN
      obtain ⟨N, rfl⟩ : ∃ k, N = k + 1 := ⟨N - 1, by omega⟩
      show fb_M_sumBelow_L5 (Int32.ofNat D) hM (fn_M_sumBelow_L5 (Int32.ofNat D) hM N) acc (Int32.ofNat v) = _
      unfold fb_M_sumBelow_L5
      rw [nm_inR D 6 d6 (by omega), cond_true, nm_ofNat_clamp D (by omega), hs, ge_f (show v < s by omega) (by omega), cond_false, aq_filM hA, Option.bind_some, inc1]
      exact ih (v + 1) N _ (by omega) (by omega)
  unfold fn_M_sumBelow
  exact L s 0 fu _ (by omega) (fu_lt (by omega))
def W20 (c k : Nat) : Bool := Nat.beq c 69 && Nat.beq k 20
def W15 (c k : Nat) : Bool := Nat.beq c 69 && Nat.beq k 15
theorem AQ_20 (f : fz W20 V0 hM hM') (hA : AQ z D u w y hX hM) : AQ z D u w y hX hM' := by
  obtain ⟨⟨w1, w2, w3, w4, w5, w6, w7, w8, w9⟩, w10⟩ := hA
  exact ⟨⟨w1, MT_fz f rfl rfl rfl rfl w2, w3, w4, w5, w6, (fz_gL f rfl).trans w7, (fz_gL f rfl).trans w8, w9⟩, fun j hj => by rw [(f.2 98 rfl).1]; exact w10 j hj⟩
theorem less_XX {s : Nat} (z9 : z ≤ 10) (s9 : s < 100) (o : oS hX) (hA : AQ z D u w y hX hM) : fn_Walk_chanceOfLess (Int32.ofNat s) hX = some (sLe z D y s 0 (Int64.ofNat 0)) := less_X z9 s9 o hA s 0 fu (Int64.ofNat 0) (by omega) (fu_lt (by omega))
theorem sim_war (oX : oS hX) (oM : oS hM) (hR : RLz z dn nx ln hX hM) (s8 : ∀ d, d < 6 → (aI hM 80 d).toInt ≤ 3) (gt : GT hX) (hW : RWq l hX hM) (a1 a2 : Int32) : ∃ (v : Int32) (hX' hM' : px_H), fn_X_war a1 a2 hX = some (v, hX') ∧ fn_M_war a1 a2 hM = some (v, hM') ∧ QR l hX' hM' := by
  obtain ⟨hR1, o1, hW1⟩ := RLz_thr' hR oM
  have hW1 := hW1 hW
  have s8 : ∀ d, d < 6 → (aI (wF hM 69 0 (.int (Int32.ofInt 0))) 80 d).toInt ≤ 3 := fun d hd => by rw [aI_wF]; exact s8 d hd
  unfold fn_X_war fn_M_war
  rw [sb_i]
  generalize wF hM 69 0 (.int (Int32.ofInt 0)) = m1 at hR1 o1 hW1 s8 ⊢
  have hR2 := hR1
  obtain ⟨hT, h2, h3, hC, ⟨n6, hn1, hn2⟩, h8, ⟨h9, h10⟩, h11⟩ := hR2
  have z9 := hT.1
  rw [gd_hasAll hT.2.2.1 z9, gd_isSet hT.2.2.2.1 z9, Option.bind_some, Option.bind_some, cmp_b01, (gd_ahead hR1 a2).1, (gd_ahead hR1 a2).2, Option.bind_some, Option.bind_some, cmp_b01n]
  cases hs : inS a1 z with
  | false => exact ⟨_, hX, m1, rfl, rfl, gt, hW1⟩
  | true =>
    rw [Bool.not_true, cond_false, cond_false]
    cases ha : ahd nx dn a2 with
    | false => exact ⟨_, hX, m1, rfl, rfl, gt, hW1⟩
    | true =>
      obtain ⟨D, nD, hD, rfl⟩ := ahd_t ha
      have D6 : D < 6 := by have := hT.2.1; omega
      obtain ⟨-, -, e11, e0, -⟩ := hT.2.2.2.2.2.2.2.2 D D6
      obtain ⟨s, hs3, es⟩ : ∃ s : Nat, s ≤ 3 ∧ aI m1 80 D = Int32.ofNat s := by
        obtain ⟨s, hs, es⟩ := nat_of (a := aI m1 80 D) (n := 4) e0 (by have := s8 D D6; omega)
        exact ⟨s, by omega, es⟩
      have e11 : aI hX 11 D = Int32.ofNat s := e11.trans es
      rw [cond_true, cond_true, nm_inR D 6 D6 (by omega), cond_true, sb_i, nm_ofNat_clamp D (by omega), e11]
      have oN : oS (wF m1 69 20 (.int a1)) := oS_wI (cs := [69]) (ci := 9) rfl List.mem_cons_self o1
      have fN : fz W20 V0 m1 (wF m1 69 20 (.int a1)) := fz_wF rfl
      have gN : gI (wF m1 69 20 (.int a1)) 69 20 = a1 := gI_wF (cs := [69]) (ci := 9) rfl List.mem_cons_self o1
      generalize wF m1 69 20 (.int a1) = mN at oN fN gN ⊢
      have sN := SM_f fN rfl rfl rfl rfl rfl rfl
      have tN : TR z dn hX mN := TR_k (fz_rf (W := W0) (V := V0)) fN (by decide) (by decide) hT
      have rN : RR 14 0 ln hX mN := RR_m fN rfl rfl rfl (RR_of oX h3)
      have cN : CL z nx 19 hX mN := CL_SM rfl rfl sN hC
      obtain ⟨h0, x1, y1, b1, b2, b3, b4, b5, b6, b7, b8, b9, -⟩ := aw2 (rc := 14) (r := 0) (a := a1) (by decide) oX oN tN rN ((fz_gI fN rfl).trans h9) (fun p _ => by rw [gN]) cN n6 hn1 ((fz_gI fN rfl).trans hn2) gt nD hD
      rw [b1, b2, Option.bind_some, Option.bind_some, cmp_b01n]
      have oQ : oS (wF y1 69 20 (.int (Int32.ofInt 0))) := oS_wI (cs := [69]) (ci := 9) rfl List.mem_cons_self b4
      have fQ : fz W20 V0 y1 (wF y1 69 20 (.int (Int32.ofInt 0))) := fz_wF rfl
      have gQ : gI (wF y1 69 20 (.int (Int32.ofInt 0))) 69 20 = Int32.ofInt 0 := gI_wF (cs := [69]) (ci := 9) rfl List.mem_cons_self b4
      have hw1 : RWq l x1 (wF y1 69 20 (.int (Int32.ofInt 0))) := RWq_k (fz_rf (W := W0) (V := V0)) fQ rfl rfl rfl rfl (RWq_by b5 b6 (RWq_k (fz_rf (W := W0) (V := V0)) fN rfl rfl rfl rfl hW1))
      show ∃ (v : Int32) (hX' hM' : px_H), (bif (sWk h0 (D - nx + 1) nx (x0S (kyOf mN))).isSome then _ else _) = some (v, hX') ∧ (sb (wF y1 69 20 (.int (Int32.ofInt 0))) fun h17 => _) = some (v, hM') ∧ _
      rw [sb_i]
      generalize wF y1 69 20 (.int (Int32.ofInt 0)) = mQ at oQ fQ gQ hw1 ⊢
      cases hS : sWk h0 (D - nx + 1) nx (x0S (kyOf mN)) with
      | none => exact ⟨_, x1, mQ, rfl, rfl, b8, hw1⟩
      | some yy =>
        have A1 := AQ_20 fQ (b9 yy hS)
        have tQ : TR z dn x1 mQ := TR_k (fz_rf (W := W0) (V := V0)) fQ (by decide) (by decide) (TR_k b5 b6 (by decide) (by decide) tN)
        have rQ : RR 14 0 ln x1 mQ := RR_m fQ rfl rfl rfl (RR_m b6 rfl rfl rfl (RR_by oX (by decide) b5 rN))
        have cQ : CL z nx 19 x1 mQ := CL_SM (fz_gL b5 rfl) (fz_gI b5 rfl) (SMtr b7 (SM_f fQ rfl rfl rfl rfl rfl rfl)) cN
        have f15 : gI mQ 69 15 = Int32.ofInt 0 := (fz_gI fQ rfl).trans ((fz_gI b6 rfl).trans ((fz_gI fN rfl).trans h9))
        have f31 : gI mQ 69 31 = Int32.ofNat nx := (fz_gI fQ rfl).trans (b7.2.2.trans ((fz_gI fN rfl).trans hn2))
        obtain ⟨h0', x2, y2, c1, c2, c3, c4, c5, c6, c7, c8, c9, -⟩ := aw2 (rc := 14) (r := 0) (a := Int32.ofInt 0) (by decide) b3 oQ tQ rQ f15 (fun p _ => by rw [gQ]) cQ n6 ((fz_gI b5 rfl).trans hn1) f31 b8 nD hD
        have k80 : aI mQ 80 D = Int32.ofNat s := by rw [(fQ.2 80 rfl).1, (b6.2 80 rfl).1, (fN.2 80 rfl).1]; exact es
        have hw2 : RWq l x2 y2 := RWq_by c5 c6 hw1
        show ∃ (v : Int32) (hX' hM' : px_H), ((fn_Walk_chanceOfLess (Int32.ofNat s) x1).bind fun q15 => (fn_X_walkBy 14 (Int32.ofInt 0) (Int32.ofNat D) x1).bind fun q18 => _) = some (v, hX') ∧ ((fn_M_sumBelow (Int32.ofNat D) mQ).bind fun q20 => (fn_M_asks (Int32.ofNat D) mQ).bind fun q23 => _) = some (v, hM') ∧ _
        rw [less_XX z9 (by omega) b3 A1, sbw_M D6 (by omega) k80 A1, Option.bind_some, Option.bind_some, c1, c2, Option.bind_some, Option.bind_some, cmp_b01n]
        cases hS' : sWk h0' (D - nx + 1) nx (x0S (kyOf mQ)) with
        | none => exact ⟨_, x2, y2, rfl, rfl, c8, hw2⟩
        | some y' =>
          have A2 := c9 y' hS'
          obtain ⟨x3, y3, t1, t2, t3, t4, t5, t6, t7⟩ := tell1 c3 c4 (sLe z D yy s 0 (Int64.ofNat 0))
          have A3 := AQ_k t5 t6 A2
          obtain ⟨x4, y4, v1, v2, v3, v4, v5, v6, v7⟩ := row_tell t3 t4 t7 (by omega) (sLe z D y' s 0 (Int64.ofNat 0))
          have k80' : aI y3 80 D = Int32.ofNat s := by rw [(t6.2 80 rfl).1, (c6.2 80 rfl).1]; exact k80
          refine ⟨Int32.ofInt 0, x4, y4, ?_, ?_, AQ_gt (AQ_k v5 v6 A3), _, RWs_v v7⟩
          · show (fn_Row_tellOne (sLe z D yy s 0 (Int64.ofNat 0)) x2).bind (fun q23 => (fn_Walk_chanceOfLess (Int32.ofNat s) q23).bind fun q27 => (fn_Row_tell q27 q23).bind fun q30 => some ((Int32.ofInt 0), q30)) = _
            rw [t1, Option.bind_some, less_XX z9 (by omega) t3 A3, Option.bind_some, v1]
            rfl
          · show (fn_M_enters (sLe z D yy s 0 (Int64.ofNat 0)) (wF y2 69 1 (.int (Int32.ofInt 0)))).bind (fun q30 => (fn_M_sumBelow (Int32.ofNat D) q30).bind fun q34 => (fn_M_enters q34 q30).bind fun q37 => some ((Int32.ofInt 0), q37)) = _
            rw [t2, Option.bind_some, sbw_M D6 (by omega) k80' A3, Option.bind_some, v2]
            rfl
/-! fair: what it leaves of the tables -/
theorem walkO {x : px_H} (hrc : rc ∈ ruls) (hG : ab_h nm_GH x) (hT : TR z dn x hM) (hRR : RR rc r ln x hM) (oM : oS hM) (h10 : gI hM 69 20 = Int32.ofInt 0) (hC : CL z nx 19 x hM) (n6 : nx ≤ 6) (hn1 : gI x 19 2 = Int32.ofNat nx) (hn2 : gI hM 69 31 = Int32.ofNat nx) (gt : GT x) (nD : nx ≤ D) (hD : D < dn) :
    ∃ (t : Bool) (x1 : px_H), fn_X_walkBy rc (Int32.ofInt 0) (Int32.ofNat D) x = some (b01 t, x1) ∧ ab_h nm_GH x1 ∧ fz WBY VBY x x1 ∧ GT x1 ∧ aR x1 18 = aR x 18 ∧ (t = true → ∃ u w y yM, AQ z D u w y x1 yM) := by
  have oX := oS_of hG
  have D6 : D < 6 := by have := hT.2.1; omega
  have oN : oS (wF hM 69 15 (.int (Int32.ofNat r))) := oS_wI (cs := [69]) (ci := 9) rfl List.mem_cons_self oM
  have fN : fz W15 V0 hM (wF hM 69 15 (.int (Int32.ofNat r))) := fz_wF rfl
  have gN : gI (wF hM 69 15 (.int (Int32.ofNat r))) 69 15 = Int32.ofNat r := gI_wF (cs := [69]) (ci := 9) rfl List.mem_cons_self oM
  obtain ⟨h0, x1, y1, b1, b2, b3, b4, b5, b6, b7, b8, b9, -⟩ := aw2 (rc := rc) (r := r) (a := Int32.ofInt 0) hrc oX oN (TR_k (fz_rf (W := W0) (V := V0)) fN (by decide) (by decide) hT) (RR_m fN rfl rfl rfl hRR) gN (fun p _ => by rw [(fz_gI fN (c := 69) (k := 20) rfl).trans h10]) (CL_SM rfl rfl (SM_f fN rfl rfl rfl rfl rfl rfl) hC) n6 hn1 ((fz_gI fN rfl).trans hn2) gt nD hD
  obtain ⟨c1, -⟩ := fx_X_walkBy hrc oX b1
  obtain ⟨q, g1, o, m1, m2, m3, m4, -, -, m7⟩ := kp_X_walkBy_0 [.ref 0, .ref rc, .int (Int32.ofInt 0), .int (Int32.ofNat D)] x hG ⟨⟨rfl, List.mem_cons_self⟩, ⟨rfl, hrc⟩, ⟨rfl, ab_i32 _⟩, ⟨rfl, (show (0 : Int) ≤ (Int32.ofNat D).toInt ∧ (Int32.ofNat D).toInt ≤ 5 by rw [nm_ofNat_toInt D (by omega)]; omega)⟩, trivial⟩ (fun i hi => by cases hi)
  obtain ⟨-, e⟩ := px_C_fun c1 m2
  simp only at e
  rw [← e] at m3 m7
  refine ⟨_, x1, b1, m3, b5, b8, fr_aR oX (by omega) m7 (by decide +kernel) (fun k => ?_), fun ht => ?_⟩
  · intro hm
    have := List.all_eq_true.mp (show (kc_X_walkBy_0.2.2.2.2.1).all (fun q => !Nat.beq q.1 18) = true by decide +kernel) _ hm
    simp at this
  · obtain ⟨y, hy⟩ := Option.isSome_iff_exists.mp ht
    exact ⟨_, _, y, y1, b9 y hy⟩
theorem RB_RR {i : Nat} (hi : i < 3) (o : oS hX) (h : RB i hX hM) : ∃ ln, RR (54 + 4 * i) (1 + i) ln hX hM := by
  obtain ⟨ln, l7, g1, g2, g3⟩ := h
  have hr : 54 + 4 * i ∈ rcl := by
    match i, hi with
    | 0, _ => decide
    | 1, _ => decide
    | 2, _ => decide
    | i + 3, h => omega
  obtain ⟨e0, e1, e2⟩ := rc_g o hr
  exact ⟨ln, l7, by omega, g1, g2, fun k hk => by rw [e0, e1, e2]; exact g3 k hk⟩
theorem fair_L (hG0 : ab_h nm_GH hX) (oM : oS hM) (hT : TR z dn hX hM) (hB : ∀ i, i < 3 → RB i hX hM) (hK : ∀ i, i < 3 → aR hX 18 i = 54 + 4 * i) (h10 : gI hM 69 20 = Int32.ofInt 0) (hC : CL z nx 19 hX hM) (n6 : nx ≤ 6) (hn1 : gI hX 19 2 = Int32.ofNat nx) (hn2 : gI hM 69 31 = Int32.ofNat nx) (nD : nx ≤ D) (hD : D < dn) (a1 : Int32) : ∀ (m i N : Nat) (v3 : Int32) (v4 : Int64) (x : px_H), i + m = 3 → m < N → ab_h nm_GH x → fz WBY VBY hX x → aR x 18 = aR hX 18 → GT x → ∃ (v : Int32) (hX' : px_H), fn_X_fair_L66 a1 (Int32.ofNat D) N v3 v4 (Int32.ofNat i) x = some (v, hX') ∧ GT hX' := by
  have oX := oS_of hG0
  have z9 := hT.1
  intro m
  induction m with
  | zero =>
    intro i N v3 v4 x hi hN hG f eR gt
    obtain ⟨N, rfl⟩ : ∃ k, N = k + 1 := ⟨N - 1, by omega⟩
    obtain ⟨x5, y5, t1, t2, t3, t4, t5, t6, t7⟩ := tell1 (oS_of hG) oM v4
    show ∃ (v : Int32) (hX' : px_H), fb_X_fair_L66 a1 (Int32.ofNat D) (fn_X_fair_L66 a1 (Int32.ofNat D) N) v3 v4 (Int32.ofNat i) x = some (v, hX') ∧ GT hX'
    unfold fb_X_fair_L66
    rw [show i = 3 from by omega, show px_cmp .ge (Int32.ofNat 3) (Int32.ofInt 3) = true from by decide, cond_true, t1]
    exact ⟨_, x5, rfl, GT_w48 t5 gt⟩
  | succ m ih =>
    intro i N v3 v4 x hi hN hG f eR gt
    obtain ⟨N, rfl⟩ : ∃ k, N = k + 1 := ⟨N - 1, by omega⟩
    have i3 : i < 3 := by omega
    show ∃ (v : Int32) (hX' : px_H), fb_X_fair_L66 a1 (Int32.ofNat D) (fn_X_fair_L66 a1 (Int32.ofNat D) N) v3 v4 (Int32.ofNat i) x = some (v, hX') ∧ GT hX'
    unfold fb_X_fair_L66
    rw [show Int32.ofInt 3 = Int32.ofNat 3 from rfl, ge_f (show i < 3 by omega) (by omega), cond_false, nm_inR i 3 i3 (by omega), cond_true, nm_ofNat_clamp i (by omega), inc1, eR, hK i i3]
    cases px_cmp .ne (((gI x 0 4) >>> (Int32.ofNat i &&& 31)) &&& (Int32.ofInt 1)) 0 with
    | false => exact ih (i + 1) N v3 v4 x (by omega) (by omega) hG f eR gt
    | true =>
      obtain ⟨ln', rB⟩ := RB_RR i3 oX (hB i i3)
      have hrc : 54 + 4 * i ∈ ruls := by
        match i, i3 with
        | 0, _ => decide
        | 1, _ => decide
        | 2, _ => decide
        | i + 3, h => omega
      obtain ⟨t, x1, q1, q2, q3, q4, q5, q6⟩ := walkO hrc hG (TR_k f (fz_rf (W := W0) (V := V0)) (by decide) (by decide) hT) (RR_by oX hrc f rB) oM h10 (CL_SM (fz_gL f rfl) (fz_gI f rfl) (SM_f (W := W0) (V := V0) fz_rf rfl rfl rfl rfl rfl rfl) hC) n6 ((fz_gI f rfl).trans hn1) hn2 gt nD hD
      rw [cond_true, q1, Option.bind_some, cmp_b01n]
      cases t with
      | false => exact ⟨_, x1, rfl, q4⟩
      | true =>
        obtain ⟨u, w, y, yM, hA⟩ := q6 rfl
        obtain ⟨vv, hv⟩ := hu_X z9 (oS_of q2) hA a1
        have key : ∀ v3 v4, ∃ (v : Int32) (hX' : px_H), fn_X_fair_L66 a1 (Int32.ofNat D) N v3 v4 (Int32.ofNat (i + 1)) x1 = some (v, hX') ∧ GT hX' := fun v3 v4 => ih (i + 1) N v3 v4 x1 (by omega) (by omega) q2 (fz_tr f q3) (q5.trans eR) q4
        show ∃ (v : Int32) (hX' : px_H), ((fn_Walk_howUnlike a1 x1).bind fun q32 => _) = some (v, hX') ∧ _
        rw [hv, Option.bind_some]
        cases px_cmp .ge (lg_cmp vv v4) 0 with
        | true => exact key _ _
        | false => exact key _ _
theorem fair_gt (hG : ab_h nm_GH hX) (oM : oS hM) (hR : RLz z dn nx ln hX hM) (hB : ∀ i, i < 3 → RB i hX hM) (hK : ∀ i, i < 3 → aR hX 18 i = 54 + 4 * i) (gt : GT hX) (a1 a2 : Int32) : ∃ (v : Int32) (hX' : px_H), fn_X_fair a1 a2 hX = some (v, hX') ∧ GT hX' := by
  have oX := oS_of hG
  unfold fn_X_fair
  have hR2 := hR
  obtain ⟨hT, h2, h3, hC, ⟨n6, hn1, hn2⟩, h8, ⟨h9, h10⟩, h11⟩ := hR2
  have z9 := hT.1
  rw [gd_hasAll hT.2.2.1 z9, Option.bind_some, cmp_b01, (gd_ahead hR a2).1, Option.bind_some, cmp_b01n]
  cases inS a1 z with
  | false => exact ⟨_, hX, rfl, gt⟩
  | true =>
    rw [Bool.not_true, cond_false]
    cases px_cmp .eq a1 0 with
    | true => exact ⟨_, hX, rfl, gt⟩
    | false =>
      rw [cond_false]
      cases ha : ahd nx dn a2 with
      | false => exact ⟨_, hX, rfl, gt⟩
      | true =>
        obtain ⟨D, nD, hD, rfl⟩ := ahd_t ha
        obtain ⟨t, x1, q1, q2, q3, q4, q5, q6⟩ := walkO (rc := 14) (by decide) hG hT (RR_of oX h3) oM h10 hC n6 hn1 hn2 gt nD hD
        rw [cond_true, q1, Option.bind_some, cmp_b01n]
        cases t with
        | false => exact ⟨_, x1, rfl, q4⟩
        | true =>
          rw [cond_true]
          cases px_cmp .ne (gI x1 0 4) 0 with
          | false => exact ⟨_, x1, rfl, q4⟩
          | true =>
            obtain ⟨u, w, y, yM, hA⟩ := q6 rfl
            obtain ⟨vv, hv⟩ := hu_X z9 (oS_of q2) hA a1
            show ∃ (v : Int32) (hX' : px_H), ((fn_Walk_howUnlike a1 x1).bind fun q16 => _) = some (v, hX') ∧ _
            rw [hv, Option.bind_some]
            exact fair_L hG oM hT hB hK h10 hC n6 hn1 hn2 nD hD a1 3 0 fu (Int32.ofInt 3) vv x1 (by omega) (fu_lt (by omega)) q2 q3 q5 q4
/-! list, wipe -/
theorem LI_of {L : Nat} {ls : Nat → Int32} (li : LIq L ls hX hM) : LIq L (fun j => aI hX 53 j) hX hM := ⟨li.1, li.2.1, li.2.2.1, fun j hj => ⟨rfl, ((li.2.2.2 j hj).2).trans ((li.2.2.2 j hj).1).symm⟩⟩
theorem sim_list {L : Nat} {ls : Nat → Int32} (oX : oS hX) (oM : oS hM) (hR : RLz z dn nx ln hX hM) (li : LIq L ls hX hM) (a1 : Int32) : ∃ (v : Int32) (hX' hM' : px_H), fn_X_list a1 hX = some (v, hX') ∧ fn_M_list a1 hM = some (v, hM') ∧ ∃ L ls, LIq L ls hX' hM' := by
  obtain ⟨hR1, o1, -⟩ := RLz_thr' (l := 0) hR oM
  have li1 : LIq L ls hX (wF hM 69 0 (.int (Int32.ofInt 0))) := ⟨li.1, li.2.1, (gI_wF_ne (by decide)).trans li.2.2.1, fun j hj => ⟨(li.2.2.2 j hj).1, by rw [aI_wF]; exact (li.2.2.2 j hj).2⟩⟩
  unfold fn_M_list
  rw [sb_i]
  generalize wF hM 69 0 (.int (Int32.ofInt 0)) = m1 at hR1 o1 li1 ⊢
  unfold fn_X_list
  have hT := hR1.1
  have z9 := hT.1
  obtain ⟨L6, g1, g2, g3⟩ := li1
  rw [gd_hasAll hT.2.2.1 z9, gd_isSet hT.2.2.2.1 z9, Option.bind_some, Option.bind_some, cmp_b01, g1, g2]
  cases hs : inS a1 z with
  | false => exact ⟨_, hX, m1, rfl, rfl, L, ls, L6, g1, g2, g3⟩
  | true =>
    rw [Bool.not_true, cond_false, cond_false, show (Int8.ofInt 6).toInt32 = Int32.ofNat 6 from by decide, cmp_lt, cmp_ne, nm_ofNat_toInt L (by omega), nm_ofNat_toInt 6 (by omega)]
    by_cases e : L = 6
    · subst e
      exact ⟨_, hX, m1, rfl, rfl, 6, ls, L6, g1, g2, g3⟩
    · have L5 : L < 6 := by omega
      rw [decide_eq_true (show (L : Int) < ((6 : Nat) : Int) by omega), decide_eq_false (fun x => e (by
        have := congrArg Int32.toInt x
        rw [nm_ofNat_toInt L (by omega), nm_ofNat_toInt 6 (by omega)] at this
        omega)), Bool.not_false, cond_true, cond_true, nm_inR L 6 L5 (by omega), cond_true, cond_true, nm_ofNat_clamp L (by omega)]
      simp only [sb]
      have oX1 : oS (uI hX 53 L a1) := oS_uI (cs := [53]) (t := 26) (n := 6) rfl List.mem_cons_self oX
      have aX1 : aI (uI hX 53 L a1) 53 = upd (aI hX 53) L a1 := aI_uI (cs := [53]) (t := 26) (n := 6) rfl List.mem_cons_self oX
      have gX1 : gI (uI hX 53 L a1) 0 16 = Int32.ofNat L := gI_uI.trans g1
      have oM1 : oS (uI m1 99 L a1) := oS_uI (cs := [99]) (t := nr_listedBits) (n := 6) rfl List.mem_cons_self o1
      have aM1 : aI (uI m1 99 L a1) 99 = upd (aI m1 99) L a1 := aI_uI (cs := [99]) (t := nr_listedBits) (n := 6) rfl List.mem_cons_self o1
      have gM1 : gI (uI m1 99 L a1) 69 49 = Int32.ofNat L := gI_uI.trans g2
      generalize uI hX 53 L a1 = x1 at oX1 aX1 gX1 ⊢
      generalize uI m1 99 L a1 = y1 at oM1 aM1 gM1 ⊢
      rw [gX1, gM1, inc1]
      have gX2 : gI (wF x1 0 16 (.int (Int32.ofNat (L + 1)))) 0 16 = Int32.ofNat (L + 1) := gI_wF (cs := [0]) (ci := 8) rfl List.mem_cons_self oX1
      have gM2 : gI (wF y1 69 49 (.int (Int32.ofNat (L + 1)))) 69 49 = Int32.ofNat (L + 1) := gI_wF (cs := [69]) (ci := 9) rfl List.mem_cons_self oM1
      rw [gX2, gM2]
      refine ⟨_, _, _, rfl, rfl, L + 1, upd ls L a1, by omega, gX2, gM2, fun j hj => ?_⟩
      rw [aI_wF, aI_wF, aX1, aM1, upd_eq, upd_eq, upd_eq]
      by_cases x : j = L
      · rw [if_pos x, if_pos x, if_pos x]
        exact ⟨rfl, rfl⟩
      · rw [if_neg x, if_neg x, if_neg x]
        exact g3 j (by omega)
theorem sim_wipe {L : Nat} {ls : Nat → Int32} (oX : oS hX) (oM : oS hM) (li : LIq L ls hX hM) : ∃ (v : Int32) (hX' hM' : px_H), fn_X_wipe hX = some (v, hX') ∧ fn_M_wipe hM = some (v, hM') ∧ ∃ L ls, LIq L ls hX' hM' := by
  obtain ⟨o1, f1⟩ := vl_thr oM
  have g2 : gI (wF hM 69 0 (.int (Int32.ofInt 0))) 69 49 = Int32.ofNat L := (fz_gI f1 rfl).trans li.2.2.1
  unfold fn_M_wipe
  rw [sb_i]
  generalize wF hM 69 0 (.int (Int32.ofInt 0)) = m1 at o1 g2 ⊢
  unfold fn_X_wipe
  simp only [sb]
  rw [li.2.1, g2]
  exact ⟨_, _, _, rfl, rfl, 0, ls, by omega, gI_wF (cs := [0]) (ci := 8) rfl List.mem_cons_self oX, gI_wF (cs := [69]) (ci := 9) rfl List.mem_cons_self o1, fun j hj => by omega⟩
end tb_AA
end mg_4
