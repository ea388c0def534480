/-! the model reads a rule -/
section sy_V
def Wrd (c k : Nat) : Bool := Nat.beq c 69 && (Nat.beq k 22 || (Nat.beq k 23 || (Nat.beq k 24 || Nat.beq k 27)))
def Vrd (c : Nat) : Bool := Nat.beq c 86 || Nat.beq c 87
def MS (i w c : Nat) (g rk rd : Nat → Int32) (h0 h : px_H) : Prop := oS h ∧ gI h 69 23 = Int32.ofNat i ∧ gI h 69 24 = Int32.ofNat w ∧ gI h 69 27 = Int32.ofNat c ∧ aI h 85 = g ∧ aI h 86 = rk ∧ aI h 87 = rd ∧ fz Wrd Vrd h0 h ∧ gI h 69 22 = Int32.ofNat 0
variable {i w c : Nat} {g rk rd : Nat → Int32} {h0 h : px_H}
theorem tx_fl0 (h : px_H) : fn_M_flag (Int32.ofInt 0) h = some (Int32.ofInt 0) := by
  unfold fn_M_flag
  rw [show px_cmp .eq (Int32.ofInt 0) 0 = true from by decide, cond_true]
theorem tx_fl1 (h : px_H) : fn_M_flag (Int32.ofInt 1) h = some (Int32.ofInt 1) := by
  unfold fn_M_flag
  rw [show px_cmp .eq (Int32.ofInt 1) 0 = false from by decide, cond_false]
theorem add0 (i : Nat) : Int32.ofNat i + Int32.ofInt 0 = Int32.ofNat i := Int32.add_zero _
theorem MS_23 (A : MS i w c g rk rd h0 h) (j : Nat) : MS j w c g rk rd h0 (wF h 69 23 (.int (Int32.ofNat j))) := by
  obtain ⟨o, a23, a24, a27, e85, e86, e87, fr, a22⟩ := A
  exact ⟨oS_wI (cs := [69]) (ci := 9) rfl List.mem_cons_self o, gI_wF (cs := [69]) (ci := 9) rfl List.mem_cons_self o, (gI_wF_ne (by decide)).trans a24, (gI_wF_ne (by decide)).trans a27, aI_wF.trans e85, aI_wF.trans e86, aI_wF.trans e87, fz_tr fr (fz_wF rfl), (gI_wF_ne (by decide)).trans a22⟩
theorem tx_comes (A : MS i w c g rk rd h0 h) (hi : i ≤ w) (hw : w ≤ 20) (s : Int32) : ∃ h', fn_M_comes s h = some (b01 (rp_b g w i s), h') ∧ MS (i + rp_n (rp_b g w i s)) w c g rk rd h0 h' := by
  have put := MS_23 A
  obtain ⟨o, a23, a24, a27, e85, e86, e87, fr, a22⟩ := A
  unfold fn_M_comes
  simp only [sb]
  rw [a23, a24, ge_nat (by omega) (by omega)]
  by_cases h1 : w ≤ i
  · rw [decide_eq_true h1, cond_true, tx_fl0, Option.bind_some, rp_bf (fun e => by omega), add0]
    exact ⟨_, rfl, put i⟩
  · rw [decide_eq_false h1, cond_false, nm_inR i 40 (by omega) (by omega), cond_true, nm_ofNat_clamp i (by omega), e85, cmp_ne]
    by_cases h2 : g i = s
    · rw [decide_eq_true h2, Bool.not_true, cond_false, tx_fl1, Option.bind_some, rp_bt (by omega) h2, inc1]
      exact ⟨_, rfl, put (i + 1)⟩
    · rw [decide_eq_false h2, Bool.not_false, cond_true, tx_fl0, Option.bind_some, rp_bf (fun e => h2 e.2), add0]
      exact ⟨_, rfl, put i⟩
/-- the end of a line -/
noncomputable def rlE (x d : Int32) (b : Int32) (h : px_H) : Option (Int32 × px_H) :=
  bif px_inR (gI h 69 27) 8 then
  sb (uI h 86 (gI h 69 27).toNatClampNeg x) fun h43 =>
  bif px_inR (gI h43 69 27) 8 then
  sb (uI h43 87 (gI h43 69 27).toNatClampNeg d) fun h46 =>
  (fn_M_flag b h46).bind fun q48 =>
  sb (wF h46 69 27 (.int ((gI h46 69 27) + q48))) fun h51 =>
  some (b, h51)
  else none
  else none
noncomputable def rlT (x : Int32) (h : px_H) : Option (Int32 × px_H) :=
  (fn_M_comes (Int8.ofInt 98).toInt32 h).bind fun q27 =>
  bif px_cmp .eq q27.1 0 then
    (fn_M_comes (Int8.ofInt 116).toInt32 q27.2).bind fun q32 =>
    bif px_cmp .eq q32.1 0 then
      (fn_M_comes (Int8.ofInt 108).toInt32 q32.2).bind fun q37 =>
      bif px_cmp .eq q37.1 0 then rlE x (Int32.ofInt (-1)) (Int32.ofInt 0) q37.2 else rlE x (Int32.ofInt 2) (Int32.ofInt 1) q37.2
    else rlE x (Int32.ofInt 1) (Int32.ofInt 1) q32.2
  else rlE x (Int32.ofInt 0) (Int32.ofInt 1) q27.2
theorem tx_rlE (A : MS i w c g rk rd h0 h) (hc : c < 8) (x d : Int32) (b : Bool) : ∃ h', rlE x d (b01 b) h = some (b01 b, h') ∧ MS i w (c + rp_n b) g (upd rk c x) (upd rd c d) h0 h' := by
  obtain ⟨o, a23, a24, a27, e85, e86, e87, fr, a22⟩ := A
  obtain ⟨o1, e1, n1, f1⟩ := oI 86 nr_readKind 8 c x o rfl
  have g1 : ∀ k, gI (uI h 86 c x) 69 k = gI h 69 k := fun _ => gI_uI
  unfold rlE
  rw [a27, nm_inR c 8 hc (by omega), cond_true, nm_ofNat_clamp c (by omega)]
  simp only [sb]
  generalize uI h 86 c x = h1 at o1 e1 n1 f1 g1 ⊢
  obtain ⟨o2, e2, n2, f2⟩ := oI 87 nr_readDoes 8 c d o1 rfl
  have g2 : ∀ k, gI (uI h1 87 c d) 69 k = gI h 69 k := fun k => gI_uI.trans (g1 k)
  rw [g1, a27, nm_inR c 8 hc (by omega), cond_true, nm_ofNat_clamp c (by omega)]
  generalize uI h1 87 c d = h2 at o2 e2 n2 f2 g2 ⊢
  have ef : fn_M_flag (b01 b) h2 = some (b01 b) := by cases b; exact tx_fl0 h2; exact tx_fl1 h2
  have ea : Int32.ofNat c + b01 b = Int32.ofNat (c + rp_n b) := by cases b; exact add0 c; exact inc1 c
  rw [ef, Option.bind_some, g2, a27, ea]
  refine ⟨_, rfl, oS_wI (cs := [69]) (ci := 9) rfl List.mem_cons_self o2, (gI_wF_ne (by decide)).trans ((g2 23).trans a23), (gI_wF_ne (by decide)).trans ((g2 24).trans a24), gI_wF (cs := [69]) (ci := 9) rfl List.mem_cons_self o2, ?_, ?_, ?_, ?_, (gI_wF_ne (by decide)).trans ((g2 22).trans a22)⟩
  · rw [aI_wF, n2 85 (by decide), n1 85 (by decide), e85]
  · rw [aI_wF, n2 86 (by decide), e1, e86]
  · rw [aI_wF, e2, n1 87 (by decide), e87]
  · exact fz_tr fr (fz_tr (fz_mono f1 (fun _ _ _ => rfl) (fun _ h => by unfold Vrd at h; simp only [Bool.or_eq_false_iff] at h; exact h.1)) (fz_tr (fz_mono f2 (fun _ _ _ => rfl) (fun _ h => by unfold Vrd at h; simp only [Bool.or_eq_false_iff] at h; exact h.2)) (fz_wF rfl)))
theorem tx_rlT (A : MS i w c g rk rd h0 h) (hi : i ≤ w) (hw : w ≤ 20) (hc : c < 8) (x : Int32) : ∃ (b : Bool) (h' : px_H), rlT x h = some (b01 b, h') ∧ (rp_d g w i = none → b = false ∧ ∃ rk' rd', MS i w c g rk' rd' h0 h') ∧ ∀ d, rp_d g w i = some d → b = true ∧ MS (i + 1) w (c + 1) g (upd rk c x) (upd rd c d) h0 h' := by
  unfold rlT rp_d
  obtain ⟨h1, e1, A1⟩ := tx_comes A hi hw (Int8.ofInt 98).toInt32
  rw [show (Int8.ofInt 98).toInt32 = 98 from by decide] at e1 A1 ⊢
  rw [e1, Option.bind_some, show px_cmp .eq ((b01 (rp_b g w i 98), h1) : Int32 × px_H).1 0 = !rp_b g w i 98 from cmp_b01 _]
  cases hb1 : rp_b g w i 98 with
  | true =>
    rw [hb1] at A1
    rw [Bool.not_true, cond_false, cond_true]
    obtain ⟨h', t1, t2⟩ := tx_rlE A1 hc x (Int32.ofInt 0) true
    exact ⟨true, h', t1, fun e => (by cases e), fun d e => (by cases e; exact ⟨rfl, t2⟩)⟩
  | false =>
    rw [hb1] at A1
    have A1 : MS i w c g rk rd h0 h1 := A1
    rw [Bool.not_false, cond_true, cond_false]
    obtain ⟨h2, e2, A2⟩ := tx_comes A1 hi hw (Int8.ofInt 116).toInt32
    rw [show (Int8.ofInt 116).toInt32 = 116 from by decide] at e2 A2 ⊢
    rw [show ((b01 false, h1) : Int32 × px_H).2 = h1 from rfl, e2, Option.bind_some, show px_cmp .eq ((b01 (rp_b g w i 116), h2) : Int32 × px_H).1 0 = !rp_b g w i 116 from cmp_b01 _]
    cases hb2 : rp_b g w i 116 with
    | true =>
      rw [hb2] at A2
      rw [Bool.not_true, cond_false, cond_true]
      obtain ⟨h', t1, t2⟩ := tx_rlE A2 hc x (Int32.ofInt 1) true
      exact ⟨true, h', t1, fun e => (by cases e), fun d e => (by cases e; exact ⟨rfl, t2⟩)⟩
    | false =>
      rw [hb2] at A2
      have A2 : MS i w c g rk rd h0 h2 := A2
      rw [Bool.not_false, cond_true, cond_false]
      obtain ⟨h3, e3, A3⟩ := tx_comes A2 hi hw (Int8.ofInt 108).toInt32
      rw [show (Int8.ofInt 108).toInt32 = 108 from by decide] at e3 A3 ⊢
      rw [show ((b01 false, h2) : Int32 × px_H).2 = h2 from rfl, e3, Option.bind_some, show px_cmp .eq ((b01 (rp_b g w i 108), h3) : Int32 × px_H).1 0 = !rp_b g w i 108 from cmp_b01 _]
      cases hb3 : rp_b g w i 108 with
      | true =>
        rw [hb3] at A3
        rw [Bool.not_true, cond_false, cond_true]
        obtain ⟨h', t1, t2⟩ := tx_rlE A3 hc x (Int32.ofInt 2) true
        exact ⟨true, h', t1, fun e => (by cases e), fun d e => (by cases e; exact ⟨rfl, t2⟩)⟩
      | false =>
        rw [hb3] at A3
        have A3 : MS i w c g rk rd h0 h3 := A3
        rw [Bool.not_false, cond_true, cond_false]
        obtain ⟨h', t1, t2⟩ := tx_rlE A3 hc x (Int32.ofInt (-1)) false
        exact ⟨false, h', t1, fun _ => ⟨rfl, _, _, t2⟩, fun d e => (by cases e)⟩
/-- what a line tells -/
def LQ (i w c : Nat) (g rk rd : Nat → Int32) (h0 : px_H) (b : Bool) (h' : px_H) : Prop :=
  (rp_k g w i = none → b = false ∧ MS (rp_kf g w i) w c g rk rd h0 h') ∧
  (∀ k n, rp_k g w i = some (k, n) → rp_d g w (i + n) = none → b = false ∧ ∃ rk' rd', MS (i + n) w c g rk' rd' h0 h') ∧
  (∀ k n d, rp_k g w i = some (k, n) → rp_d g w (i + n) = some d → b = true ∧ MS (i + n + 1) w (c + 1) g (upd rk c k) (upd rd c d) h0 h')
theorem tx_line1 {h1 : px_H} {k : Int32} {n : Nat} (hk : rp_k g w i = some (k, n)) (A : MS (i + n) w c g rk rd h0 h1) (hi : i + n ≤ w) (hw : w ≤ 20) (hc : c < 8) {x : Int32} (ex : x = k) : ∃ (b : Bool) (h' : px_H), rlT x h1 = some (b01 b, h') ∧ LQ i w c g rk rd h0 b h' := by
  subst ex
  obtain ⟨b, h', t1, t2, t3⟩ := tx_rlT A hi hw hc x
  refine ⟨b, h', t1, fun e => (by rw [hk] at e; cases e), fun k2 n2 e => ?_, fun k2 n2 d e => ?_⟩
  · rw [hk] at e; cases e; exact t2
  · rw [hk] at e; cases e; exact t3 d
theorem tx_line0 {h1 : px_H} (hk : rp_k g w i = none) (A : MS (rp_kf g w i) w c g rk rd h0 h1) : LQ i w c g rk rd h0 false h1 := ⟨fun _ => ⟨rfl, A⟩, fun _ _ e => (by rw [hk] at e; cases e), fun _ _ _ e => (by rw [hk] at e; cases e)⟩
theorem tx_line (A : MS i w c g rk rd h0 h) (hi : i ≤ w) (hw : w ≤ 20) (hc : c < 8) : ∃ (b : Bool) (h' : px_H), fn_M_readsLine h = some (b01 b, h') ∧ LQ i w c g rk rd h0 b h' := by
  unfold fn_M_readsLine
  obtain ⟨h1, e1, A1⟩ := tx_comes A hi hw (Int8.ofInt 107).toInt32
  rw [show (Int8.ofInt 107).toInt32 = 107 from by decide] at e1 A1 ⊢
  rw [e1, Option.bind_some, show px_cmp .eq ((b01 (rp_b g w i 107), h1) : Int32 × px_H).1 0 = !rp_b g w i 107 from cmp_b01 _]
  cases hb1 : rp_b g w i 107 with
  | true =>
    rw [hb1] at A1
    have hl := rp_b_lt hb1
    rw [Bool.not_true, cond_false]
    exact tx_line1 (k := 0) (n := 1) (by unfold rp_k; rw [hb1]; rfl) A1 (by omega) hw hc (x := Int32.ofInt 0) (by decide)
  | false =>
    rw [hb1] at A1
    have A1 : MS i w c g rk rd h0 h1 := A1
    rw [Bool.not_false, cond_true]
    obtain ⟨h2, e2, A2⟩ := tx_comes A1 hi hw (Int8.ofInt 100).toInt32
    rw [show (Int8.ofInt 100).toInt32 = 100 from by decide] at e2 A2 ⊢
    rw [show ((b01 false, h1) : Int32 × px_H).2 = h1 from rfl, e2, Option.bind_some, show px_cmp .eq ((b01 (rp_b g w i 100), h2) : Int32 × px_H).1 0 = !rp_b g w i 100 from cmp_b01 _]
    cases hb2 : rp_b g w i 100 with
    | true =>
      rw [hb2] at A2
      have hl := rp_b_lt hb2
      rw [Bool.not_true, cond_false]
      exact tx_line1 (k := 7) (n := 1) (by unfold rp_k; rw [hb1, hb2]; rfl) A2 (by omega) hw hc (x := (Int8.ofInt 7).toInt32) (by decide)
    | false =>
      rw [hb2] at A2
      have A2 : MS i w c g rk rd h0 h2 := A2
      rw [Bool.not_false, cond_true]
      obtain ⟨h3, e3, A3⟩ := tx_comes A2 hi hw (Int8.ofInt 119).toInt32
      rw [show (Int8.ofInt 119).toInt32 = 119 from by decide] at e3 A3 ⊢
      rw [show ((b01 false, h2) : Int32 × px_H).2 = h2 from rfl, e3, Option.bind_some, show px_cmp .eq ((b01 (rp_b g w i 119), h3) : Int32 × px_H).1 0 = !rp_b g w i 119 from cmp_b01 _]
      cases hb3 : rp_b g w i 119 with
      | true =>
        rw [hb3] at A3
        have hl := rp_b_lt hb3
        rw [Bool.not_true, cond_false]
        exact tx_line1 (k := 8) (n := 1) (by unfold rp_k; rw [hb1, hb2, hb3]; rfl) A3 (by omega) hw hc (x := (Int8.ofInt 8).toInt32) (by decide)
      | false =>
        rw [hb3] at A3
        have A3 : MS i w c g rk rd h0 h3 := A3
        rw [Bool.not_false, cond_true]
        obtain ⟨h4, e4, A4⟩ := tx_comes A3 hi hw (Int8.ofInt 115).toInt32
        rw [show (Int8.ofInt 115).toInt32 = 115 from by decide] at e4 A4 ⊢
        rw [show ((b01 false, h3) : Int32 × px_H).2 = h3 from rfl, e4, Option.bind_some, show px_cmp .eq ((b01 (rp_b g w i 115), h4) : Int32 × px_H).1 0 = !rp_b g w i 115 from cmp_b01 _]
        cases hb4 : rp_b g w i 115 with
        | false =>
          rw [hb4] at A4
          rw [Bool.not_false, cond_true]
          exact ⟨false, h4, rfl, tx_line0 (by unfold rp_k; rw [hb1, hb2, hb3, hb4]; rfl) (by unfold rp_kf; rw [hb4]; exact A4)⟩
        | true =>
          rw [hb4] at A4
          have A4 : MS (i + 1) w c g rk rd h0 h4 := A4
          have hl := rp_b_lt hb4
          have kf : rp_kf g w i = i + 1 := by unfold rp_kf; rw [hb4]; rfl
          rw [Bool.not_true, cond_false, show ((b01 true, h4) : Int32 × px_H).2 = h4 from rfl, A4.2.1, A4.2.2.1, ge_nat (by omega) (by omega)]
          by_cases h5 : w ≤ i + 1
          · rw [decide_eq_true h5, cond_true]
            refine ⟨false, h4, rfl, tx_line0 ?_ (by rw [kf]; exact A4)⟩
            unfold rp_k
            rw [hb1, hb2, hb3, hb4, decide_eq_false (show ¬ i + 1 < w by omega)]
            rfl
          · rw [decide_eq_false h5, cond_false, nm_inR (i + 1) 40 (by omega) (by omega), cond_true, nm_ofNat_clamp (i + 1) (by omega), A4.2.2.2.2.1, b01_in, cmp_b01n, Int32.toInt_toInt64, show (Int64.ofInt 49).toInt = 49 from by decide, show (Int64.ofInt 54).toInt = 54 from by decide]
            by_cases h6 : 49 ≤ (g (i + 1)).toInt ∧ (g (i + 1)).toInt ≤ 54
            · rw [decide_eq_true h6, cond_true, cond_true, inc1]
              have hk : rp_k g w i = some (g (i + 1) - 48, 2) := by
                unfold rp_k
                rw [hb1, hb2, hb3, hb4, decide_eq_true (show i + 1 < w by omega), decide_eq_true h6.1, decide_eq_true h6.2]
                rfl
              exact tx_line1 hk (MS_23 A4 (i + 2)) (by omega) hw hc (x := g (i + 1) - (Int8.ofInt 48).toInt32) (by rw [show (Int8.ofInt 48).toInt32 = 48 from by decide])
            · rw [decide_eq_false h6, cond_false]
              refine ⟨false, h4, rfl, tx_line0 ?_ (by rw [kf]; exact A4)⟩
              unfold rp_k
              rw [hb1, hb2, hb3, hb4]
              by_cases h7 : 49 ≤ (g (i + 1)).toInt
              · rw [decide_eq_false (show ¬ (g (i + 1)).toInt ≤ 54 by omega), Bool.and_false, Bool.and_false, Bool.and_false]; rfl
              · rw [decide_eq_false h7, Bool.false_and, Bool.and_false, Bool.and_false]; rfl
end sy_V
section sy_W
/-- the end of a rule -/
noncomputable def tx_E (v1 v2 v3 : Int32) (hp : px_H) : Option (Int32 × px_H) :=
    bif px_cmp .eq v3 0 then
      bif px_cmp .le v2 (Int8.ofInt 20).toInt32 then
        some (((Int32.ofInt (-1)) - (gI hp 69 23)), hp)
      else
        bif px_cmp .lt (gI hp 69 23) (Int8.ofInt 20).toInt32 then
          some (((Int32.ofInt (-1)) - (gI hp 69 23)), hp)
        else
          some ((Int8.ofInt (-21)).toInt32, hp)
    else
      bif px_cmp .ne (gI hp 69 23) (gI hp 69 24) then
        bif px_cmp .le v2 (Int8.ofInt 20).toInt32 then
          some (((Int32.ofInt (-1)) - (gI hp 69 23)), hp)
        else
          bif px_cmp .lt (gI hp 69 23) (Int8.ofInt 20).toInt32 then
            some (((Int32.ofInt (-1)) - (gI hp 69 23)), hp)
          else
            some ((Int8.ofInt (-21)).toInt32, hp)
      else
        bif px_cmp .le v2 (Int8.ofInt 20).toInt32 then
          bif px_inR v1 4 then
          sb (uI hp 81 v1.toNatClampNeg (gI hp 69 27)) fun h25 =>
          bif px_inR v1 4 then
          sb (uI h25 82 v1.toNatClampNeg (Int32.ofInt 1)) fun h28 =>
          fn_M_readsRule_L153 v1 fu (Int32.ofInt 0) h28
          else none
          else none
        else
          some ((Int8.ofInt (-21)).toInt32, hp)
theorem tx_E0 (v1 v2 v3 : Int32) (N : Nat) (h : px_H) : fn_M_readsRule_L43 v1 v2 (N + 1) v3 (Int32.ofInt 0) h = tx_E v1 v2 v3 h := by
  show fb_M_readsRule_L43 v1 v2 (fn_M_readsRule_L43 v1 v2 N) v3 (Int32.ofInt 0) h = _
  unfold fb_M_readsRule_L43 tx_E
  rw [show px_cmp .eq (Int32.ofInt 0) 0 = true from by decide, cond_true]
theorem tx_loop {w : Nat} {g : Nat → Int32} {h0 : px_H} (hw : w ≤ 20) (v1 v2 : Int32) : ∀ (m i c : Nat) (rk rd : Nat → Int32) (N : Nat) (v3 : Int32) (h : px_H), MS i w c g rk rd h0 h → i ≤ w → 3 * c ≤ i → w < i + 3 * m → m < N →
    ∃ (h' : px_H) (rk' rd' : Nat → Int32), fn_M_readsRule_L43 v1 v2 N v3 (Int32.ofInt 1) h = tx_E v1 v2 (b01 (rp_lp g w m i c rk rd).1) h' ∧ MS (rp_lp g w m i c rk rd).2.1 w (rp_lp g w m i c rk rd).2.2.1 g rk' rd' h0 h' ∧ ((rp_lp g w m i c rk rd).1 = true → rk' = (rp_lp g w m i c rk rd).2.2.2.1 ∧ rd' = (rp_lp g w m i c rk rd).2.2.2.2) := by
  intro m
  induction m with
  | zero => intro i c rk rd N v3 h A h1 h2 h3; omega
  | succ m ih =>
    intro i c rk rd N v3 h A hi hc hm hN
    obtain ⟨N, rfl⟩ : ∃ k, N = k + 2 := ⟨N - 2, by omega⟩
    obtain ⟨b, h1, e1, q1, q2, q3⟩ := tx_line A hi hw (by omega)
    rw [show fn_M_readsRule_L43 v1 v2 (N + 2) v3 (Int32.ofInt 1) h = fb_M_readsRule_L43 v1 v2 (fn_M_readsRule_L43 v1 v2 (N + 1)) v3 (Int32.ofInt 1) h from rfl]
    unfold fb_M_readsRule_L43
    rw [show px_cmp .eq (Int32.ofInt 1) 0 = false from by decide, cond_false, e1, Option.bind_some, show px_cmp .eq ((b01 b, h1) : Int32 × px_H).1 0 = !b from cmp_b01 _]
    cases hk : rp_k g w i with
    | none =>
      obtain ⟨rfl, A1⟩ := q1 hk
      rw [show rp_lp g w (m + 1) i c rk rd = (false, rp_kf g w i, c, rk, rd) from by simp only [rp_lp, hk]]
      rw [Bool.not_false, cond_true]
      exact ⟨h1, rk, rd, tx_E0 _ _ _ _ _, A1, fun e => (by cases e)⟩
    | some q =>
      obtain ⟨k, n⟩ := q
      have hl := rp_k_le hk
      cases hd : rp_d g w (i + n) with
      | none =>
        obtain ⟨rfl, rk', rd', A1⟩ := q2 k n hk hd
        rw [show rp_lp g w (m + 1) i c rk rd = (false, i + n, c, rk, rd) from by simp only [rp_lp, hk, hd]]
        rw [Bool.not_false, cond_true]
        exact ⟨h1, rk', rd', tx_E0 _ _ _ _ _, A1, fun e => (by cases e)⟩
      | some d =>
        have hdl := rp_d_lt hd
        obtain ⟨rfl, A1⟩ := q3 k n d hk hd
        obtain ⟨h2, e2, A2⟩ := tx_comes A1 (by omega) hw (Int8.ofInt 59).toInt32
        rw [show (Int8.ofInt 59).toInt32 = 59 from by decide] at e2 A2 ⊢
        rw [Bool.not_true, cond_false, show ((b01 true, h1) : Int32 × px_H).2 = h1 from rfl, e2, Option.bind_some, show px_cmp .eq ((b01 (rp_b g w (i + n + 1) 59), h2) : Int32 × px_H).1 0 = !rp_b g w (i + n + 1) 59 from cmp_b01 _]
        cases hb : rp_b g w (i + n + 1) 59 with
        | true =>
          rw [hb] at A2
          have hbl := rp_b_lt hb
          rw [show rp_lp g w (m + 1) i c rk rd = rp_lp g w m (i + n + 2) (c + 1) (upd rk c k) (upd rd c d) from by simp only [rp_lp, hk, hd, hb, cond_true]]
          rw [Bool.not_true, cond_false]
          exact ih (i + n + 2) (c + 1) (upd rk c k) (upd rd c d) (N + 1) (b01 true) h2 A2 (by omega) (by omega) (by omega) (by omega)
        | false =>
          rw [hb] at A2
          rw [show rp_lp g w (m + 1) i c rk rd = (true, i + n + 1, c + 1, upd rk c k, upd rd c d) from by simp only [rp_lp, hk, hd, hb, cond_false]]
          rw [Bool.not_false, cond_true]
          exact ⟨h2, _, _, tx_E0 _ _ _ _ _, A2, fun _ => ⟨rfl, rfl⟩⟩
def Wru (c k : Nat) : Bool := Wrd c k
def Vru (c : Nat) : Bool := Nat.beq c 81 || (Nat.beq c 82 || (Nat.beq c 83 || (Nat.beq c 84 || (Nat.beq c 86 || Nat.beq c 87))))
/-- the lines are laid down -/
theorem tx_153 {r c : Nat} (hr : r < 4) (hc : c ≤ 7) : ∀ (m k N : Nat) (h : px_H), oS h → gI h 69 27 = Int32.ofNat c → k + m = c → m < N →
    ∃ h', fn_M_readsRule_L153 (Int32.ofNat r) N (Int32.ofNat k) h = some (Int32.ofNat c, h') ∧ oS h' ∧ fz W0 (fun a => Nat.beq a 83 || Nat.beq a 84) h h' ∧ ∀ j, aI h' 83 j = (if 7 * r + k ≤ j ∧ j < 7 * r + c then aI h 86 (j - 7 * r) else aI h 83 j) ∧ aI h' 84 j = (if 7 * r + k ≤ j ∧ j < 7 * r + c then aI h 87 (j - 7 * r) else aI h 84 j) := by
  intro m
  induction m with
  | zero =>
    intro k N h o g hk hN
    obtain ⟨N, rfl⟩ : ∃ n, N = n + 1 := ⟨N - 1, by omega⟩
    refine ⟨h, ?_, o, fz_rf, fun j => ⟨by rw [if_neg (by omega)], by rw [if_neg (by omega)]⟩⟩
    show fb_M_readsRule_L153 (Int32.ofNat r) (fn_M_readsRule_L153 (Int32.ofNat r) N) (Int32.ofNat k) h = _
    unfold fb_M_readsRule_L153
    rw [g, ge_nat (by omega) (by omega), decide_eq_true (show c ≤ k by omega), cond_true]
  | succ m ih =>
    intro k N h o g hk hN
    obtain ⟨N, rfl⟩ : ∃ n, N = n + 1 := ⟨N - 1, by omega⟩
    have ej : (Int8.ofInt 7).toInt32 * Int32.ofNat r + Int32.ofNat k = Int32.ofNat (7 * r + k) := by
      rw [show (Int8.ofInt 7).toInt32 = Int32.ofNat 7 from by decide, ← Int32.ofNat_mul, ← Int32.ofNat_add]
    obtain ⟨o1, e1, n1, f1⟩ := oI 83 nr_lineKind 28 (7 * r + k) (aI h 86 k) o rfl
    have g1 : gI (uI h 83 (7 * r + k) (aI h 86 k)) 69 27 = Int32.ofNat c := gI_uI.trans g
    rw [show fn_M_readsRule_L153 (Int32.ofNat r) (N + 1) (Int32.ofNat k) h = fb_M_readsRule_L153 (Int32.ofNat r) (fn_M_readsRule_L153 (Int32.ofNat r) N) (Int32.ofNat k) h from rfl]
    unfold fb_M_readsRule_L153
    rw [g, ge_nat (by omega) (by omega), decide_eq_false (show ¬ c ≤ k by omega), cond_false, ej, nm_inR k 8 (by omega) (by omega), nm_inR (7 * r + k) 28 (by omega) (by omega), cond_true, cond_true, nm_ofNat_clamp k (by omega), nm_ofNat_clamp (7 * r + k) (by omega), inc1]
    simp only [sb, cond_true]
    generalize uI h 83 (7 * r + k) (aI h 86 k) = h1 at o1 e1 n1 f1 g1 ⊢
    obtain ⟨o2, e2, n2, f2⟩ := oI 84 nr_lineDoes 28 (7 * r + k) (aI h1 87 k) o1 rfl
    have g2 : gI (uI h1 84 (7 * r + k) (aI h1 87 k)) 69 27 = Int32.ofNat c := gI_uI.trans g1
    generalize uI h1 84 (7 * r + k) (aI h1 87 k) = h2 at o2 e2 n2 f2 g2 ⊢
    obtain ⟨h', q1, q2, q3, q4⟩ := ih (k + 1) N h2 o2 g2 (by omega) (by omega)
    refine ⟨h', q1, q2, fz_tr (fz_mono f1 (fun _ _ _ => rfl) (fun _ h => by simp only [Bool.or_eq_false_iff] at h; exact h.1)) (fz_tr (fz_mono f2 (fun _ _ _ => rfl) (fun _ h => by simp only [Bool.or_eq_false_iff] at h; exact h.2)) q3), fun j => ?_⟩
    obtain ⟨u1, u2⟩ := q4 j
    rw [u1, u2, n2 86 (by decide), n2 83 (by decide), n1 86 (by decide), e1, n2 87 (by decide), n1 87 (by decide), e2, n1 84 (by decide), n1 87 (by decide), upd_eq, upd_eq]
    by_cases hj : j = 7 * r + k
    · subst hj
      rw [if_neg (by omega), if_pos rfl, if_pos (by omega), if_neg (by omega), if_pos rfl, if_pos (by omega), show 7 * r + k - 7 * r = k from by omega]
      exact ⟨rfl, rfl⟩
    · rw [if_neg hj, if_neg hj]
      by_cases hh : 7 * r + (k + 1) ≤ j ∧ j < 7 * r + c
      · rw [if_pos hh, if_pos (by omega), if_pos hh, if_pos (by omega)]
        exact ⟨rfl, rfl⟩
      · rw [if_neg hh, if_neg (by omega), if_neg hh, if_neg (by omega)]
        exact ⟨rfl, rfl⟩
/-- what is known of a text that can stand -/
def LPt (g : Nat → Int32) (n c : Nat) (rk rd : Nat → Int32) : Prop := (n = 0 ∧ c = 0) ∨ (0 < n ∧ n ≤ 20 ∧ ∃ rk0 rd0, rp_lp g n 7 0 0 rk0 rd0 = (true, n, c, rk, rd))
def RQ (r n : Nat) (h : px_H) (v : Int32) (h' : px_H) : Prop :=
  oS h' ∧ fz Wru Vru h h' ∧ gI h' 69 22 = Int32.ofNat 0 ∧
  ((xf (aI h 85) (min n 20) n 21 0 0 < 0 ∧ ∃ (c : Nat) (rk rd : Nat → Int32), c ≤ 7 ∧ v = Int32.ofNat c ∧ LPt (aI h 85) n c rk rd ∧ aI h' 81 = upd (aI h 81) r (Int32.ofNat c) ∧ aI h' 82 = upd (aI h 82) r (Int32.ofInt 1) ∧ ∀ j, aI h' 83 j = (if 7 * r ≤ j ∧ j < 7 * r + c then rk (j - 7 * r) else aI h 83 j) ∧ aI h' 84 j = (if 7 * r ≤ j ∧ j < 7 * r + c then rd (j - 7 * r) else aI h 84 j)) ∨
   (¬ xf (aI h 85) (min n 20) n 21 0 0 < 0 ∧ v = Int32.ofInt (-1 - xf (aI h 85) (min n 20) n 21 0 0) ∧ aI h' 81 = aI h 81 ∧ aI h' 82 = aI h 82 ∧ aI h' 83 = aI h 83 ∧ aI h' 84 = aI h 84))
theorem m1_sub {a : Nat} (ha : a ≤ 40) : Int32.ofInt (-1) - Int32.ofNat a = Int32.ofInt (-1 - (a : Int)) := by
  rw [← Int32.toInt_inj, Int32.toInt_sub, nm_ofNat_toInt a (by omega), show (Int32.ofInt (-1)).toInt = -1 from by decide, toInt_oI (by omega) (by omega), Int.bmod_eq_of_le] <;> omega
theorem tx_RE {r n a c : Nat} {goes : Bool} {rk rd : Nat → Int32} {h0 h1 : px_H} (hr : r < 4) (n4 : n ≤ 40) (ha : a ≤ min n 20) (hc : c ≤ 7) (A : MS a (min n 20) c (aI h0 85) rk rd h0 h1)
    (hx : xf (aI h0 85) (min n 20) n 21 0 0 = if goes = true then (if a < min n 20 then (a : Int) else xf_end n 3) else (if a < min n 20 then (a : Int) else xf_end n 0)) (h0n : n = 0 → goes = true) (hL : goes = true → a = n → n ≤ 20 → LPt (aI h0 85) n c rk rd) :
    ∃ (v : Int32) (h' : px_H), tx_E (Int32.ofNat r) (Int32.ofNat n) (b01 goes) h1 = some (v, h') ∧ RQ r n h0 v h' := by
  obtain ⟨o, a23, a24, a27, e85, e86, e87, fr, h22⟩ := A
  have fr' : fz Wru Vru h0 h1 := fz_mono fr (fun _ _ h => h) (fun _ h => by
    unfold Vru at h
    unfold Vrd
    simp only [Bool.or_eq_false_iff] at h ⊢
    exact ⟨h.2.2.2.2.1, h.2.2.2.2.2⟩)
  have k : ∀ c, Vrd c = false → aI h1 c = aI h0 c := fun c hc => (fr.2 c hc).1
  have no : ∀ (x : Int), ¬ x < 0 → xf (aI h0 85) (min n 20) n 21 0 0 = x → ∀ v : Int32, v = Int32.ofInt (-1 - x) → RQ r n h0 v h1 := by
    intro x hx0 hx1 v hv
    exact ⟨o, fr', h22, Or.inr ⟨by rw [hx1]; exact hx0, by rw [hx1]; exact hv, k 81 rfl, k 82 rfl, k 83 rfl, k 84 rfl⟩⟩
  unfold tx_E
  rw [a23, a24, a27, show (Int8.ofInt 20).toInt32 = Int32.ofNat 20 from by decide, le_nat (by omega) (by omega), lt_nat (by omega) (by omega), cmp_b01, show px_cmp .ne (Int32.ofNat a) (Int32.ofNat (min n 20)) = !decide (a = min n 20) from by rw [cmp_ne]; congr 1; exact eq_nat (by omega) (by omega)]
  have low : ∀ (E : Int), xf (aI h0 85) (min n 20) n 21 0 0 = (if a < min n 20 then (a : Int) else E) → (¬ a < min n 20 → E = if 20 < n then 20 else (n : Int)) → ∃ (v : Int32) (h' : px_H), (bif decide (n ≤ 20) then some (Int32.ofInt (-1) - Int32.ofNat a, h1) else bif decide (a < 20) then some (Int32.ofInt (-1) - Int32.ofNat a, h1) else some ((Int8.ofInt (-21)).toInt32, h1)) = some (v, h') ∧ RQ r n h0 v h' := by
    intro E hE hE2
    by_cases haw : a < min n 20
    · rw [if_pos haw] at hE
      have hq := no (a : Int) (by omega) hE _ (m1_sub (show a ≤ 40 by omega))
      by_cases h20 : n ≤ 20
      · rw [decide_eq_true h20, cond_true]; exact ⟨_, h1, rfl, hq⟩
      · rw [decide_eq_false h20, cond_false, decide_eq_true (show a < 20 by omega), cond_true]; exact ⟨_, h1, rfl, hq⟩
    · have e := hE2 haw
      rw [if_neg haw, e] at hE
      by_cases h20 : n ≤ 20
      · rw [if_neg (by omega)] at hE
        rw [decide_eq_true h20, cond_true, show a = n from by omega]
        exact ⟨_, h1, rfl, no (n : Int) (by omega) hE _ (m1_sub n4)⟩
      · rw [if_pos (by omega)] at hE
        rw [decide_eq_false h20, cond_false, decide_eq_false (show ¬ a < 20 by omega), cond_false]
        exact ⟨_, h1, rfl, no 20 (by omega) hE _ (by decide)⟩
  cases goes with
  | false =>
    rw [Bool.not_false, cond_true]
    refine low _ (by rw [hx, if_neg (by decide)]) (fun haw => ?_)
    unfold xf_end
    by_cases h20 : 20 < n
    · rw [if_pos h20, if_pos h20]
    · rw [if_neg h20, if_neg h20, if_neg]
      rintro (e | e)
      · cases h0n e
      · cases e
  | true =>
    rw [Bool.not_true, cond_false]
    rw [if_pos rfl] at hx
    by_cases haw : a = min n 20
    · rw [decide_eq_true haw, Bool.not_true, cond_false]
      rw [if_neg (by omega)] at hx
      unfold xf_end at hx
      by_cases h20 : n ≤ 20
      · rw [if_neg (by omega), if_pos (Or.inr rfl)] at hx
        rw [decide_eq_true h20, cond_true, nm_inR r 4 hr (by omega), cond_true, nm_ofNat_clamp r (by omega)]
        simp only [sb, cond_true]
        obtain ⟨o1, e1, n1, f1⟩ := oI 81 nr_lines 4 r (Int32.ofNat c) o rfl
        have g1 : ∀ k, gI (uI h1 81 r (Int32.ofNat c)) 69 k = gI h1 69 k := fun _ => gI_uI
        generalize uI h1 81 r (Int32.ofNat c) = h2 at o1 e1 n1 f1 g1 ⊢
        obtain ⟨o2, e2, n2, f2⟩ := oI 82 nr_isTold 4 r (Int32.ofInt 1) o1 rfl
        have g2 : ∀ k, gI (uI h2 82 r (Int32.ofInt 1)) 69 k = gI h1 69 k := fun k => gI_uI.trans (g1 k)
        generalize uI h2 82 r (Int32.ofInt 1) = h3 at o2 e2 n2 f2 g2 ⊢
        obtain ⟨h', q1, q2, q3, q4⟩ := tx_153 hr hc c 0 fu h3 o2 ((g2 27).trans a27) (by omega) (fu_lt (by omega))
        have u : ∀ {x : Nat}, Vru x = false → Nat.beq x 81 = false ∧ Nat.beq x 82 = false ∧ Nat.beq x 83 = false ∧ Nat.beq x 84 = false := fun h => by
          unfold Vru at h
          simp only [Bool.or_eq_false_iff] at h
          exact ⟨h.1, h.2.1, h.2.2.1, h.2.2.2.1⟩
        refine ⟨Int32.ofNat c, h', q1, q2, fz_tr fr' (fz_tr (fz_mono f1 (fun _ _ _ => rfl) (fun _ h => (u h).1)) (fz_tr (fz_mono f2 (fun _ _ _ => rfl) (fun _ h => (u h).2.1)) (fz_mono q3 (fun _ _ _ => rfl) (fun _ h => by simp only [Bool.or_eq_false_iff]; exact ⟨(u h).2.2.1, (u h).2.2.2⟩)))), (fz_gI q3 rfl).trans ((g2 22).trans h22), Or.inl ⟨by rw [hx]; decide, c, rk, rd, hc, rfl, hL rfl (by omega) h20, ?_, ?_, fun j => ?_⟩⟩
        · rw [(q3.2 81 rfl).1, n2 81 (by decide), e1, k 81 rfl]
        · rw [(q3.2 82 rfl).1, e2, n1 82 (by decide), k 82 rfl]
        · obtain ⟨w1, w2⟩ := q4 j
          rw [w1, w2, n2 86 (by decide), n1 86 (by decide), e86, n2 83 (by decide), n1 83 (by decide), k 83 rfl, n2 87 (by decide), n1 87 (by decide), e87, n2 84 (by decide), n1 84 (by decide), k 84 rfl]
          exact ⟨rfl, rfl⟩
      · rw [if_pos (by omega)] at hx
        rw [decide_eq_false h20, cond_false]
        exact ⟨_, h1, rfl, no 20 (by omega) hx _ (by decide)⟩
    · rw [decide_eq_false haw, Bool.not_false, cond_true]
      exact low _ hx (fun h => absurd h (by omega))
theorem tx_reads {r n : Nat} {h : px_H} (hr : r < 4) (o : oS h) (n4 : n ≤ 40) (hn : gI h 69 22 = Int32.ofNat n) : ∃ (v : Int32) (h' : px_H), fn_M_readsRule (Int32.ofNat r) h = some (v, h') ∧ RQ r n h v h' := by
  unfold fn_M_readsRule
  rw [hn]
  simp only [sb]
  have ew : (if (Int8.ofInt 20).toInt32 < Int32.ofNat n then (Int8.ofInt 20).toInt32 else Int32.ofNat n) = Int32.ofNat (min n 20) := by
    rw [show (Int8.ofInt 20).toInt32 = Int32.ofNat 20 from by decide]
    by_cases h2 : 20 < n
    · rw [if_pos (by rw [Int32.lt_iff_toInt_lt, nm_ofNat_toInt 20 (by omega), nm_ofNat_toInt n (by omega)]; omega), show min n 20 = 20 from by omega]
    · rw [if_neg (by rw [Int32.lt_iff_toInt_lt, nm_ofNat_toInt 20 (by omega), nm_ofNat_toInt n (by omega)]; omega), show min n 20 = n from by omega]
  rw [ew]
  have W : ∀ {h : px_H} {k : Nat} {v : Int32}, bF [69] 9 k 0 = true → oS h → oS (wF h 69 k (.int v)) ∧ gI (wF h 69 k (.int v)) 69 k = v ∧ ∀ j, j ≠ k → gI (wF h 69 k (.int v)) 69 j = gI h 69 j := fun hb ho => ⟨oS_wI hb List.mem_cons_self ho, gI_wF hb List.mem_cons_self ho, fun j hj => gI_wF_ne (fun e => hj e.2)⟩
  obtain ⟨o1, a1, b1⟩ := W (k := 22) (v := Int32.ofInt 0) rfl o
  have f1 : fz Wrd Vrd h (wF h 69 22 (.int (Int32.ofInt 0))) := fz_wF rfl
  have c1 : ∀ c, aI (wF h 69 22 (.int (Int32.ofInt 0))) c = aI h c := fun _ => aI_wF
  generalize wF h 69 22 (.int (Int32.ofInt 0)) = h1 at o1 a1 b1 f1 c1 ⊢
  obtain ⟨o2, a2, b2⟩ := W (k := 23) (v := Int32.ofInt 0) rfl o1
  have f2 : fz Wrd Vrd h (wF h1 69 23 (.int (Int32.ofInt 0))) := fz_tr f1 (fz_wF rfl)
  have c2 : ∀ c, aI (wF h1 69 23 (.int (Int32.ofInt 0))) c = aI h c := fun c => aI_wF.trans (c1 c)
  generalize wF h1 69 23 (.int (Int32.ofInt 0)) = h2 at o2 a2 b2 f2 c2 ⊢
  obtain ⟨o3, a3, b3⟩ := W (k := 24) (v := Int32.ofNat (min n 20)) rfl o2
  have f3 : fz Wrd Vrd h (wF h2 69 24 (.int (Int32.ofNat (min n 20)))) := fz_tr f2 (fz_wF rfl)
  have c3 : ∀ c, aI (wF h2 69 24 (.int (Int32.ofNat (min n 20)))) c = aI h c := fun c => aI_wF.trans (c2 c)
  generalize wF h2 69 24 (.int (Int32.ofNat (min n 20))) = h3 at o3 a3 b3 f3 c3 ⊢
  obtain ⟨o4, a4, b4⟩ := W (k := 27) (v := Int32.ofInt 0) rfl o3
  have f4 : fz Wrd Vrd h (wF h3 69 27 (.int (Int32.ofInt 0))) := fz_tr f3 (fz_wF rfl)
  have c4 : ∀ c, aI (wF h3 69 27 (.int (Int32.ofInt 0))) c = aI h c := fun c => aI_wF.trans (c3 c)
  generalize wF h3 69 27 (.int (Int32.ofInt 0)) = h4 at o4 a4 b4 f4 c4 ⊢
  have h22 : gI h4 69 22 = Int32.ofNat 0 := by rw [b4 22 (by decide), b3 22 (by decide), b2 22 (by decide), a1]; rfl
  have A : MS 0 (min n 20) 0 (aI h 85) (aI h 86) (aI h 87) h h4 := ⟨o4, by rw [b4 23 (by decide), b3 23 (by decide), a2]; rfl, by rw [b4 24 (by decide), a3], a4, c4 85, c4 86, c4 87, f4, h22⟩
  rw [show px_cmp .le (Int32.ofNat n) 0 = decide (n ≤ 0) from le_nat (b := 0) (by omega) (by omega)]
  by_cases h0 : n = 0
  · rw [decide_eq_true (show n ≤ 0 by omega), cond_true]
    obtain ⟨N, hN⟩ : ∃ k, fu = k + 1 := ⟨fu - 1, by have := fu_lt (m := 1) (by omega); omega⟩
    rw [hN, tx_E0]
    refine tx_RE (goes := true) hr n4 (a := 0) (c := 0) (by omega) (by omega) A ?_ (fun _ => rfl) (fun _ _ _ => Or.inl ⟨h0, rfl⟩)
    subst h0
    rw [xf_at (by omega)]
    rfl
  · rw [decide_eq_false (show ¬ n ≤ 0 by omega), cond_false]
    obtain ⟨h', rk', rd', q1, q2, q3⟩ := tx_loop (by omega) (Int32.ofNat r) (Int32.ofNat n) 7 0 0 _ _ fu (Int32.ofInt 1) h4 A (by omega) (by omega) (by omega) (fu_lt (by omega))
    have bd := rp_lp_bd (g := aI h 85) (w := min n 20) 7 0 0 (aI h 86) (aI h 87) (by omega) (by omega)
    have hx := xf_lp (g := aI h 85) (w := min n 20) (n := n) (by omega) 7 0 0 (aI h 86) (aI h 87) 21 (by omega) (by omega) (by omega)
    generalize hq : rp_lp (aI h 85) (min n 20) 7 0 0 (aI h 86) (aI h 87) = q at q1 q2 q3 bd hx
    obtain ⟨goes, a, c, rk, rd⟩ := q
    simp only at q1 q2 q3 bd hx
    rw [q1]
    refine tx_RE (goes := goes) hr n4 bd.1 (by omega) q2 hx (fun e => absurd e h0) (fun eg ea e20 => Or.inr ⟨by omega, e20, aI h 86, aI h 87, ?_⟩)
    obtain ⟨rfl, rfl⟩ := q3 eg
    rw [show min n 20 = n from by omega] at hq
    rw [hq, eg, ea]
end sy_W
