/-! the calls of the drawing level, pair by pair -/
def nm_R (hp : px_H) : Prop := FD hp hp
def ex_tw (X M : Nat) (cmp : Bool) (a a' : Nat) (t : List Value) (hp : px_H) : Prop :=
  ∃ (v v' : Int32) (hp1 hp2 : px_H), px_C nm_T nm_P X (.ref a :: t) hp (some (.int v)) hp1 ∧ ab_h nm_GH hp1 ∧ px_C nm_T nm_P M (.ref a' :: t) hp1 (some (.int v')) hp2 ∧ ab_h nm_GH hp2 ∧ (cmp = true → v = v') ∧ nm_R hp2
/-- where only the town and the chest are touched -/
theorem pl_two {κX κM : ac_K} (kX : nm_ok κX) (kM : nm_ok κM) (pX : κX.2.2.1 = []) (pM : κM.2.2.1 = []) (iX : isX κX.2.2.2.2.1 κX.2.2.2.2.2 = true) (iM : isM κM.2.2.2.2.1 κM.2.2.2.2.2 = true) {avX avM : List Value} (fX : px_H → Option (Int32 × px_H)) (fM : px_H → Option (Int32 × px_H))
    (xX : ∀ (h : px_H) (q : Int32 × px_H), oS h → fX h = some q → px_C nm_T nm_P κX.1 avX h (some (.int q.1)) q.2) (xM : ∀ (h : px_H) (q : Int32 × px_H), oS h → fM h = some q → px_C nm_T nm_P κM.1 avM h (some (.int q.1)) q.2) {cmp : Bool} {hp : px_H} (hG : ab_h nm_GH hp) (aX : ac_argv κX.2.1 avX) (aM : ac_argv κM.2.1 avM) (hR : nm_R hp)
    (ga : gX κX.2.2.2.2.1 κX.2.2.2.2.2 = true) (gb : gM κM.2.2.2.2.1 κM.2.2.2.2.2 = true) (gd : ac_in 78 κM.2.2.2.2.2 = false)
    (sim : ∀ hM : px_H, ab_h nm_GH hM → ∀ z dn nx ln, RLz z dn nx ln hp hM → KR hp → ∃ (v w : Int32) (hX' hM' : px_H), fX hp = some (v, hX') ∧ fM hM = some (w, hM') ∧ (cmp = true → v = w) ∧ ∃ z dn nx ln, RLz z dn nx ln hX' hM') :
    ∃ (v v' : Int32) (hp1 hp2 : px_H), px_C nm_T nm_P κX.1 avX hp (some (.int v)) hp1 ∧ ab_h nm_GH hp1 ∧ px_C nm_T nm_P κM.1 avM hp1 (some (.int v')) hp2 ∧ ab_h nm_GH hp2 ∧ (cmp = true → v = v') ∧ nm_R hp2 :=
  two_of3 (R := FD) FD_ag (P := fun _ hX' hM' => ∃ z dn nx ln, RLz z dn nx ln hX' hM') kX kM pX pM iX iM fX fM xX xM hG aX aM hR
    (fun hM gM hR => by
      obtain ⟨⟨z, dn, nx, ln, hL⟩, hK, -⟩ := hR
      exact sim hM gM z dn nx ln hL hK)
    (fun hM hX' hM' oX' oM' hR hP a b oM => by
      obtain ⟨-, hK, hD, hT, hO⟩ := hR
      obtain ⟨k1, k2, k3⟩ := TRO_fr (oS_of hG) oX' oM oM' a b ga gb ⟨hK, hT, hO⟩
      exact ⟨hP, k1, DY_k (fz_fr oM oM' b) gd hD, k2, k3⟩)
theorem mp_e {f : px_H → Option Int32} {h : px_H} {q : Int32 × px_H} (e : (f h).map (fun v => (v, h)) = some q) : f h = some q.1 ∧ q.2 = h := by
  cases hf : f h with
  | none => rw [hf] at e; cases e
  | some v => rw [hf] at e; cases e; exact ⟨rfl, rfl⟩

theorem xp_person {hp : px_H} {a0 : Int32} (hG : ab_h nm_GH hp) (hR : nm_R hp) : ex_tw mi_X_person mi_M_person true 0 69 [.int a0] hp := by
  exact pl_two kp_X_person_0 kp_M_person_0 rfl rfl (by decide +kernel) (by decide +kernel) (avX := [.ref 0, .int a0]) (avM := [.ref 69, .int a0]) (fn_X_person a0) (fn_M_person a0) (fun h q hS e => (fx_X_person hS e).1) (fun h q hS e => (fx_M_person hS e).1) (cmp := true) hG ⟨⟨rfl, List.mem_cons_self⟩, ⟨rfl, ab_i32 _⟩, trivial⟩ ⟨⟨rfl, List.mem_cons_self⟩, ⟨rfl, ab_i32 _⟩, trivial⟩ hR (by decide +kernel) (by decide +kernel) (by decide +kernel) (fun hM gM z dn nx ln hL hK => by
    obtain ⟨v, hX', hM', e1, e2, z', h⟩ := sim_person (oS_of hG) (oS_of gM) hL a0
    exact ⟨v, v, hX', hM', e1, e2, fun _ => rfl, z', dn, nx, ln, h⟩)

theorem xp_debt {hp : px_H} {a0 : Int32} {a1 : Int32} (hG : ab_h nm_GH hp) (hR : nm_R hp) : ex_tw mi_X_debt mi_M_debt true 0 69 [.int a0, .int a1] hp := by
  exact pl_two kp_X_debt_0 kp_M_debt_0 rfl rfl (by decide +kernel) (by decide +kernel) (avX := [.ref 0, .int a0, .int a1]) (avM := [.ref 69, .int a0, .int a1]) (fn_X_debt a0 a1) (fn_M_debt a0 a1) (fun h q hS e => (fx_X_debt hS e).1) (fun h q hS e => (fx_M_debt hS e).1) (cmp := true) hG ⟨⟨rfl, List.mem_cons_self⟩, ⟨rfl, ab_i32 _⟩, ⟨rfl, ab_i32 _⟩, trivial⟩ ⟨⟨rfl, List.mem_cons_self⟩, ⟨rfl, ab_i32 _⟩, ⟨rfl, ab_i32 _⟩, trivial⟩ hR (by decide +kernel) (by decide +kernel) (by decide +kernel) (fun hM gM z dn nx ln hL hK => by
    obtain ⟨v, hX', hM', e1, e2, h⟩ := sim_debt (oS_of hG) (oS_of gM) hL a0 a1
    exact ⟨v, v, hX', hM', e1, e2, fun _ => rfl, z, dn, nx, ln, h⟩)

theorem xp_away {hp : px_H} {a0 : Int32} {a1 : Int32} {a2 : Int32} (hG : ab_h nm_GH hp) (hR : nm_R hp) : ex_tw mi_X_away mi_M_away true 0 69 [.int a0, .int a1, .int a2] hp := by
  exact pl_two kp_X_away_0 kp_M_away_0 rfl rfl (by decide +kernel) (by decide +kernel) (avX := [.ref 0, .int a0, .int a1, .int a2]) (avM := [.ref 69, .int a0, .int a1, .int a2]) (fn_X_away a0 a1 a2) (fn_M_away a0 a1 a2) (fun h q hS e => (fx_X_away hS e).1) (fun h q hS e => (fx_M_away hS e).1) (cmp := true) hG ⟨⟨rfl, List.mem_cons_self⟩, ⟨rfl, ab_i32 _⟩, ⟨rfl, ab_i32 _⟩, ⟨rfl, ab_i32 _⟩, trivial⟩ ⟨⟨rfl, List.mem_cons_self⟩, ⟨rfl, ab_i32 _⟩, ⟨rfl, ab_i32 _⟩, ⟨rfl, ab_i32 _⟩, trivial⟩ hR (by decide +kernel) (by decide +kernel) (by decide +kernel) (fun hM gM z dn nx ln hL hK => by
    obtain ⟨v, hX', hM', e1, e2, h⟩ := sim_away (oS_of hG) (oS_of gM) hL a0 a1 a2
    exact ⟨v, v, hX', hM', e1, e2, fun _ => rfl, z, dn, nx, ln, h⟩)

theorem xp_dies {hp : px_H} {a0 : Int32} {a1 : Int32} (hG : ab_h nm_GH hp) (hR : nm_R hp) : ex_tw mi_X_dies mi_M_dies true 0 69 [.int a0, .int a1] hp := by
  exact pl_two kp_X_dies_0 kp_M_dies_0 rfl rfl (by decide +kernel) (by decide +kernel) (avX := [.ref 0, .int a0, .int a1]) (avM := [.ref 69, .int a0, .int a1]) (fn_X_dies a0 a1) (fn_M_dies a0 a1) (fun h q hS e => (fx_X_dies hS e).1) (fun h q hS e => (fx_M_dies hS e).1) (cmp := true) hG ⟨⟨rfl, List.mem_cons_self⟩, ⟨rfl, ab_i32 _⟩, ⟨rfl, ab_i32 _⟩, trivial⟩ ⟨⟨rfl, List.mem_cons_self⟩, ⟨rfl, ab_i32 _⟩, ⟨rfl, ab_i32 _⟩, trivial⟩ hR (by decide +kernel) (by decide +kernel) (by decide +kernel) (fun hM gM z dn nx ln hL hK => by
    obtain ⟨v, hX', hM', e1, e2, h⟩ := sim_dies (oS_of hG) (oS_of gM) hL a0 a1
    exact ⟨v, v, hX', hM', e1, e2, fun _ => rfl, z, dn, nx, ln, h⟩)

theorem xp_pack {hp : px_H} {a0 : Int32} {a1 : Int32} (hG : ab_h nm_GH hp) (hR : nm_R hp) : ex_tw mi_X_pack mi_M_pack true 0 69 [.int a0, .int a1] hp := by
  exact pl_two kp_X_pack_0 kp_M_pack_0 rfl rfl (by decide +kernel) (by decide +kernel) (avX := [.ref 0, .int a0, .int a1]) (avM := [.ref 69, .int a0, .int a1]) (fn_X_pack a0 a1) (fn_M_pack a0 a1) (fun h q hS e => (fx_X_pack hS e).1) (fun h q hS e => (fx_M_pack hS e).1) (cmp := true) hG ⟨⟨rfl, List.mem_cons_self⟩, ⟨rfl, ab_i32 _⟩, ⟨rfl, ab_i32 _⟩, trivial⟩ ⟨⟨rfl, List.mem_cons_self⟩, ⟨rfl, ab_i32 _⟩, ⟨rfl, ab_i32 _⟩, trivial⟩ hR (by decide +kernel) (by decide +kernel) (by decide +kernel) (fun hM gM z dn nx ln hL hK => by
    obtain ⟨v, hX', hM', e1, e2, h⟩ := sim_pack (oS_of hG) (oS_of gM) hL a0 a1
    exact ⟨v, v, hX', hM', e1, e2, fun _ => rfl, z, dn, nx, ln, h⟩)

theorem xp_renew {hp : px_H} {a0 : Int32} {a1 : Int32} (hb : 0 ≤ a1.toInt ∧ a1.toInt ≤ 1) (hG : ab_h nm_GH hp) (hR : nm_R hp) : ex_tw mi_X_renew mi_M_renew true 0 69 [.int a0, .int a1] hp := by
  have hb01 : a1 = 0 ∨ a1 = 1 := by
    rcases (show a1.toInt = 0 ∨ a1.toInt = 1 by omega) with h | h
    · exact Or.inl (Int32.toInt_inj.mp h)
    · exact Or.inr (Int32.toInt_inj.mp h)
  exact pl_two kp_X_renew_0 kp_M_renew_0 rfl rfl (by decide +kernel) (by decide +kernel) (avX := [.ref 0, .int a0, .int a1]) (avM := [.ref 69, .int a0, .int a1]) (fn_X_renew a0 a1) (fn_M_renew a0 a1) (fun h q hS e => (fx_X_renew hS e).1) (fun h q hS e => (fx_M_renew hS e).1) (cmp := true) hG ⟨⟨rfl, List.mem_cons_self⟩, ⟨rfl, ab_i32 _⟩, ⟨rfl, hb⟩, trivial⟩ ⟨⟨rfl, List.mem_cons_self⟩, ⟨rfl, ab_i32 _⟩, ⟨rfl, hb⟩, trivial⟩ hR (by decide +kernel) (by decide +kernel) (by decide +kernel) (fun hM gM z dn nx ln hL hK => by
    obtain ⟨v, hX', hM', e1, e2, h⟩ := sim_renew (oS_of hG) (oS_of gM) hL a0 a1 hb01
    exact ⟨v, v, hX', hM', e1, e2, fun _ => rfl, z, dn, nx, ln, h⟩)

theorem xp_bars {hp : px_H} {a0 : Int32} (hG : ab_h nm_GH hp) (hR : nm_R hp) : ex_tw mi_X_bars mi_M_bars true 0 69 [.int a0] hp := by
  exact pl_two kp_X_bars_0 kp_M_bars_0 rfl rfl (by decide +kernel) (by decide +kernel) (avX := [.ref 0, .int a0]) (avM := [.ref 69, .int a0]) (fn_X_bars a0) (fn_M_bars a0) (fun h q hS e => (fx_X_bars hS e).1) (fun h q hS e => (fx_M_bars hS e).1) (cmp := true) hG ⟨⟨rfl, List.mem_cons_self⟩, ⟨rfl, ab_i32 _⟩, trivial⟩ ⟨⟨rfl, List.mem_cons_self⟩, ⟨rfl, ab_i32 _⟩, trivial⟩ hR (by decide +kernel) (by decide +kernel) (by decide +kernel) (fun hM gM z dn nx ln hL hK => by
    obtain ⟨v, hX', hM', e1, e2, h⟩ := sim_bars (oS_of hG) (oS_of gM) hL a0
    exact ⟨v, v, hX', hM', e1, e2, fun _ => rfl, z, dn, nx, ln, h⟩)

theorem xp_judge {hp : px_H} {a0 : Int64} {a1 : Int32} (hG : ab_h nm_GH hp) (hR : nm_R hp) : ex_tw mi_X_judge mi_M_judge false 0 69 [.long a0, .int a1] hp := by
  exact pl_two kp_X_judge_0 kp_M_judge_0 rfl rfl (by decide +kernel) (by decide +kernel) (avX := [.ref 0, .long a0, .int a1]) (avM := [.ref 69, .long a0, .int a1]) (fn_X_judge a0 a1) (fn_M_judge a0 a1) (fun h q hS e => (fx_X_judge hS e).1) (fun h q hS e => (fx_M_judge hS e).1) (cmp := false) hG ⟨⟨rfl, List.mem_cons_self⟩, ⟨rfl, ab_i64 _⟩, ⟨rfl, ab_i32 _⟩, trivial⟩ ⟨⟨rfl, List.mem_cons_self⟩, ⟨rfl, ab_i64 _⟩, ⟨rfl, ab_i32 _⟩, trivial⟩ hR (by decide +kernel) (by decide +kernel) (by decide +kernel) (fun hM gM z dn nx ln hL hK => by
    obtain ⟨v, w, hX', hM', e1, e2, h⟩ := sim_judge (oS_of hG) gM hL a0 a1
    exact ⟨v, w, hX', hM', e1, e2, fun q => (by cases q), z, dn, nx, ln, h⟩)

theorem xp_hold {hp : px_H} {a0 : Int64} {a1 : Int32} (hG : ab_h nm_GH hp) (hR : nm_R hp) : ex_tw mi_X_hold mi_M_hold true 0 69 [.long a0, .int a1] hp := by
  exact pl_two kp_X_hold_0 kp_M_hold_0 rfl rfl (by decide +kernel) (by decide +kernel) (avX := [.ref 0, .long a0, .int a1]) (avM := [.ref 69, .long a0, .int a1]) (fn_X_hold a0 a1) (fn_M_hold a0 a1) (fun h q hS e => (fx_X_hold hS e).1) (fun h q hS e => (fx_M_hold hS e).1) (cmp := true) hG ⟨⟨rfl, List.mem_cons_self⟩, ⟨rfl, ab_i64 _⟩, ⟨rfl, ab_i32 _⟩, trivial⟩ ⟨⟨rfl, List.mem_cons_self⟩, ⟨rfl, ab_i64 _⟩, ⟨rfl, ab_i32 _⟩, trivial⟩ hR (by decide +kernel) (by decide +kernel) (by decide +kernel) (fun hM gM z dn nx ln hL hK => by
    obtain ⟨v, hX', hM', e1, e2, nx', h⟩ := sim_hold (oS_of hG) gM hL a0 a1
    exact ⟨v, v, hX', hM', e1, e2, fun _ => rfl, z, dn, nx', ln, h⟩)

theorem xp_begin {hp : px_H}  (hG : ab_h nm_GH hp) (hR : nm_R hp) : ex_tw mi_X_begin mi_M_begin true 0 69 [] hp := by
  exact pl_two kp_X_begin_0 kp_M_begin_0 rfl rfl (by decide +kernel) (by decide +kernel) (avX := [.ref 0]) (avM := [.ref 69]) (fn_X_begin) (fn_M_begin) (fun h q hS e => (fx_X_begin hS e).1) (fun h q hS e => (fx_M_begin hS e).1) (cmp := true) hG ⟨⟨rfl, List.mem_cons_self⟩, trivial⟩ ⟨⟨rfl, List.mem_cons_self⟩, trivial⟩ hR (by decide +kernel) (by decide +kernel) (by decide +kernel) (fun hM gM z dn nx ln hL hK => by
    obtain ⟨v, hX', hM', e1, e2, h⟩ := sim_begin (oS_of hG) (oS_of gM) hL
    exact ⟨v, v, hX', hM', e1, e2, fun _ => rfl, z, dn, 0, ln, h⟩)

theorem xp_bag {hp : px_H} {a0 : Int32} {a1 : Int32} (hG : ab_h nm_GH hp) (hR : nm_R hp) : ex_tw mi_X_bag mi_M_bag true 0 69 [.int a0, .int a1] hp := by
  exact pl_two kp_X_bag_0 kp_M_bag_0 rfl rfl (by decide +kernel) (by decide +kernel) (avX := [.ref 0, .int a0, .int a1]) (avM := [.ref 69, .int a0, .int a1]) (fun h => (fn_X_bag a0 a1 h).map (fun v => (v, h))) (fn_M_bag a0 a1) (fun h q hS e => by obtain ⟨e1, e2⟩ := mp_e (f := fn_X_bag a0 a1) e; rw [e2]; exact (fx_X_bag hS e1).1) (fun h q hS e => (fx_M_bag hS e).1) (cmp := true) hG ⟨⟨rfl, List.mem_cons_self⟩, ⟨rfl, ab_i32 _⟩, ⟨rfl, ab_i32 _⟩, trivial⟩ ⟨⟨rfl, List.mem_cons_self⟩, ⟨rfl, ab_i32 _⟩, ⟨rfl, ab_i32 _⟩, trivial⟩ hR (by decide +kernel) (by decide +kernel) (by decide +kernel) (fun hM gM z dn nx ln hL hK => by
    obtain ⟨v, hM', e1, e2, h⟩ := sim_bag (oS_of gM) hL a0 a1
    exact ⟨v, v, hp, hM', by simp only [e1, Option.map_some], e2, fun _ => rfl, z, dn, nx, ln, h⟩)

theorem xp_sat {hp : px_H} {a0 : Int32} (hG : ab_h nm_GH hp) (hR : nm_R hp) : ex_tw mi_X_sat mi_M_sat true 0 69 [.int a0] hp := by
  exact pl_two kp_X_sat_0 kp_M_sat_0 rfl rfl (by decide +kernel) (by decide +kernel) (avX := [.ref 0, .int a0]) (avM := [.ref 69, .int a0]) (fun h => (fn_X_sat a0 h).map (fun v => (v, h))) (fn_M_sat a0) (fun h q hS e => by obtain ⟨e1, e2⟩ := mp_e (f := fn_X_sat a0) e; rw [e2]; exact (fx_X_sat hS e1).1) (fun h q hS e => (fx_M_sat hS e).1) (cmp := true) hG ⟨⟨rfl, List.mem_cons_self⟩, ⟨rfl, ab_i32 _⟩, trivial⟩ ⟨⟨rfl, List.mem_cons_self⟩, ⟨rfl, ab_i32 _⟩, trivial⟩ hR (by decide +kernel) (by decide +kernel) (by decide +kernel) (fun hM gM z dn nx ln hL hK => by
    obtain ⟨v, hM', e1, e2, h⟩ := sim_sat (oS_of gM) hL a0
    exact ⟨v, v, hp, hM', by simp only [e1, Option.map_some], e2, fun _ => rfl, z, dn, nx, ln, h⟩)

theorem xp_seed {hp : px_H} {a0 : Int32} (hG : ab_h nm_GH hp) (hR : nm_R hp) : ex_tw mi_X_seed mi_M_seed true 0 69 [.int a0] hp := by
  exact pl_two kp_X_seed_0 kp_M_seed_0 rfl rfl (by decide +kernel) (by decide +kernel) (avX := [.ref 0, .int a0]) (avM := [.ref 69, .int a0]) (fn_X_seed a0) (fn_M_seed a0) (fun h q hS e => (fx_X_seed hS e).1) (fun h q hS e => (fx_M_seed hS e).1) (cmp := true) hG ⟨⟨rfl, List.mem_cons_self⟩, ⟨rfl, ab_i32 _⟩, trivial⟩ ⟨⟨rfl, List.mem_cons_self⟩, ⟨rfl, ab_i32 _⟩, trivial⟩ hR (by decide +kernel) (by decide +kernel) (by decide +kernel) (fun hM gM z dn nx ln hL hK => by
    obtain ⟨v, hX', hM', e1, e2, h⟩ := sim_seed (oS_of hG) (oS_of gM) hL a0
    exact ⟨v, v, hX', hM', e1, e2, fun _ => rfl, z, dn, nx, ln, h⟩)

theorem xp_keep {hp : px_H} {a0 : Int32} (hG : ab_h nm_GH hp) (hR : nm_R hp) : ex_tw mi_X_keep mi_M_keep true 0 69 [.int a0] hp := by
  exact pl_two kp_X_keep_0 kp_M_keep_0 rfl rfl (by decide +kernel) (by decide +kernel) (avX := [.ref 0, .int a0]) (avM := [.ref 69, .int a0]) (fn_X_keep a0) (fn_M_keep a0) (fun h q hS e => (fx_X_keep hS e).1) (fun h q hS e => (fx_M_keep hS e).1) (cmp := true) hG ⟨⟨rfl, List.mem_cons_self⟩, ⟨rfl, ab_i32 _⟩, trivial⟩ ⟨⟨rfl, List.mem_cons_self⟩, ⟨rfl, ab_i32 _⟩, trivial⟩ hR (by decide +kernel) (by decide +kernel) (by decide +kernel) (fun hM gM z dn nx ln hL hK => by
    obtain ⟨v, hX', hM', e1, e2, h⟩ := sim_keep (oS_of hG) (oS_of gM) hK.1 hL a0
    exact ⟨v, v, hX', hM', e1, e2, fun _ => rfl, z, dn, nx, ln, h⟩)

theorem xp_again {hp : px_H} {a0 : Int32} (hG : ab_h nm_GH hp) (hR : nm_R hp) : ex_tw mi_X_again mi_M_again true 0 69 [.int a0] hp := by
  exact pl_two kp_X_again_0 kp_M_again_0 rfl rfl (by decide +kernel) (by decide +kernel) (avX := [.ref 0, .int a0]) (avM := [.ref 69, .int a0]) (fn_X_again a0) (fn_M_again a0) (fun h q hS e => (fx_X_again hS e).1) (fun h q hS e => (fx_M_again hS e).1) (cmp := true) hG ⟨⟨rfl, List.mem_cons_self⟩, ⟨rfl, ab_i32 _⟩, trivial⟩ ⟨⟨rfl, List.mem_cons_self⟩, ⟨rfl, ab_i32 _⟩, trivial⟩ hR (by decide +kernel) (by decide +kernel) (by decide +kernel) (fun hM gM z dn nx ln hL hK => by
    obtain ⟨v, hX', hM', e1, e2, nx', h⟩ := sim_again (oS_of hG) (oS_of gM) hK.1 hL a0
    exact ⟨v, v, hX', hM', e1, e2, fun _ => rfl, z, dn, nx', ln, h⟩)

theorem xp_run {hp : px_H} (hG : ab_h nm_GH hp) (hR : nm_R hp) : ex_tw mi_X_run mi_M_run true 0 69 [] hp := by
  exact two_of3 (R := FD) FD_ag (P := fun hM hX' hM' => ∃ z dn nx ln, RLz z dn nx ln hp hM ∧ ((nx < dn ∧ RP z nx hX' hM' ∧ RW hX' hM') ∨ RLz z dn nx ln hX' hM')) kp_X_run_0 kp_M_run_0 rfl rfl (by decide +kernel) (by decide +kernel) (avX := [.ref 0]) (avM := [.ref 69]) fn_X_run fn_M_run (fun h q hS e => (fx_X_run hS e).1) (fun h q hS e => (fx_M_run hS e).1) (cmp := true) hG ⟨⟨rfl, List.mem_cons_self⟩, trivial⟩ ⟨⟨rfl, List.mem_cons_self⟩, trivial⟩ hR
    (fun hM gM hR => by
      obtain ⟨⟨z, dn, nx, ln, hL⟩, -⟩ := hR
      obtain ⟨v, hX', hM', e1, e2, h⟩ := sim_Run (oS_of hG) gM hL
      refine ⟨v, v, hX', hM', e1, e2, fun _ => rfl, z, dn, nx, ln, hL, ?_⟩
      rcases h with h | h
      · exact Or.inl h
      · exact Or.inr h.1)
    (fun hM hX' hM' oX' oM' hR hP a b oM => by
      obtain ⟨-, hK, hD, hT, hO⟩ := hR
      obtain ⟨k1, k2, k3⟩ := TRO_fr (oS_of hG) oX' oM oM' a b (by decide +kernel) (by decide +kernel) ⟨hK, hT, hO⟩
      refine ⟨?_, k1, DY_k (fz_fr oM oM' b) (by decide +kernel) hD, k2, k3⟩
      obtain ⟨z, dn, nx, ln, hL, h⟩ := hP
      rcases h with ⟨hd, hr, -⟩ | h
      · exact ⟨z, dn, nx + 1, ln, RLz_run (fz_fr (oS_of hG) oX' a) (fz_fr oM oM' b) (by decide +kernel) (by decide +kernel) hL hd hr⟩
      · exact ⟨z, dn, nx, ln, h⟩)

theorem xp_drawing {hp : px_H} {a0 : Int32} {a1 : Int32} {a2 : Int32} (hG : ab_h nm_GH hp) (hR : nm_R hp) : ex_tw mi_X_drawing mi_M_drawing true 0 69 [.int a0, .int a1, .int a2] hp := by
  exact two_of3 (R := FD) FD_ag (P := fun hM hX' hM' => (∃ z dn nx ln, RLz z dn nx ln hX' hM') ∧ DY hM') kp_X_drawing_0 kp_M_drawing_0 rfl rfl (by decide +kernel) (by decide +kernel) (avX := [.ref 0, .int a0, .int a1, .int a2]) (avM := [.ref 69, .int a0, .int a1, .int a2]) (fn_X_drawing a0 a1 a2) (fn_M_drawing a0 a1 a2) (fun h q hS e => (fx_X_drawing hS e).1) (fun h q hS e => (fx_M_drawing hS e).1) (cmp := true) hG ⟨⟨rfl, List.mem_cons_self⟩, ⟨rfl, ab_i32 _⟩, ⟨rfl, ab_i32 _⟩, ⟨rfl, ab_i32 _⟩, trivial⟩ ⟨⟨rfl, List.mem_cons_self⟩, ⟨rfl, ab_i32 _⟩, ⟨rfl, ab_i32 _⟩, ⟨rfl, ab_i32 _⟩, trivial⟩ hR
    (fun hM gM hR => by
      obtain ⟨⟨z, dn, nx, ln, hL⟩, -, hD, -⟩ := hR
      obtain ⟨v, hX', hM', dn', e1, e2, h, hD'⟩ := sim_drawing (oS_of hG) (oS_of gM) hL hD a0 a1 a2
      exact ⟨v, v, hX', hM', e1, e2, fun _ => rfl, ⟨z, dn', nx, ln, h⟩, hD'⟩)
    (fun hM hX' hM' oX' oM' hR hP a b oM => by
      obtain ⟨-, hK, hD, hT, hO⟩ := hR
      obtain ⟨k1, k2, k3⟩ := TRO_fr (oS_of hG) oX' oM oM' a b (by decide +kernel) (by decide +kernel) ⟨hK, hT, hO⟩
      exact ⟨hP.1, k1, hP.2, k2, k3⟩)

theorem xp_sign {hp : px_H} {a0 : Int32} (hG : ab_h nm_GH hp) (hR : nm_R hp) : ex_tw mi_X_sign mi_M_sign true 0 69 [.int a0] hp := by
  exact two_of3 (R := FD) FD_ag (P := fun _ hX' hM' => TX hX' hM') kp_X_sign_0 kp_M_sign_0 rfl rfl (by decide +kernel) (by decide +kernel) (avX := [.ref 0, .int a0]) (avM := [.ref 69, .int a0]) (fn_X_sign a0) (fn_M_sign a0) (fun h q hS e => (fx_X_sign hS e).1) (fun h q hS e => (fx_M_sign hS e).1) (cmp := true) hG ⟨⟨rfl, List.mem_cons_self⟩, ⟨rfl, ab_i32 _⟩, trivial⟩ ⟨⟨rfl, List.mem_cons_self⟩, ⟨rfl, ab_i32 _⟩, trivial⟩ hR
    (fun hM gM hR => by
      obtain ⟨-, -, -, hT, -⟩ := hR
      obtain ⟨v, hX', hM', e1, e2, -, -, h⟩ := sim_sign (oS_of hG) (oS_of gM) hT a0
      exact ⟨v, v, hX', hM', e1, e2, fun _ => rfl, h⟩)
    (fun hM hX' hM' oX' oM' hR hP a b oM => by
      obtain ⟨⟨z, dn, nx, ln, hL⟩, hK, hD, hT, hO⟩ := hR
      have fa := fz_fr (oS_of hG) oX' a
      have fb := fz_fr oM oM' b
      exact ⟨⟨z, dn, nx, ln, RLz_k fa fb (by decide +kernel) (by decide +kernel) hL⟩, KR_fr (oS_of hG) a (by decide +kernel) hK, DY_k fb (by decide +kernel) hD, hP, RO_k fa fb (by decide +kernel) (by decide +kernel) (by decide +kernel) hO⟩)

theorem xp_end {hp : px_H} {a0 : Int32} (hG : ab_h nm_GH hp) (hR : nm_R hp) : ex_tw mi_X_end mi_M_end true 0 69 [.int a0] hp := by
  exact two_of3 (R := FD) FD_ag (P := fun _ hX' hM' => TX hX' hM') kp_X_end_0 kp_M_end_0 rfl rfl (by decide +kernel) (by decide +kernel) (avX := [.ref 0, .int a0]) (avM := [.ref 69, .int a0]) (fn_X_end a0) (fn_M_end a0) (fun h q hS e => (fx_X_end hS e).1) (fun h q hS e => (fx_M_end hS e).1) (cmp := true) hG ⟨⟨rfl, List.mem_cons_self⟩, ⟨rfl, ab_i32 _⟩, trivial⟩ ⟨⟨rfl, List.mem_cons_self⟩, ⟨rfl, ab_i32 _⟩, trivial⟩ hR
    (fun hM gM hR => by
      obtain ⟨-, -, -, hT, -⟩ := hR
      obtain ⟨v, hX', hM', e1, e2, -, -, h⟩ := sim_end (oS_of hG) (oS_of gM) hT a0
      exact ⟨v, v, hX', hM', e1, e2, fun _ => rfl, h⟩)
    (fun hM hX' hM' oX' oM' hR hP a b oM => by
      obtain ⟨⟨z, dn, nx, ln, hL⟩, hK, hD, hT, hO⟩ := hR
      have fa := fz_fr (oS_of hG) oX' a
      have fb := fz_fr oM oM' b
      exact ⟨⟨z, dn, nx, ln, RLz_k fa fb (by decide +kernel) (by decide +kernel) hL⟩, KR_fr (oS_of hG) a (by decide +kernel) hK, DY_k fb (by decide +kernel) hD, hP, RO_k fa fb (by decide +kernel) (by decide +kernel) (by decide +kernel) hO⟩)

theorem xp_rule {hp : px_H}  (hG : ab_h nm_GH hp) (hR : nm_R hp) : ex_tw mi_X_rule mi_M_rule true 0 69 [] hp := by
  exact two_of3 (R := FD) FD_ag (P := fun _ hX' hM' => (∃ z dn nx ln, RLz z dn nx ln hX' hM') ∧ DY hM' ∧ TX hX' hM' ∧ RO hX' hM') kp_X_rule_0 kp_M_rule_0 rfl rfl (by decide +kernel) (by decide +kernel) (avX := [.ref 0]) (avM := [.ref 69]) (fn_X_rule) (fn_M_rule) (fun h q hS e => (fx_X_rule hS e).1) (fun h q hS e => (fx_M_rule hS e).1) (cmp := true) hG ⟨⟨rfl, List.mem_cons_self⟩, trivial⟩ ⟨⟨rfl, List.mem_cons_self⟩, trivial⟩ hR
    (fun hM gM hR => by
      obtain ⟨v, hX', hM', e1, e2, h⟩ := sim_rule (oS_of hG) (oS_of gM) hR
      exact ⟨v, v, hX', hM', e1, e2, fun _ => rfl, h⟩)
    (fun hM hX' hM' oX' oM' hR hP a b oM => ⟨hP.1, KR_fr (oS_of hG) a (by decide +kernel) hR.2.1, hP.2⟩)

theorem xp_other {hp : px_H} {a0 : Int32} (hG : ab_h nm_GH hp) (hR : nm_R hp) : ex_tw mi_X_other mi_M_other true 0 69 [.int a0] hp := by
  exact two_of3 (R := FD) FD_ag (P := fun _ hX' hM' => (∃ z dn nx ln, RLz z dn nx ln hX' hM') ∧ DY hM' ∧ TX hX' hM' ∧ RO hX' hM') kp_X_other_0 kp_M_other_0 rfl rfl (by decide +kernel) (by decide +kernel) (avX := [.ref 0, .int a0]) (avM := [.ref 69, .int a0]) (fn_X_other a0) (fn_M_other a0) (fun h q hS e => (fx_X_other hS e).1) (fun h q hS e => (fx_M_other hS e).1) (cmp := true) hG ⟨⟨rfl, List.mem_cons_self⟩, ⟨rfl, ab_i32 _⟩, trivial⟩ ⟨⟨rfl, List.mem_cons_self⟩, ⟨rfl, ab_i32 _⟩, trivial⟩ hR
    (fun hM gM hR => by
      obtain ⟨v, hX', hM', e1, e2, h⟩ := sim_other (oS_of hG) (oS_of gM) hR a0
      exact ⟨v, v, hX', hM', e1, e2, fun _ => rfl, h⟩)
    (fun hM hX' hM' oX' oM' hR hP a b oM => ⟨hP.1, KR_fr (oS_of hG) a (by decide +kernel) hR.2.1, hP.2⟩)

theorem xp_sheet {hp : px_H} {a0 a1 a2 a3 : Int32} (hG : ab_h nm_GH hp) (hR : nm_R hp) : ex_tw mi_X_sheet mi_M_sheet true 0 69 [.int a0, .int a1, .int a2, .int a3] hp := by
  obtain ⟨⟨z, dn, nx, ln, hL⟩, hK, hD, hT, hO⟩ := hR
  have oS0 := oS_of hG
  have T := hL.1
  have hsd : sd_R hp := by
    obtain ⟨v1, w1, -, -⟩ := ex_fv (c := 1) (k := 0) (by decide +kernel) hG
    obtain ⟨v2, w2, -, -⟩ := ex_fv (c := 69) (k := 3) (by decide +kernel) hG
    have e1 : v1 = Int32.ofNat z := by have := T.2.2.1; unfold gI at this; rw [w1] at this; exact this
    have e2 : v2 = Int32.ofNat z := by have := T.2.2.2.1; unfold gI at this; rw [w2] at this; exact this
    subst e1 e2
    have z9 := T.1
    refine ⟨_, aI hp 3, aI hp 72, w1, w2, bAI_ok (cs := [3]) (t := 13) (n := 10) rfl List.mem_cons_self oS0, bAI_ok (cs := [72]) (t := nr_owes) (n := 10) rfl List.mem_cons_self oS0, fun i hi => ⟨(T.2.2.2.2.2.2.1 i hi).2.1, fun h => ?_⟩⟩
    rw [nm_ofNat_toInt z (by omega)] at h
    exact hL.2.1 i (by omega) hi
  obtain ⟨v, v', hp1, hp2, c1, g1, c2, g2, hv, hR2⟩ := sd_sheet (a1 := a0) (a2 := a1) (a3 := a2) (a4 := a3) hG hsd
  obtain ⟨r, hq, o, m1, m2, m3, m4, -, -, m7⟩ := kp_X_sheet_0 [.ref 0, .int a0, .int a1, .int a2, .int a3] hp hG ⟨⟨rfl, List.mem_cons_self⟩, ⟨rfl, ab_i32 _⟩, ⟨rfl, ab_i32 _⟩, ⟨rfl, ab_i32 _⟩, ⟨rfl, ab_i32 _⟩, trivial⟩ (fun i hi => (by cases hi))
  obtain ⟨-, e⟩ := px_C_fun c1 m2
  rw [← e] at m7
  obtain ⟨r', hq', o', n1, n2, n3, n4, -, -, n7⟩ := kp_M_sheet_0 [.ref 69, .int a0, .int a1, .int a2, .int a3] hp1 g1 ⟨⟨rfl, List.mem_cons_self⟩, ⟨rfl, ab_i32 _⟩, ⟨rfl, ab_i32 _⟩, ⟨rfl, ab_i32 _⟩, ⟨rfl, ab_i32 _⟩, trivial⟩ (fun i hi => (by cases hi))
  obtain ⟨-, e'⟩ := px_C_fun c2 n2
  rw [← e'] at n7
  have o1 := oS_of g1
  have o2 := oS_of g2
  refine ⟨v, v', hp1, hp2, c1, g1, c2, g2, hv, ?_⟩
  have A : agM hp hp1 := agM_of oS0 m7 (by decide +kernel)
  have B : agX hp1 hp2 := agX_of o1 n7 (by decide +kernel)
  have fa := fz_fr oS0 o1 m7
  have fb := fz_fr o1 o2 n7
  have hL1 := RLz_ag (agX_rf hp) A hL
  obtain ⟨k1, k2, k3⟩ := TRO_fr oS0 o1 o1 o2 m7 n7 (by decide +kernel) (by decide +kernel) ⟨hK, TX_ag (agX_rf hp) A hT, RO_ag (agX_rf hp) A hO⟩
  obtain ⟨zz, f, g, s1, s2, s3, s4, s5⟩ := hR2
  have f3 : aI hp2 3 = f := by unfold aI; rw [s3]
  have f72 : aI hp2 72 = g := by unfold aI; rw [s4]
  have B3 : aI hp1 3 = aI hp2 3 := (agX_aI B (by omega)).symm
  have ez : gI hp2 1 0 = zz := by unfold gI; rw [s1]
  have ez2 : gI hp2 1 0 = Int32.ofNat z := by
    rw [agX_gI B (by omega), fz_gI fa (show ac_has _ 1 0 = false from by decide +kernel)]
    exact T.2.2.1
  have z9 := T.1
  have hL2 : RLz z dn nx ln hp1 hp2 := RLz_debt fa fb (by decide +kernel) (by decide +kernel) hL1 (fun p hp9 => by
    rw [B3, f3, f72]
    refine ⟨(s5 p hp9).1, fun h => (s5 p hp9).2 ?_⟩
    rw [← ez, ez2, nm_ofNat_toInt z (by omega)]
    omega)
  exact ⟨⟨z, dn, nx, ln, RLz_ag B (agM_rf hp2) hL2⟩, KR_ag B k1, DY_k fb (by decide +kernel) (DY_ag A hD), TX_ag B (agM_rf hp2) k2, RO_ag B (agM_rf hp2) k3⟩

/-- a field that is as it was -/
theorem fr_drop {ws ws' : List (Nat × Nat)} {wa : List Nat} {h h' : px_H} {c k : Nat} (a : px_fr ws wa h h') (e : ac_fv h' c k = ac_fv h c k) (hs : ws.all (fun q => (Nat.beq q.1 c && Nat.beq q.2 k) || ac_has ws' q.1 q.2) = true) : px_fr ws' wa h h' := by
  refine ⟨a.1, fun d ci vs hd => ?_⟩
  obtain ⟨vs', h1, h2, h3⟩ := a.2 d ci vs hd
  refine ⟨vs', h1, h2, fun j hj => ?_⟩
  by_cases hm : (d, j) ∈ ws
  · have := List.all_eq_true.mp hs _ hm
    simp only [Bool.or_eq_true, Bool.and_eq_true] at this
    rcases this with ⟨q1, q2⟩ | q
    · have q1 := Nat.eq_of_beq_eq_true q1
      have q2 := Nat.eq_of_beq_eq_true q2
      subst q1 q2
      unfold ac_fv at e
      rw [h1, hd] at e
      exact e
    · exact absurd (ac_has_ok q) hj
  · exact h3 j hm
def ex_ckO (X : ex_M) (ov : List ac_O) (c k : Nat) (z : Int) : Bool := ex_isI c k && (match ex_run X.1 X.2.1 X.2.2.1 X.2.2.2.1 X.2.2.2.2.1 X.2.2.2.2.2 ov with
  | some os => os.all (ex_ze c k z)
  | none => false)
theorem ex_ckO_ok {X : ex_M} {ov : List ac_O} {c k : Nat} {z : Int} (hK : ∀ κ ∈ X.1, nm_ok κ) (h : ex_ckO X ov c k z = true) {hp : px_H} {av : List Value} (hG : ab_h nm_GH hp) (hv : ac_argv X.2.2.2.2.2 av) (hov : ac_ov ov hp) :
    ∃ (v w : Int32) (hp1 : px_H), px_C nm_T nm_P X.2.2.2.2.1 av hp (some (.int v)) hp1 ∧ ab_h nm_GH hp1 ∧ px_fr X.2.2.1 X.2.2.2.1 hp hp1 ∧ ac_fv hp1 c k = some (.int w) ∧ w.toInt = z := by
  simp only [ex_ckO, Bool.and_eq_true] at h
  have h2 := h.2
  split at h2
  · rename_i os ho
    obtain ⟨r, hp1, o, m1, m2, m3, m4⟩ := ex_run_ok hK ho hG hv hov
    obtain ⟨v, w, rfl, w1, w2⟩ := ex_ze_ok h.1 (List.all_eq_true.mp h2 o m1) m3
    exact ⟨v, w, hp1, m2, m3.2.1, m4, w1, w2⟩
  · cases h2
def kl_fair2 : ac_L := (kl_M_fair_68.1, kl_M_fair_68.2.1, kl_M_fair_68.2.2.1, kl_M_fair_68.2.2.2.map (fun w => (w.1, (69, 15) :: w.2.1, w.2.2.1, w.2.2.2)))
def fw_fair : ex_M := ([kc_M_asks_0, kc_M_unlike_0], [kl_fair2], kc_M_fair_0.2.2.2.2.1, kc_M_fair_0.2.2.2.2.2, mi_M_fair, kc_M_fair_0.2.1)
def fw_war : ex_M := ([kc_M_asks_0, kc_M_sumBelow_0], [], kc_M_war_0.2.2.2.2.1, kc_M_war_0.2.2.2.2.2, mi_M_war, kc_M_war_0.2.1)
set_option maxRecDepth 1000000 in
theorem fw_fair_t : ex_ckO fw_fair [(69, 15, 0, 0, 0, [])] 69 15 0 = true := by decide +kernel
set_option maxRecDepth 1000000 in
theorem fw_war_t : ex_ckO fw_war [(69, 20, 0, 0, 0, [])] 69 20 0 = true := by decide +kernel
/-- frames leave all of it -/
def nm_Rf (ws : List (Nat × Nat)) (wa : List Nat) : Bool := gX ws wa && (gM ws wa && (nX (wF_ ws) (wA_ wa) [(1, 0), (1, 8), (14, 3), (19, 0), (19, 1), (19, 2), (0, 11), (0, 14), (66, 0), (66, 1), (66, 2), (67, 0), (67, 1), (67, 2), (68, 0), (68, 1), (68, 2)] [2, 3, 4, 5, 6, 7, 8, 9, 10, 11, 15, 16, 17, 52] && nX (wF_ ws) (wA_ wa) [(69, 3), (69, 11), (69, 15), (69, 20), (69, 31), (69, 32), (69, 33), (69, 37)] [71, 72, 73, 74, 75, 76, 77, 78, 79, 80, 81, 83, 84, 88, 89, 90, 100, 101, 102, 103, 104]))
theorem nm_R_fr {ws : List (Nat × Nat)} {wa : List Nat} {hp hp' : px_H} (hG : ab_h nm_GH hp) (hG' : ab_h nm_GH hp') (h : px_fr ws wa hp hp') (hw : nm_Rf ws wa = true) (hR : nm_R hp) : nm_R hp' := by
  simp only [nm_Rf, Bool.and_eq_true] at hw
  obtain ⟨w1, w2, w3, w4⟩ := hw
  obtain ⟨⟨z, dn, nx, ln, hL⟩, hK, hD, hT, hO⟩ := hR
  have o := oS_of hG
  have o' := oS_of hG'
  have f := fz_fr o o' h
  obtain ⟨k1, k2, k3⟩ := TRO_fr o o' o o' h h w1 w2 ⟨hK, hT, hO⟩
  exact ⟨⟨z, dn, nx, ln, RLz_k f f w3 w4 hL⟩, k1, DY_k f (nX_a w4 (by decide)) hD, k2, k3⟩
theorem nm_R_arr {hp : px_H} {x y : Nat × vp_A} (hx : hp[105]? = some (.inl x)) (hR : nm_R hp) : nm_R (hp.set 105 (.inl y)) := by
  have e : ∀ c, c < 105 → (hp.set 105 (.inl y))[c]? = hp[c]? := fun c hc => List.getElem?_set_ne (by omega)
  have eA : ∀ c, c < 105 → aI (hp.set 105 (.inl y)) c = aI hp c ∧ aL (hp.set 105 (.inl y)) c = aL hp c ∧ aR (hp.set 105 (.inl y)) c = aR hp c := fun c hc => ⟨by unfold aI; rw [e c hc], by unfold aL; rw [e c hc], by funext j; unfold aR; rw [e c hc]⟩
  have eF : ∀ c k, ac_fv (hp.set 105 (.inl y)) c k = ac_fv hp c k := fun c k => by rw [ac_fv_arr hx]
  exact FD_ag (fun c hc => ⟨fun k => eF c k, (eA c (by omega)).1, (eA c (by omega)).2.1, (eA c (by omega)).2.2⟩) ⟨fun k => eF 69 k, fun c h1 h2 => ⟨(eA c (by omega)).1, (eA c (by omega)).2.1⟩⟩ hR
theorem fvI_of {hp : px_H} {c k : Nat} {n : Int} (hI : ex_isI c k = true) (hG : ab_h nm_GH hp) (h : gI hp c k = Int32.ofInt n) : ac_fv hp c k = some (.int (Int32.ofInt n)) := by
  obtain ⟨v, w, -, -⟩ := ex_fv hI hG
  unfold gI at h
  rw [w] at h ⊢
  simp only at h
  rw [h]

theorem xp_fair {hp : px_H} {a0 a1 : Int32} (hG : ab_h nm_GH hp) (hR : nm_R hp) : ex_tw mi_X_fair mi_M_fair false 0 69 [.int a0, .int a1] hp := by
  obtain ⟨r, hp1, o, m1, m2, m3, m4, -, -, m7⟩ := kp_X_fair_0 [.ref 0, .int a0, .int a1] hp hG ⟨⟨rfl, List.mem_cons_self⟩, ⟨rfl, ab_i32 _⟩, ⟨rfl, ab_i32 _⟩, trivial⟩ (fun i hi => (by cases hi))
  obtain ⟨v0, rfl⟩ := nm_rI rfl m1 m4
  have hR1 := nm_R_fr hG m3 m7 (by decide +kernel) hR
  obtain ⟨⟨z, dn, nx, ln, hL⟩, -⟩ := hR1
  have f0 := fvI_of (c := 69) (k := 15) (by decide +kernel) m3 hL.2.2.2.2.2.2.1.1
  obtain ⟨v, w, hp2, c2, g2, fr2, w1, w2⟩ := ex_ckO_ok (X := fw_fair) (List.forall_mem_cons.mpr ⟨kp_M_asks_0, List.forall_mem_cons.mpr ⟨kp_M_unlike_0, fun _ h => absurd h List.not_mem_nil⟩⟩) fw_fair_t (av := [.ref 69, .int a0, .int a1]) m3 ⟨⟨rfl, List.mem_cons_self⟩, ⟨rfl, ab_i32 _⟩, ⟨rfl, ab_i32 _⟩, trivial⟩ (ex_ov1 f0 (by decide) (by decide))
  have ew : w = Int32.ofInt 0 := by rw [← Int32.toInt_inj, w2]; rfl
  subst ew
  exact ⟨v0, v, hp1, hp2, m2, m3, c2, g2, fun h => (by cases h), nm_R_fr m3 g2 (fr_drop (ws' := (fw_fair.2.2.1).filter (fun q => !(Nat.beq q.1 69 && Nat.beq q.2 15))) fr2 (w1.trans f0.symm) (by decide +kernel)) (by decide +kernel) (nm_R_fr hG m3 m7 (by decide +kernel) hR)⟩

theorem xp_war {hp : px_H} {a0 a1 : Int32} (hG : ab_h nm_GH hp) (hR : nm_R hp) : ex_tw mi_X_war mi_M_war false 0 69 [.int a0, .int a1] hp := by
  obtain ⟨r, hp1, o, m1, m2, m3, m4, -, -, m7⟩ := kp_X_war_0 [.ref 0, .int a0, .int a1] hp hG ⟨⟨rfl, List.mem_cons_self⟩, ⟨rfl, ab_i32 _⟩, ⟨rfl, ab_i32 _⟩, trivial⟩ (fun i hi => (by cases hi))
  obtain ⟨v0, rfl⟩ := nm_rI rfl m1 m4
  have hR1 := nm_R_fr hG m3 m7 (by decide +kernel) hR
  obtain ⟨⟨z, dn, nx, ln, hL⟩, -⟩ := hR1
  have f0 := fvI_of (c := 69) (k := 20) (by decide +kernel) m3 hL.2.2.2.2.2.2.1.2
  obtain ⟨v, w, hp2, c2, g2, fr2, w1, w2⟩ := ex_ckO_ok (X := fw_war) (List.forall_mem_cons.mpr ⟨kp_M_asks_0, List.forall_mem_cons.mpr ⟨kp_M_sumBelow_0, fun _ h => absurd h List.not_mem_nil⟩⟩) fw_war_t (av := [.ref 69, .int a0, .int a1]) m3 ⟨⟨rfl, List.mem_cons_self⟩, ⟨rfl, ab_i32 _⟩, ⟨rfl, ab_i32 _⟩, trivial⟩ (ex_ov1 f0 (by decide) (by decide))
  have ew : w = Int32.ofInt 0 := by rw [← Int32.toInt_inj, w2]; rfl
  subst ew
  exact ⟨v0, v, hp1, hp2, m2, m3, c2, g2, fun h => (by cases h), nm_R_fr m3 g2 (fr_drop (ws' := (fw_war.2.2.1).filter (fun q => !(Nat.beq q.1 69 && Nat.beq q.2 20))) fr2 (w1.trans f0.symm) (by decide +kernel)) (by decide +kernel) (nm_R_fr hG m3 m7 (by decide +kernel) hR)⟩

theorem i3_t : (List.range 3).all (fun i => Nat.beq (aR nm_H1 51 i) (66 + i) && (Nat.beq (aR nm_H1 18 i) (54 + 4 * i) && (decide (aI nm_H1 82 (1 + i) = b01 (Nat.testBit 0 i)) && (decide (gI nm_H1 (54 + 4 * i) 3 = Int32.ofNat 0) && decide (aI nm_H1 81 (1 + i) = Int32.ofNat 0))))) = true := by decide +kernel
theorem i10_t : (List.range 10).all (fun p => (decide (aI nm_H1 2 p = aI nm_H1 71 p) && (decide (aI nm_H1 3 p = aI nm_H1 72 p) && (decide (aI nm_H1 6 p = aI nm_H1 75 p) && (decide (aI nm_H1 4 p = aI nm_H1 73 p) && (decide (aI nm_H1 5 p = aI nm_H1 74 p) && (decide (aI nm_H1 3 p = Int32.ofInt 0) && (decide (sq (gI nm_H1 19 1) p = aI nm_H1 90 p) && decide (aI nm_H1 90 p = Int32.ofNat 0))))))))) = true := by decide +kernel
theorem i2_t : (List.range 2).all (fun b => decide (aI nm_H1 7 b = aI nm_H1 76 b) && (decide (aI nm_H1 8 b = aI nm_H1 77 b) && (decide (aI nm_H1 76 b = Int32.ofInt 0) && (decide (aI nm_H1 88 b = Int32.ofInt 0) && decide (aI nm_H1 89 b = Int32.ofInt 0))))) = true := by decide +kernel
theorem i6_t : (List.range 6).all (fun d => decide (aI nm_H1 9 d = aI nm_H1 78 d) && (decide (aI nm_H1 10 d = aI nm_H1 79 d) && (decide (aI nm_H1 11 d = aI nm_H1 80 d) && (decide (aI nm_H1 80 d = 0) && (decide (aI nm_H1 79 d = Int32.ofNat 0) && decide (aI nm_H1 78 d = 0)))))) = true := by decide +kernel
theorem i40_t : (List.range 40).all (fun i => decide (aI nm_H1 13 i = aI nm_H1 85 i)) = true := by decide +kernel
set_option maxRecDepth 1000000 in
theorem nm_R0 : nm_R nm_H1 := by
  have i3 : ∀ i, i < 3 → aR nm_H1 51 i = 66 + i ∧ aR nm_H1 18 i = 54 + 4 * i ∧ aI nm_H1 82 (1 + i) = b01 (Nat.testBit 0 i) ∧ gI nm_H1 (54 + 4 * i) 3 = Int32.ofNat 0 ∧ aI nm_H1 81 (1 + i) = Int32.ofNat 0 := fun i hi => by
    have := List.all_eq_true.mp i3_t i (List.mem_range.mpr hi)
    simp only [Bool.and_eq_true, decide_eq_true_eq] at this
    exact ⟨Nat.eq_of_beq_eq_true this.1, Nat.eq_of_beq_eq_true this.2.1, this.2.2⟩
  have i10 : ∀ p, p < 10 → _ := fun p hp => List.all_eq_true.mp i10_t p (List.mem_range.mpr hp)
  have i2 : ∀ p, p < 2 → _ := fun p hp => List.all_eq_true.mp i2_t p (List.mem_range.mpr hp)
  have i6 : ∀ p, p < 6 → _ := fun p hp => List.all_eq_true.mp i6_t p (List.mem_range.mpr hp)
  simp only [Bool.and_eq_true, decide_eq_true_eq] at i10 i2 i6
  have sz0 : sz 0 (Int32.ofInt 0) := fun i _ => ib_z i
  refine ⟨⟨0, 0, 0, 0, ⟨by omega, by omega, by decide +kernel, by decide +kernel, by decide +kernel, by decide +kernel, fun p hp => ⟨(i10 p hp).1, (i10 p hp).2.1, (i10 p hp).2.2.1, Or.inl ⟨(i10 p hp).2.2.2.1, (i10 p hp).2.2.2.2.1⟩⟩, fun b hb => ⟨(i2 b hb).1, (i2 b hb).2.1, by rw [(i2 b hb).2.2.1]; exact sz0⟩, fun d hd => ⟨(i6 d hd).1, (i6 d hd).2.1, (i6 d hd).2.2.1, by rw [(i6 d hd).2.2.2.1]; decide, 0, by omega, (i6 d hd).2.2.2.2.1⟩⟩, fun p _ hp => (i10 p hp).2.2.2.2.2.1, ⟨by omega, by decide +kernel, by decide +kernel, fun k hk => by omega⟩, ⟨⟨by decide +kernel, by decide +kernel, by decide +kernel, by decide +kernel, by decide +kernel, by decide +kernel, by decide +kernel⟩, fun p hp => ⟨(i10 p hp).2.2.2.2.2.2.1, 0, by omega, (i10 p hp).2.2.2.2.2.2.2⟩, fun j hj => ⟨by rw [(i2 j hj).2.2.2.1]; exact sz0, by rw [(i2 j hj).2.2.2.2]; exact sz0⟩⟩, ⟨by omega, by decide +kernel, by decide +kernel⟩, by decide +kernel, ⟨by decide +kernel, by decide +kernel⟩, ?_⟩, ⟨fun i hi => (i3 i hi).1, fun i hi => (i3 i hi).2.1⟩, fun d hd => by rw [(i6 d hd).2.2.2.2.2]; decide, ⟨0, by omega, by decide +kernel, by decide +kernel, fun i hi => ?_⟩, fun i hi => ⟨0, by omega, (i3 i hi).2.2.2.1, (i3 i hi).2.2.2.2, fun k hk => by omega⟩, 0, by omega, by decide +kernel, fun i hi => (i3 i hi).2.2.1⟩
  · have e : gI nm_H1 0 14 = Int32.ofInt 0 := by decide +kernel
    refine ⟨by rw [e]; exact fun i _ => ib_z i, fun i hi => ?_⟩
    have e2 : ∀ i, i < 3 → aI nm_H1 100 i = Int32.ofInt 0 := fun i hi => by
      have : (List.range 3).all (fun i => decide (aI nm_H1 100 i = Int32.ofInt 0)) = true := by decide +kernel
      exact of_decide_eq_true (List.all_eq_true.mp this i (List.mem_range.mpr hi))
    rw [e, e2 i hi, ib_z]
    exact ⟨by decide, fun h => (by cases h)⟩
  · exact of_decide_eq_true (List.all_eq_true.mp i40_t i (List.mem_range.mpr hi))
