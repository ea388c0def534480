section mg_0
/-! tables as such: how many, their keys, their chances -/
abbrev KY : Type := Int64 × Int64
abbrev TB : Type := Nat × (Nat → KY) × (Nat → Int64)
def tE : TB := (0, fun _ => (0, 0), fun _ => 0)
def fnd (K : Nat → KY) (k : KY) : Nat → Option Nat
  | 0 => none
  | n + 1 => if K n = k then some n else fnd K k n
theorem fnd_some {K : Nat → KY} {k : KY} {i : Nat} : ∀ {n : Nat}, fnd K k n = some i → i < n ∧ K i = k
  | 0, h => by cases h
  | n + 1, h => by
    unfold fnd at h
    split at h
    · rename_i e
      cases h
      exact ⟨by omega, e⟩
    · have := fnd_some h
      exact ⟨by omega, this.2⟩
theorem fnd_none {K : Nat → KY} {k : KY} : ∀ {n : Nat}, fnd K k n = none → ∀ j, j < n → K j ≠ k
  | 0, _, j, hj => by omega
  | n + 1, h, j, hj => by
    unfold fnd at h
    split at h
    · cases h
    · rename_i e
      by_cases hjn : j = n
      · subst hjn; exact e
      · exact fnd_none h j (by omega)
theorem fnd_of {K : Nat → KY} {k : KY} : ∀ {n : Nat}, (∀ j, j < n → K j ≠ k) → fnd K k n = none
  | 0, _ => rfl
  | n + 1, h => by
    unfold fnd
    rw [if_neg (h n (by omega))]
    exact fnd_of (fun j hj => h j (by omega))
/-- no key twice -/
def dT (T : TB) : Prop := ∀ i j, i < T.1 → j < T.1 → T.2.1 i = T.2.1 j → i = j
theorem fnd_at {T : TB} (hd : dT T) {i : Nat} {k : KY} : ∀ {n : Nat}, n ≤ T.1 → i < n → T.2.1 i = k → fnd T.2.1 k n = some i
  | 0, _, hi, _ => by omega
  | n + 1, hn, hi, e => by
    unfold fnd
    by_cases h : T.2.1 n = k
    · rw [if_pos h, hd n i (by omega) (by omega) (h.trans e.symm)]
    · rw [if_neg h]
      exact fnd_at hd (by omega) (by
        by_cases e2 : i = n
        · subst e2; exact absurd e h
        · omega) e
def adT (T : TB) (k : KY) (c : Int64) : Option TB := match fnd T.2.1 k T.1 with
  | some i => some (T.1, T.2.1, vp_updL T.2.2 i (T.2.2 i + c))
  | none => if T.1 = 3000 then none else some (T.1 + 1, fun j => if j = T.1 then k else T.2.1 j, vp_updL T.2.2 T.1 c)
theorem adT_d {T T' : TB} {k : KY} {c : Int64} (hd : dT T) (h : adT T k c = some T') : dT T' := by
  unfold adT at h
  split at h
  · cases h
    exact hd
  · rename_i hf
    split at h
    · cases h
    · cases h
      have hn := fnd_none hf
      intro i j hi hj e
      simp only at hi hj e
      by_cases h1 : i = T.1
      · by_cases h2 : j = T.1
        · omega
        · rw [if_pos h1, if_neg h2] at e
          exact absurd e.symm (hn j (by omega))
      · by_cases h2 : j = T.1
        · rw [if_neg h1, if_pos h2] at e
          exact absurd e (hn i (by omega))
        · rw [if_neg h1, if_neg h2] at e
          exact hd i j (by omega) (by omega) e
theorem adT_n {T T' : TB} {k : KY} {c : Int64} (h3 : T.1 ≤ 3000) (h : adT T k c = some T') : T'.1 ≤ 3000 := by
  unfold adT at h
  split at h
  · cases h; exact h3
  · split at h
    · cases h
    · cases h
      show T.1 + 1 ≤ 3000
      omega
/-- what holds of all keys -/
def pT (P : KY → Prop) (T : TB) : Prop := ∀ i, i < T.1 → P (T.2.1 i)
theorem adT_p {P : KY → Prop} {T T' : TB} {k : KY} {c : Int64} (hp : pT P T) (hk : P k) (h : adT T k c = some T') : pT P T' := by
  unfold adT at h
  split at h
  · cases h; exact hp
  · split at h
    · cases h
    · cases h
      intro i hi
      simp only at hi ⊢
      by_cases h1 : i = T.1
      · rw [if_pos h1]; exact hk
      · rw [if_neg h1]; exact hp i (by omega)
theorem tE_d : dT tE := fun i _ hi => by cases hi
theorem tE_p (P : KY → Prop) : pT P tE := fun i hi => by cases hi
/-- added, where there is room; else left -/
def adI (T : TB) (k : KY) (c : Int64) : TB := (adT T k c).getD T
theorem adI_d {T : TB} {k : KY} {c : Int64} (hd : dT T) : dT (adI T k c) := by
  unfold adI
  cases h : adT T k c with
  | none => exact hd
  | some T' => exact adT_d hd h
theorem adI_n {T : TB} {k : KY} {c : Int64} (h3 : T.1 ≤ 3000) : (adI T k c).1 ≤ 3000 := by
  unfold adI
  cases h : adT T k c with
  | none => exact h3
  | some T' => exact adT_n h3 h
theorem adI_p {P : KY → Prop} {T : TB} {k : KY} {c : Int64} (hp : pT P T) (hk : P k) : pT P (adI T k c) := by
  unfold adI
  cases h : adT T k c with
  | none => exact hp
  | some T' => exact adT_p hp hk h
/-! the class: chains -/
section tb_A
variable {h : px_H} {t : Nat}
abbrev tbs : List Nat := [29, 35, 41]
theorem tb_c (ht : t ∈ tbs) : t = 29 ∨ t = 35 ∨ t = 41 := by
  simpa only [List.mem_cons, List.not_mem_nil, or_false] using ht
theorem tb_m (ht : t ∈ tbs) : t + 1 ∈ [30, 36, 42] ∧ t + 2 ∈ [31, 37, 43] ∧ t + 3 ∈ [32, 38, 44] ∧ t + 4 ∈ [33, 39, 45] ∧ t + 5 ∈ [34, 40, 46] := by
  rcases tb_c ht with rfl | rfl | rfl <;> decide
theorem tb_ref (ht : t ∈ tbs) (hS : oS h) : gR h t 0 = t + 1 ∧ gR h t 1 = t + 2 ∧ gR h t 2 = t + 3 ∧ gR h t 4 = t + 4 ∧ gR h t 5 = t + 5 := by
  rcases tb_c ht with rfl | rfl | rfl
  · exact ⟨List.mem_singleton.mp (bR_ok (cs := [29]) (ci := 4) (k := 0) (ds := [30]) rfl List.mem_cons_self hS).choose_spec.2.2, List.mem_singleton.mp (bR_ok (cs := [29]) (ci := 4) (k := 1) (ds := [31]) rfl List.mem_cons_self hS).choose_spec.2.2, List.mem_singleton.mp (bR_ok (cs := [29]) (ci := 4) (k := 2) (ds := [32]) rfl List.mem_cons_self hS).choose_spec.2.2, List.mem_singleton.mp (bR_ok (cs := [29]) (ci := 4) (k := 4) (ds := [33]) rfl List.mem_cons_self hS).choose_spec.2.2, List.mem_singleton.mp (bR_ok (cs := [29]) (ci := 4) (k := 5) (ds := [34]) rfl List.mem_cons_self hS).choose_spec.2.2⟩
  · exact ⟨List.mem_singleton.mp (bR_ok (cs := [35]) (ci := 4) (k := 0) (ds := [36]) rfl List.mem_cons_self hS).choose_spec.2.2, List.mem_singleton.mp (bR_ok (cs := [35]) (ci := 4) (k := 1) (ds := [37]) rfl List.mem_cons_self hS).choose_spec.2.2, List.mem_singleton.mp (bR_ok (cs := [35]) (ci := 4) (k := 2) (ds := [38]) rfl List.mem_cons_self hS).choose_spec.2.2, List.mem_singleton.mp (bR_ok (cs := [35]) (ci := 4) (k := 4) (ds := [39]) rfl List.mem_cons_self hS).choose_spec.2.2, List.mem_singleton.mp (bR_ok (cs := [35]) (ci := 4) (k := 5) (ds := [40]) rfl List.mem_cons_self hS).choose_spec.2.2⟩
  · exact ⟨List.mem_singleton.mp (bR_ok (cs := [41]) (ci := 4) (k := 0) (ds := [42]) rfl List.mem_cons_self hS).choose_spec.2.2, List.mem_singleton.mp (bR_ok (cs := [41]) (ci := 4) (k := 1) (ds := [43]) rfl List.mem_cons_self hS).choose_spec.2.2, List.mem_singleton.mp (bR_ok (cs := [41]) (ci := 4) (k := 2) (ds := [44]) rfl List.mem_cons_self hS).choose_spec.2.2, List.mem_singleton.mp (bR_ok (cs := [41]) (ci := 4) (k := 4) (ds := [45]) rfl List.mem_cons_self hS).choose_spec.2.2, List.mem_singleton.mp (bR_ok (cs := [41]) (ci := 4) (k := 5) (ds := [46]) rfl List.mem_cons_self hS).choose_spec.2.2⟩
def hv (s : Int64) (q : Int32) : Int32 := ((sx_lus ((((s * (Int64.ofInt (-7046029254386353131))) + (q.toInt64 * (Int64.ofInt (-4417276706812531889)))) ^^^ (sx_lus ((s * (Int64.ofInt (-7046029254386353131))) + (q.toInt64 * (Int64.ofInt (-4417276706812531889)))) (Int8.ofInt 29).toInt32)) * (Int64.ofInt 1609587929392839161)) (Int8.ofInt 52).toInt32).toInt32 &&& (Int16.ofInt 4095).toInt32)
theorem hv_fn (s : Int64) (q : Int32) (h : px_H) : fn_Table_hash s q h = some (hv s q) := rfl
def hN (s : Int64) (q : Int32) : Nat := (hv s q).toNatClampNeg
theorem and_nat (x : Int32) (n : Nat) (hn : n < 2147483648) : ∃ k, k ≤ n ∧ x &&& Int32.ofNat n = Int32.ofNat k := by
  have e := ab_and32 (Int32.ofNat n) x (by rw [nm_ofNat_toInt n hn]; omega)
  rw [nm_ofNat_toInt n hn, Int32.and_comm] at e
  refine ⟨(x &&& Int32.ofNat n).toInt.toNat, by omega, ?_⟩
  rw [← Int32.toInt_inj, nm_ofNat_toInt _ (by omega)]
  omega
theorem hv_N (s : Int64) (q : Int32) : hv s q = Int32.ofNat (hN s q) ∧ hN s q < 4096 := by
  have e : ∃ k, k ≤ 4095 ∧ hv s q = Int32.ofNat k := by
    unfold hv
    rw [show (Int16.ofInt 4095).toInt32 = Int32.ofNat 4095 from by decide]
    exact and_nat _ 4095 (by omega)
  obtain ⟨k, k1, k2⟩ := e
  unfold hN
  rw [k2, nm_ofNat_clamp k (by omega)]
  exact ⟨rfl, by omega⟩
def lst (H : Nat → Nat) (b : Nat) : Nat → Nat
  | 0 => 0
  | n + 1 => if H n = b then n + 1 else lst H b n
theorem lst_le (H : Nat → Nat) (b : Nat) : ∀ n, lst H b n ≤ n
  | 0 => Nat.le_refl _
  | n + 1 => by
    unfold lst
    split
    · exact Nat.le_refl _
    · have := lst_le H b n
      omega
theorem lst_at (H : Nat → Nat) (b : Nat) : ∀ n, 0 < lst H b n → H (lst H b n - 1) = b
  | 0, h => by cases h
  | n + 1, h => by
    unfold lst at h ⊢
    split
    · rename_i e
      exact e
    · rename_i e
      rw [if_neg e] at h
      exact lst_at H b n h
theorem lst_cg {H H' : Nat → Nat} (b : Nat) : ∀ n, (∀ j, j < n → H' j = H j) → lst H' b n = lst H b n
  | 0, _ => rfl
  | n + 1, h => by
    unfold lst
    rw [h n (by omega), lst_cg b n (fun j hj => h j (by omega))]
/-- which entry has this hash -/
def hsF (h : px_H) (t i : Nat) : Nat := hN (aL h (t + 1) i) (aI h (t + 2) i)
def CH (t n : Nat) (h : px_H) : Prop := (∀ b, b < 4096 → aI h (t + 4) b = Int32.ofNat (lst (hsF h t) b n)) ∧ ∀ i, i < n → aI h (t + 5) i = Int32.ofNat (lst (hsF h t) (hsF h t i) i)
/-- a table of the class; Q holds its words against keys -/
def CT (Q : Int64 → Int32 → KY → Prop) (t : Nat) (T : TB) (h : px_H) : Prop := gI h t 3 = Int32.ofNat T.1 ∧ T.1 ≤ 3000 ∧ (∀ i, i < T.1 → Q (aL h (t + 1) i) (aI h (t + 2) i) (T.2.1 i) ∧ aL h (t + 3) i = T.2.2 i) ∧ CH t T.1 h
def CT0 (t : Nat) (h : px_H) : Prop := ∃ n, n ≤ 3000 ∧ gI h t 3 = Int32.ofNat n ∧ CH t n h
theorem CT_0 {Q : Int64 → Int32 → KY → Prop} {T : TB} (a : CT Q t T h) : CT0 t h := ⟨T.1, a.2.1, a.1, a.2.2.2⟩
def Wtb (t c k : Nat) : Bool := Nat.beq c t && Nat.beq k 3
def Vt (t c : Nat) : Bool := Nat.ble (t + 1) c && Nat.ble c (t + 5)
theorem Vt_t {t c : Nat} (h1 : t + 1 ≤ c) (h2 : c ≤ t + 5) : Vt t c = true := by
  unfold Vt
  simp only [Bool.and_eq_true, Nat.ble_eq]
  exact ⟨h1, h2⟩
theorem Wt_t {t : Nat} : Wtb t t 3 = true := by unfold Wtb; rw [Nat.beq_refl]; rfl
/-! one more at the end -/
noncomputable def apX (v0 : Nat) (v1 : Int64) (v3 : Int32) (v4 : Int64) (v6 : Int32) (hp : px_H) : Option (Int32 × px_H) :=
    bif px_cmp .lt (gI hp v0 3) (Int16.ofInt 3000).toInt32 then
      bif px_inR (gI hp v0 3) 3000 then
      sb (uL hp (gR hp v0 0) (gI hp v0 3).toNatClampNeg v1) fun h10 =>
      bif px_inR (gI h10 v0 3) 3000 then
      sb (uI h10 (gR h10 v0 1) (gI h10 v0 3).toNatClampNeg v3) fun h14 =>
      bif px_inR (gI h14 v0 3) 3000 then
      sb (uL h14 (gR h14 v0 2) (gI h14 v0 3).toNatClampNeg v4) fun h18 =>
      bif px_inR v6 4096 then
      bif px_inR (gI h18 v0 3) 3000 then
      sb (uI h18 (gR h18 v0 5) (gI h18 v0 3).toNatClampNeg (aI h18 (gR h18 v0 4) v6.toNatClampNeg)) fun h24 =>
      sb (wF h24 v0 3 (.int ((gI h24 v0 3) + (Int32.ofInt 1)))) fun h26 =>
      bif px_inR v6 4096 then
      sb (uI h26 (gR h26 v0 4) v6.toNatClampNeg (gI h26 v0 3)) fun h30 =>
      some ((Int32.ofInt 1), h30)
      else none
      else none
      else none
      else none
      else none
      else none
    else
      some ((Int32.ofInt 0), hp)
theorem sb_i {α β : Type} {x : α} {f : α → β} : sb x f = f x := rfl
theorem ap_no {v1 v4 : Int64} {v3 v6 : Int32} (hn : gI h t 3 = Int32.ofNat 3000) : apX t v1 v3 v4 v6 h = some (Int32.ofInt 0, h) := by
  unfold apX
  rw [hn, show px_cmp .lt (Int32.ofNat 3000) (Int16.ofInt 3000).toInt32 = false from by decide, cond_false]
theorem ap_ok {n b : Nat} (ht : t ∈ tbs) (o : oS h) (hn : gI h t 3 = Int32.ofNat n) (n3 : n < 3000) (hb : b < 4096) (s : Int64) (q : Int32) (c : Int64) : ∃ h', apX t s q c (Int32.ofNat b) h = some (Int32.ofInt 1, h') ∧ oS h' ∧ fz (Wtb t) (Vt t) h h' ∧ gI h' t 3 = Int32.ofNat (n + 1) ∧ aL h' (t + 1) = vp_updL (aL h (t + 1)) n s ∧ aI h' (t + 2) = upd (aI h (t + 2)) n q ∧ aL h' (t + 3) = vp_updL (aL h (t + 3)) n c ∧ aI h' (t + 4) = upd (aI h (t + 4)) b (Int32.ofNat (n + 1)) ∧ aI h' (t + 5) = upd (aI h (t + 5)) n (aI h (t + 4) b) := by
  obtain ⟨m1, m2, m3, m4, m5⟩ := tb_m ht
  have iR := nm_inR n 3000 n3 (by omega)
  have iB := nm_inR b 4096 hb (by omega)
  have cN := nm_ofNat_clamp n (by omega)
  have cB := nm_ofNat_clamp b (by omega)
  unfold apX
  rw [hn, show (Int16.ofInt 3000).toInt32 = Int32.ofNat 3000 from by decide, lt_nat (by omega) (by omega), decide_eq_true n3, cond_true, iR, cond_true, (tb_ref ht o).1, cN, sb_i]
  have o1 : oS (uL h (t + 1) n s) := oS_uL (cs := [30, 36, 42]) (t := 6) (n := 3000) rfl m1 o
  have g1 : gI (uL h (t + 1) n s) t 3 = Int32.ofNat n := gI_uL.trans hn
  have a1 : aL (uL h (t + 1) n s) (t + 1) = vp_updL (aL h (t + 1)) n s := aL_uL (cs := [30, 36, 42]) (t := 6) (n := 3000) rfl m1 o
  have b1 : aL (uL h (t + 1) n s) (t + 3) = aL h (t + 3) := aL_uL_ne (by omega)
  have c1 : ∀ x, aI (uL h (t + 1) n s) x = aI h x := fun _ => aI_uL
  have f1 : fz (Wtb t) (Vt t) h (uL h (t + 1) n s) := fz_uL (Vt_t (by omega) (by omega))
  generalize uL h (t + 1) n s = h1 at o1 g1 a1 b1 c1 f1 ⊢
  rw [g1, iR, cond_true, (tb_ref ht o1).2.1, cN, sb_i]
  have o2 : oS (uI h1 (t + 2) n q) := oS_uI (cs := [31, 37, 43]) (t := 7) (n := 3000) rfl m2 o1
  have g2 : gI (uI h1 (t + 2) n q) t 3 = Int32.ofNat n := gI_uI.trans g1
  have a2 : aL (uI h1 (t + 2) n q) (t + 1) = vp_updL (aL h (t + 1)) n s := aL_uI.trans a1
  have b2 : aL (uI h1 (t + 2) n q) (t + 3) = aL h (t + 3) := aL_uI.trans b1
  have c2 : aI (uI h1 (t + 2) n q) (t + 2) = upd (aI h (t + 2)) n q := by rw [aI_uI (cs := [31, 37, 43]) (t := 7) (n := 3000) rfl m2 o1, c1]
  have d2 : ∀ x, x ≠ t + 2 → aI (uI h1 (t + 2) n q) x = aI h x := fun x hx => (aI_uI_ne hx).trans (c1 x)
  have f2 : fz (Wtb t) (Vt t) h (uI h1 (t + 2) n q) := fz_tr f1 (fz_uI (Vt_t (by omega) (by omega)))
  generalize uI h1 (t + 2) n q = h2 at o2 g2 a2 b2 c2 d2 f2 ⊢
  rw [g2, iR, cond_true, (tb_ref ht o2).2.2.1, cN, sb_i]
  have o3 : oS (uL h2 (t + 3) n c) := oS_uL (cs := [32, 38, 44]) (t := 8) (n := 3000) rfl m3 o2
  have g3 : gI (uL h2 (t + 3) n c) t 3 = Int32.ofNat n := gI_uL.trans g2
  have a3 : aL (uL h2 (t + 3) n c) (t + 1) = vp_updL (aL h (t + 1)) n s := (aL_uL_ne (by omega)).trans a2
  have b3 : aL (uL h2 (t + 3) n c) (t + 3) = vp_updL (aL h (t + 3)) n c := by rw [aL_uL (cs := [32, 38, 44]) (t := 8) (n := 3000) rfl m3 o2, b2]
  have c3 : aI (uL h2 (t + 3) n c) (t + 2) = upd (aI h (t + 2)) n q := aI_uL.trans c2
  have d3 : ∀ x, x ≠ t + 2 → aI (uL h2 (t + 3) n c) x = aI h x := fun x hx => aI_uL.trans (d2 x hx)
  have f3 : fz (Wtb t) (Vt t) h (uL h2 (t + 3) n c) := fz_tr f2 (fz_uL (Vt_t (by omega) (by omega)))
  generalize uL h2 (t + 3) n c = h3 at o3 g3 a3 b3 c3 d3 f3 ⊢
  rw [iB, cond_true, g3, iR, cond_true, (tb_ref ht o3).2.2.2.2, (tb_ref ht o3).2.2.2.1, cN, cB, d3 (t + 4) (by omega), sb_i]
  have o4 : oS (uI h3 (t + 5) n (aI h (t + 4) b)) := oS_uI (cs := [34, 40, 46]) (t := 10) (n := 3000) rfl m5 o3
  have g4 : gI (uI h3 (t + 5) n (aI h (t + 4) b)) t 3 = Int32.ofNat n := gI_uI.trans g3
  have a4 : aL (uI h3 (t + 5) n (aI h (t + 4) b)) (t + 1) = vp_updL (aL h (t + 1)) n s := aL_uI.trans a3
  have b4 : aL (uI h3 (t + 5) n (aI h (t + 4) b)) (t + 3) = vp_updL (aL h (t + 3)) n c := aL_uI.trans b3
  have c4 : aI (uI h3 (t + 5) n (aI h (t + 4) b)) (t + 2) = upd (aI h (t + 2)) n q := (aI_uI_ne (by omega)).trans c3
  have d4 : aI (uI h3 (t + 5) n (aI h (t + 4) b)) (t + 4) = aI h (t + 4) := (aI_uI_ne (by omega)).trans (d3 _ (by omega))
  have e4 : aI (uI h3 (t + 5) n (aI h (t + 4) b)) (t + 5) = upd (aI h (t + 5)) n (aI h (t + 4) b) := by rw [aI_uI (cs := [34, 40, 46]) (t := 10) (n := 3000) rfl m5 o3, d3 (t + 5) (by omega)]
  have f4 : fz (Wtb t) (Vt t) h (uI h3 (t + 5) n (aI h (t + 4) b)) := fz_tr f3 (fz_uI (Vt_t (by omega) (by omega)))
  generalize uI h3 (t + 5) n (aI h (t + 4) b) = h4 at o4 g4 a4 b4 c4 d4 e4 f4 ⊢
  rw [g4, inc1, sb_i]
  have o5 : oS (wF h4 t 3 (.int (Int32.ofNat (n + 1)))) := oS_wI (cs := [29, 35, 41]) (ci := 4) rfl ht o4
  have g5 : gI (wF h4 t 3 (.int (Int32.ofNat (n + 1)))) t 3 = Int32.ofNat (n + 1) := gI_wF (cs := [29, 35, 41]) (ci := 4) rfl ht o4
  have a5 : ∀ x, aI (wF h4 t 3 (.int (Int32.ofNat (n + 1)))) x = aI h4 x := fun _ => aI_wF
  have b5 : ∀ x, aL (wF h4 t 3 (.int (Int32.ofNat (n + 1)))) x = aL h4 x := fun _ => aL_wF
  have f5 : fz (Wtb t) (Vt t) h (wF h4 t 3 (.int (Int32.ofNat (n + 1)))) := fz_tr f4 (fz_wF Wt_t)
  generalize wF h4 t 3 (.int (Int32.ofNat (n + 1))) = h5 at o5 g5 a5 b5 f5 ⊢
  rw [cond_true, g5, (tb_ref ht o5).2.2.2.1, sb_i]
  refine ⟨_, rfl, oS_uI (cs := [33, 39, 45]) (t := 9) (n := 4096) rfl m4 o5, fz_tr f5 (fz_uI (Vt_t (by omega) (by omega))), gI_uI.trans g5, ?_, ?_, ?_, ?_, ?_⟩
  · rw [aL_uI, b5, a4]
  · rw [aI_uI_ne (by omega), a5, c4]
  · rw [aL_uI, b5, b4]
  · rw [aI_uI (cs := [33, 39, 45]) (t := 9) (n := 4096) rfl m4 o5, a5, d4]
  · rw [aI_uI_ne (by omega), a5, e4]
/-! looking for it -/
theorem fb_ad (v0 : Nat) (v1 : Int64) (v3 : Int32) (v4 : Int64) (v6 : Int32) (rc : Int32 → Int32 → px_H → Option (Int32 × px_H)) (v7 v8 : Int32) (hp : px_H) : fb_Table_add_L21 v0 v1 v3 v4 v6 rc v7 v8 hp =
  bif px_cmp .ge v8 (gI hp v0 3) then apX v0 v1 v3 v4 v6 hp else bif px_cmp .lt v7 0 then apX v0 v1 v3 v4 v6 hp else
      bif px_inR v7 3000 then
      bif px_cmp .ne (lg_cmp (aL hp (gR hp v0 0) v7.toNatClampNeg) v1) 0 then
        bif px_inR v7 3000 then
        rc ((aI hp (gR hp v0 5) v7.toNatClampNeg) - (Int32.ofInt 1)) (v8 + Int32.ofInt 1) hp
        else none
      else
        bif px_inR v7 3000 then
        bif px_cmp .ne (aI hp (gR hp v0 1) v7.toNatClampNeg) v3 then
          bif px_inR v7 3000 then
          rc ((aI hp (gR hp v0 5) v7.toNatClampNeg) - (Int32.ofInt 1)) (v8 + Int32.ofInt 1) hp
          else none
        else
          bif px_inR v7 3000 then
          bif px_inR v7 3000 then
          sb (uL hp (gR hp v0 2) v7.toNatClampNeg ((aL hp (gR hp v0 2) v7.toNatClampNeg) + v4)) fun h79 =>
          some ((Int32.ofInt 1), h79)
          else none
          else none
        else none
      else none := rfl
theorem sub1 {m : Nat} (h1 : 1 ≤ m) (h2 : m < 2147483648) : Int32.ofNat m - Int32.ofInt 1 = Int32.ofNat (m - 1) := by
  rw [← Int32.toInt_inj, Int32.toInt_sub, nm_ofNat_toInt m h2, nm_ofNat_toInt (m - 1) (by omega), show (Int32.ofInt 1).toInt = 1 from by decide, Int.bmod_eq_of_le] <;> omega
/-- the last entry ahead of a place with these words -/
def fdC (h : px_H) (t : Nat) (s : Int64) (q : Int32) : Nat → Option Nat
  | 0 => none
  | n + 1 => if aL h (t + 1) n = s ∧ aI h (t + 2) n = q then some n else fdC h t s q n
theorem fdC_lst {s : Int64} {q : Int32} : ∀ n, fdC h t s q n = fdC h t s q (lst (hsF h t) (hN s q) n)
  | 0 => rfl
  | n + 1 => by
    unfold lst
    by_cases e : hsF h t n = hN s q
    · rw [if_pos e]
    · rw [if_neg e, ← fdC_lst n]
      conv => lhs; unfold fdC
      rw [if_neg]
      rintro ⟨e1, e2⟩
      refine e ?_
      unfold hsF
      rw [e1, e2]
theorem ad_L {n : Nat} {s : Int64} {q : Int32} {c : Int64} (ht : t ∈ tbs) (o : oS h) (n3 : n ≤ 3000) (hn : gI h t 3 = Int32.ofNat n) (hl : ∀ i, i < n → aI h (t + 5) i = Int32.ofNat (lst (hsF h t) (hsF h t i) i)) : ∀ (m v8 N : Nat), m ≤ n → v8 + m ≤ n → m < N → (0 < m → hsF h t (m - 1) = hN s q) →
    fn_Table_add_L21 t s q c (Int32.ofNat (hN s q)) N (Int32.ofNat m - Int32.ofInt 1) (Int32.ofNat v8) h = match fdC h t s q m with
      | some i => some (Int32.ofInt 1, uL h (t + 3) i (aL h (t + 3) i + c))
      | none => apX t s q c (Int32.ofNat (hN s q)) h := by
  intro m
  induction m using Nat.strongRecOn with
  | ind m ih =>
    intro v8 N hm hv hN' hb
    obtain ⟨N, rfl⟩ : ∃ k, N = k + 1 := ⟨N - 1, by omega⟩
    show fb_Table_add_L21 t s q c (Int32.ofNat (hN s q)) (fn_Table_add_L21 t s q c (Int32.ofNat (hN s q)) N) (Int32.ofNat m - Int32.ofInt 1) (Int32.ofNat v8) h = _
    rw [fb_ad, hn, ge_nat (by omega) (by omega)]
    by_cases h0 : m = 0
    · subst h0
      rw [show px_cmp .lt (Int32.ofNat 0 - Int32.ofInt 1) 0 = true from by decide, cond_true]
      cases decide (n ≤ v8) <;> rfl
    · have hm1 : 1 ≤ m := by omega
      rw [decide_eq_false (show ¬ n ≤ v8 by omega), cond_false, sub1 hm1 (by omega), lt0, nm_ofNat_toInt (m - 1) (by omega), decide_eq_false (show ¬ ((m - 1 : Nat) : Int) < 0 by omega), cond_false, nm_inR (m - 1) 3000 (by omega) (by omega), cond_true, cond_true, cond_true, nm_ofNat_clamp (m - 1) (by omega), (tb_ref ht o).1, (tb_ref ht o).2.1, (tb_ref ht o).2.2.1, (tb_ref ht o).2.2.2.2, px_lne, cmp_ne, hl (m - 1) (by omega), hb (by omega), inc1]
      have step : fn_Table_add_L21 t s q c (Int32.ofNat (hN s q)) N (Int32.ofNat (lst (hsF h t) (hN s q) (m - 1)) - Int32.ofInt 1) (Int32.ofNat (v8 + 1)) h = match fdC h t s q (m - 1) with
          | some i => some (Int32.ofInt 1, uL h (t + 3) i (aL h (t + 3) i + c))
          | none => apX t s q c (Int32.ofNat (hN s q)) h := by
        have l1 := lst_le (hsF h t) (hN s q) (m - 1)
        rw [fdC_lst (m - 1)]
        exact ih _ (by omega) (v8 + 1) N (by omega) (by omega) (by omega) (fun h9 => lst_at _ _ _ h9)
      have un : fdC h t s q m = if aL h (t + 1) (m - 1) = s ∧ aI h (t + 2) (m - 1) = q then some (m - 1) else fdC h t s q (m - 1) := by
        obtain ⟨k, rfl⟩ : ∃ k, m = k + 1 := ⟨m - 1, by omega⟩
        rfl
      rw [un]
      by_cases e1 : aL h (t + 1) (m - 1) = s
      · rw [decide_eq_false (show ¬ aL h (t + 1) (m - 1) ≠ s from fun q => q e1), cond_false]
        by_cases e2 : aI h (t + 2) (m - 1) = q
        · rw [decide_eq_true e2, Bool.not_true, cond_false, if_pos ⟨e1, e2⟩, sb_i]
          rfl
        · rw [decide_eq_false e2, Bool.not_false, cond_true, if_neg (fun q => e2 q.2)]
          exact step
      · rw [decide_eq_true (show aL h (t + 1) (m - 1) ≠ s from e1), cond_true, if_neg (fun q => e1 q.1)]
        exact step
theorem fdC_fnd {Q : Int64 → Int32 → KY → Prop} (inj : ∀ {s s' : Int64} {q q' : Int32} {k k' : KY}, Q s q k → Q s' q' k' → ((s = s' ∧ q = q') ↔ k = k')) {T : TB} {s : Int64} {q : Int32} {k : KY} (hq : Q s q k) : ∀ n, (∀ i, i < n → Q (aL h (t + 1) i) (aI h (t + 2) i) (T.2.1 i)) → fdC h t s q n = fnd T.2.1 k n
  | 0, _ => rfl
  | n + 1, hQ => by
    unfold fdC fnd
    rw [fdC_fnd inj hq n (fun i hi => hQ i (by omega))]
    have := inj (hQ n (by omega)) hq
    by_cases e : T.2.1 n = k
    · rw [if_pos e, if_pos (this.mpr e)]
    · rw [if_neg e, if_neg (fun x => e (this.mp x))]
theorem vp_updL_eq (f : Nat → Int64) (k : Nat) (v : Int64) (j : Nat) : vp_updL f k v j = if j = k then v else f j := rfl
/-- the class adds to a table -/
theorem ca_add {Q : Int64 → Int32 → KY → Prop} (inj : ∀ {s s' : Int64} {q q' : Int32} {k k' : KY}, Q s q k → Q s' q' k' → ((s = s' ∧ q = q') ↔ k = k')) {T : TB} {s : Int64} {q : Int32} {k : KY} {c : Int64} (ht : t ∈ tbs) (o : oS h) (hC : CT Q t T h) (hq : Q s q k) :
    ∃ h', fn_Table_add t s q c h = some (b01 (adT T k c).isSome, h') ∧ oS h' ∧ fz (Wtb t) (Vt t) h h' ∧ CT Q t (adI T k c) h' := by
  obtain ⟨hn, n3, hE, hH, hL⟩ := hC
  obtain ⟨v1, v2⟩ := hv_N s q
  have l1 := lst_le (hsF h t) (hN s q) T.1
  have e0 := ad_L (c := c) (s := s) (q := q) ht o n3 hn hL (lst (hsF h t) (hN s q) T.1) 0 fu l1 (by omega) (fu_lt (by omega)) (fun h9 => lst_at _ _ _ h9)
  rw [← fdC_lst, fdC_fnd inj hq T.1 (fun i hi => (hE i hi).1)] at e0
  have e1 : fn_Table_add t s q c h = match fnd T.2.1 k T.1 with
      | some i => some (Int32.ofInt 1, uL h (t + 3) i (aL h (t + 3) i + c))
      | none => apX t s q c (Int32.ofNat (hN s q)) h := by
    unfold fn_Table_add
    rw [hv_fn, Option.bind_some, v1, nm_inR (hN s q) 4096 v2 (by omega), cond_true, (tb_ref ht o).2.2.2.1, nm_ofNat_clamp (hN s q) (by omega), hH (hN s q) v2]
    exact e0
  obtain ⟨m1, m2, m3, m4, m5⟩ := tb_m ht
  rw [e1]
  unfold adI adT
  cases hf : fnd T.2.1 k T.1 with
  | some i =>
    obtain ⟨i1, i2⟩ := fnd_some hf
    have A3 : aL (uL h (t + 3) i (aL h (t + 3) i + c)) (t + 3) = vp_updL (aL h (t + 3)) i (aL h (t + 3) i + c) := aL_uL (cs := [32, 38, 44]) (t := 8) (n := 3000) rfl m3 o
    have A1 : aL (uL h (t + 3) i (aL h (t + 3) i + c)) (t + 1) = aL h (t + 1) := aL_uL_ne (by omega)
    have AI : ∀ x, aI (uL h (t + 3) i (aL h (t + 3) i + c)) x = aI h x := fun _ => aI_uL
    have F : hsF (uL h (t + 3) i (aL h (t + 3) i + c)) t = hsF h t := by funext j; unfold hsF; rw [A1, AI]
    refine ⟨uL h (t + 3) i (aL h (t + 3) i + c), rfl, oS_uL (cs := [32, 38, 44]) (t := 8) (n := 3000) rfl m3 o, fz_uL (Vt_t (by omega) (by omega)), gI_uL.trans hn, n3, fun j hj => ?_, ?_⟩
    · rw [A1, AI, A3]
      refine ⟨(hE j hj).1, ?_⟩
      show vp_updL (aL h (t + 3)) i (aL h (t + 3) i + c) j = vp_updL T.2.2 i (T.2.2 i + c) j
      rw [vp_updL_eq, vp_updL_eq, (hE i i1).2]
      by_cases e : j = i
      · rw [if_pos e, if_pos e]
      · rw [if_neg e, if_neg e]
        exact (hE j hj).2
    · unfold CH
      rw [F, AI, AI]
      exact ⟨hH, hL⟩
  | none =>
    by_cases h3 : T.1 = 3000
    · rw [if_pos h3]
      exact ⟨h, ap_no (by rw [hn, h3]), o, fz_rf, hn, n3, hE, hH, hL⟩
    · rw [if_neg h3]
      obtain ⟨h', p1, p2, p3, p4, p5, p6, p7, p8, p9⟩ := ap_ok (n := T.1) ht o hn (by omega) v2 s q c
      have Fo : ∀ j, j < T.1 → hsF h' t j = hsF h t j := fun j hj => by
        unfold hsF
        rw [p5, p6, vp_updL_eq, upd_eq, if_neg (by omega), if_neg (by omega)]
      have Fn : hsF h' t T.1 = hN s q := by
        unfold hsF
        rw [p5, p6, vp_updL_eq, upd_eq, if_pos rfl, if_pos rfl]
      refine ⟨h', p1, p2, p3, p4, by show T.1 + 1 ≤ 3000; omega, fun j hj => ?_, fun b hb => ?_, fun j hj => ?_⟩
      · simp only [Option.getD_some] at hj ⊢
        rw [p5, p6, p7, vp_updL_eq, upd_eq, vp_updL_eq, vp_updL_eq]
        by_cases e : j = T.1
        · rw [if_pos e, if_pos e, if_pos e, if_pos e, if_pos e]
          exact ⟨hq, rfl⟩
        · rw [if_neg e, if_neg e, if_neg e, if_neg e, if_neg e]
          exact hE j (by omega)
      · show aI h' (t + 4) b = Int32.ofNat (lst (hsF h' t) b (T.1 + 1))
        unfold lst
        rw [Fn, lst_cg b T.1 Fo, p8, upd_eq]
        by_cases e : b = hN s q
        · rw [if_pos e, if_pos e.symm]
        · rw [if_neg e, if_neg (fun x => e x.symm)]
          exact hH b hb
      · have hj : j < T.1 + 1 := hj
        rw [p9, upd_eq]
        by_cases e : j = T.1
        · subst e
          rw [if_pos rfl, Fn, lst_cg _ _ Fo]
          exact hH _ v2
        · rw [if_neg e, Fo j (by omega), lst_cg _ j (fun x hx => Fo x (by omega))]
          exact hL j (by omega)
/-! emptied -/
theorem cl_L {n : Nat} (ht : t ∈ tbs) (n3 : n ≤ 3000) {h0 : px_H} : ∀ (m i N : Nat) (h : px_H), i + m = n → m < N → oS h → gI h t 3 = Int32.ofNat n → aL h (t + 1) = aL h0 (t + 1) → aI h (t + 2) = aI h0 (t + 2) → (∀ b, b < 4096 → aI h (t + 4) b = if ∃ j, j < i ∧ hsF h0 t j = b then Int32.ofNat 0 else aI h0 (t + 4) b) →
    ∃ h', fn_Table_clear_L2 t N (Int32.ofNat i) h = some h' ∧ oS h' ∧ fz (Wtb t) (fun c => Nat.beq c (t + 4)) h h' ∧ gI h' t 3 = Int32.ofNat 0 ∧ ∀ b, b < 4096 → aI h' (t + 4) b = if ∃ j, j < n ∧ hsF h0 t j = b then Int32.ofNat 0 else aI h0 (t + 4) b := by
  intro m
  induction m with
  | zero =>
    intro i N h hi hN o hn e1 e2 hb
    obtain ⟨N, rfl⟩ : ∃ k, N = k + 1 := ⟨N - 1, by omega⟩
    have : i = n := by omega
    subst this
    show ∃ h', fb_Table_clear_L2 t (fn_Table_clear_L2 t N) (Int32.ofNat i) h = some h' ∧ _
    unfold fb_Table_clear_L2
    rw [hn, ge_t, cond_true, sb_i]
    exact ⟨_, rfl, oS_wI (cs := [29, 35, 41]) (ci := 4) rfl ht o, fz_wF Wt_t, gI_wF (cs := [29, 35, 41]) (ci := 4) rfl ht o, fun b hb9 => by rw [aI_wF]; exact hb b hb9⟩
  | succ m ih =>
    intro i N h hi hN' o hn e1 e2 hb
    obtain ⟨N, rfl⟩ : ∃ k, N = k + 1 := ⟨N - 1, by omega⟩
    show ∃ h', fb_Table_clear_L2 t (fn_Table_clear_L2 t N) (Int32.ofNat i) h = some h' ∧ _
    unfold fb_Table_clear_L2
    obtain ⟨v1, v2⟩ := hv_N (aL h (t + 1) i) (aI h (t + 2) i)
    have v3 : hN (aL h (t + 1) i) (aI h (t + 2) i) = hsF h0 t i := by unfold hsF; rw [e1, e2]
    rw [hn, ge_nat (by omega) (by omega), decide_eq_false (show ¬ n ≤ i by omega), cond_false, nm_inR i 3000 (by omega) (by omega), cond_true, cond_true, nm_ofNat_clamp i (by omega), (tb_ref ht o).1, (tb_ref ht o).2.1, hv_fn, Option.bind_some, v1, nm_inR _ 4096 v2 (by omega), cond_true, (tb_ref ht o).2.2.2.1, nm_ofNat_clamp _ (show hN (aL h (t + 1) i) (aI h (t + 2) i) < 2147483648 by omega), sb_i, inc1, v3]
    obtain ⟨m1, m2, m3, m4, m5⟩ := tb_m ht
    have o1 : oS (uI h (t + 4) (hsF h0 t i) (Int32.ofInt 0)) := oS_uI (cs := [33, 39, 45]) (t := 9) (n := 4096) rfl m4 o
    have g1 : gI (uI h (t + 4) (hsF h0 t i) (Int32.ofInt 0)) t 3 = Int32.ofNat n := gI_uI.trans hn
    have a1 : aL (uI h (t + 4) (hsF h0 t i) (Int32.ofInt 0)) (t + 1) = aL h0 (t + 1) := aL_uI.trans e1
    have a2 : aI (uI h (t + 4) (hsF h0 t i) (Int32.ofInt 0)) (t + 2) = aI h0 (t + 2) := (aI_uI_ne (by omega)).trans e2
    have a4 : aI (uI h (t + 4) (hsF h0 t i) (Int32.ofInt 0)) (t + 4) = upd (aI h (t + 4)) (hsF h0 t i) (Int32.ofInt 0) := aI_uI (cs := [33, 39, 45]) (t := 9) (n := 4096) rfl m4 o
    have f1 : fz (Wtb t) (fun c => Nat.beq c (t + 4)) h (uI h (t + 4) (hsF h0 t i) (Int32.ofInt 0)) := fz_uI (Nat.beq_refl _)
    obtain ⟨h', q1, q2, q3, q4, q5⟩ := ih (i + 1) N _ (by omega) (by omega) o1 g1 a1 a2 (fun b hb9 => by
      rw [a4, upd_eq]
      by_cases e : b = hsF h0 t i
      · rw [if_pos e, if_pos ⟨i, by omega, e.symm⟩]
        rfl
      · rw [if_neg e, hb b hb9]
        by_cases e9 : ∃ j, j < i ∧ hsF h0 t j = b
        · obtain ⟨j, j1, j2⟩ := e9
          rw [if_pos ⟨j, j1, j2⟩, if_pos ⟨j, by omega, j2⟩]
        · rw [if_neg e9, if_neg]
          rintro ⟨j, j1, j2⟩
          by_cases e8 : j = i
          · subst e8; exact e j2.symm
          · exact e9 ⟨j, by omega, j2⟩)
    exact ⟨h', q1, q2, fz_tr f1 q3, q4, q5⟩
theorem lst_0 (H : Nat → Nat) (b : Nat) : ∀ n, (¬ ∃ j, j < n ∧ H j = b) → lst H b n = 0
  | 0, _ => rfl
  | n + 1, h => by
    unfold lst
    rw [if_neg (fun e => h ⟨n, by omega, e⟩)]
    exact lst_0 H b n (fun ⟨j, j1, j2⟩ => h ⟨j, by omega, j2⟩)
theorem ca_clear (ht : t ∈ tbs) (o : oS h) (hC : CT0 t h) : ∃ h', fn_Table_clear t h = some h' ∧ oS h' ∧ fz (Wtb t) (fun c => Nat.beq c (t + 4)) h h' ∧ ∀ Q, CT Q t tE h' := by
  obtain ⟨n, n3, hn, hH, hL⟩ := hC
  obtain ⟨h', q1, q2, q3, q4, q5⟩ := cl_L ht n3 (h0 := h) n 0 fu h (by omega) (fu_lt (by omega)) o hn rfl rfl (fun b _ => by rw [if_neg]; rintro ⟨j, j1, -⟩; omega)
  refine ⟨h', q1, q2, q3, fun Q => ⟨q4, by decide, fun i hi => (by cases hi), fun b hb => ?_, fun i hi => by cases hi⟩⟩
  show aI h' (t + 4) b = Int32.ofNat 0
  rw [q5 b hb]
  by_cases e : ∃ j, j < n ∧ hsF h t j = b
  · rw [if_pos e]
  · rw [if_neg e, hH b hb, lst_0 _ _ _ e]
end tb_A
end mg_0

section mg_1
/-! the model's tables: open addressing -/
theorem least {P : Nat → Prop} : ∀ n, P n → ∃ m, m ≤ n ∧ P m ∧ ∀ j, j < m → ¬ P j := by
  intro n
  induction n using Nat.strongRecOn with
  | ind n ih =>
    intro h
    by_cases e : ∃ j, j < n ∧ P j
    · obtain ⟨j, j1, j2⟩ := e
      obtain ⟨m, m1, m2, m3⟩ := ih j j1 j2
      exact ⟨m, by omega, m2, m3⟩
    · exact ⟨n, Nat.le_refl n, h, fun j hj hp => e ⟨j, hj, hp⟩⟩
theorem pigeon : ∀ (n : Nat) (f : Nat → Nat), (∀ e, e ≤ n → f e < n) → ∃ a b, a < b ∧ b ≤ n ∧ f a = f b
  | 0, f, h => absurd (h 0 (Nat.le_refl 0)) (by omega)
  | n + 1, f, h => by
    by_cases hc : ∃ e, e ≤ n ∧ f e = f (n + 1)
    · obtain ⟨e, e1, e2⟩ := hc
      exact ⟨e, n + 1, by omega, by omega, e2⟩
    · obtain ⟨g, hg⟩ : ∃ g : Nat → Nat, ∀ e, g e = if f e = n then f (n + 1) else f e := ⟨_, fun _ => rfl⟩
      have h2 := h (n + 1) (by omega)
      have ne : ∀ e, e ≤ n → f e ≠ f (n + 1) := fun e he x => hc ⟨e, he, x⟩
      obtain ⟨a, b, ab, bn, e⟩ := pigeon n g (fun e he => by
        have h1 := h e (by omega)
        have h3 := ne e he
        rw [hg]
        split <;> omega)
      refine ⟨a, b, ab, by omega, ?_⟩
      have n1 := ne a (by omega)
      have n2 := ne b (by omega)
      rw [hg, hg] at e
      split at e <;> split at e <;> omega
def pl (a b : Int64) : Int32 := ((sx_lus ((((a * (Int64.ofInt 1000003)) + (b * (Int64.ofInt 7919))) ^^^ (sx_lus ((a * (Int64.ofInt 1000003)) + (b * (Int64.ofInt 7919))) (Int8.ofInt 31).toInt32)) * (Int64.ofInt 1000000007)) (Int8.ofInt 35).toInt32).toInt32 &&& (Int16.ofInt 8191).toInt32)
theorem pl_fn (a b : Int64) (h : px_H) : fn_M_placeOf a b h = some (pl a b) := rfl
def pN (k : KY) : Nat := (pl k.1 k.2).toNatClampNeg
theorem pl_N (k : KY) : pl k.1 k.2 = Int32.ofNat (pN k) ∧ pN k < 8192 := by
  have e : ∃ j, j ≤ 8191 ∧ pl k.1 k.2 = Int32.ofNat j := by
    unfold pl
    rw [show (Int16.ofInt 8191).toInt32 = Int32.ofNat 8191 from by decide]
    exact and_nat _ 8191 (by omega)
  obtain ⟨j, k1, k2⟩ := e
  unfold pN
  rw [k2, nm_ofNat_clamp j (by omega)]
  exact ⟨rfl, by omega⟩
theorem ix8 (t s : Nat) : Int32.ofNat t * (Int16.ofInt 8192).toInt32 + Int32.ofNat s = Int32.ofNat (t * 8192 + s) := by
  rw [show (Int16.ofInt 8192).toInt32 = Int32.ofNat 8192 from by decide, ← Int32.ofNat_mul, ← Int32.ofNat_add]
/-- the key that the model's chest makes -/
def kyOf (h : px_H) : KY := (f1v (aI h 88 0) (aI h 88 1) (aI h 89 0) (aI h 89 1) (gI h 69 32) (gI h 69 33), sc (aI h 90) 10)
/-- a table of the model -/
def MT (t : Nat) (T : TB) (h : px_H) : Prop := aI h 96 t = Int32.ofNat T.1 ∧ T.1 ≤ 3000 ∧ ∀ i, i < T.1 → aL h 93 (t * 3001 + i) = (T.2.1 i).1 ∧ aL h 94 (t * 3001 + i) = (T.2.1 i).2 ∧ aL h 95 (t * 3001 + i) = T.2.2 i
def FU (pos : Nat → Nat) (n s : Nat) : Prop := ∃ j, j < n ∧ pos j = s
def MP (t : Nat) (T : TB) (pos : Nat → Nat) (h : px_H) : Prop := (∀ i, i < T.1 → pos i < 8192 ∧ aI h 97 (t * 8192 + pos i) = Int32.ofNat i) ∧ (∀ s, s < 8192 → aI h 97 (t * 8192 + s) = Int32.ofInt (-1) ∨ FU pos T.1 s) ∧ ∀ i, i < T.1 → ∃ d, pos i = (pN (T.2.1 i) + d) % 8192 ∧ ∀ e, e < d → FU pos T.1 ((pN (T.2.1 i) + e) % 8192)
def MH (t : Nat) (T : TB) (h : px_H) : Prop := ∃ pos, MP t T pos h
/-- what adding to a table leaves as it was -/
def OT (t : Nat) (h h' : px_H) : Prop := (∀ j, ¬ (t * 3001 ≤ j ∧ j < t * 3001 + 3001) → aL h' 93 j = aL h 93 j ∧ aL h' 94 j = aL h 94 j ∧ aL h' 95 j = aL h 95 j) ∧ (∀ j, ¬ (t * 8192 ≤ j ∧ j < t * 8192 + 8192) → aI h' 97 j = aI h 97 j) ∧ ∀ j, j ≠ t → aI h' 96 j = aI h 96 j
theorem OT_rf {t : Nat} {h : px_H} : OT t h h := ⟨fun _ _ => ⟨rfl, rfl, rfl⟩, fun _ _ => rfl, fun _ _ => rfl⟩
theorem OT_tr {t : Nat} {h h' h'' : px_H} (a : OT t h h') (b : OT t h' h'') : OT t h h'' := ⟨fun j hj => ⟨(b.1 j hj).1.trans (a.1 j hj).1, (b.1 j hj).2.1.trans (a.1 j hj).2.1, (b.1 j hj).2.2.trans (a.1 j hj).2.2⟩, fun j hj => (b.2.1 j hj).trans (a.2.1 j hj), fun j hj => (b.2.2 j hj).trans (a.2.2 j hj)⟩
theorem MT_ot {t t' : Nat} (ht : t' ≠ t) {h h' : px_H} {T : TB} (a : OT t h h') (b : MT t' T h) : MT t' T h' := by
  obtain ⟨b1, b2, b3⟩ := b
  refine ⟨(a.2.2 t' ht).trans b1, b2, fun i hi => ?_⟩
  have e := a.1 (t' * 3001 + i) (by
    rcases Nat.lt_or_gt_of_ne ht with x | x <;> omega)
  rw [e.1, e.2.1, e.2.2]
  exact b3 i hi
theorem MH_ot {t t' : Nat} (ht : t' ≠ t) {h h' : px_H} {T : TB} (a : OT t h h') (b : MH t' T h) : MH t' T h' := by
  obtain ⟨pos, b1, b2, b3⟩ := b
  have e : ∀ s, s < 8192 → aI h' 97 (t' * 8192 + s) = aI h 97 (t' * 8192 + s) := fun s hs => a.2.1 _ (by
    rcases Nat.lt_or_gt_of_ne ht with x | x <;> omega)
  exact ⟨pos, fun i hi => ⟨(b1 i hi).1, (e _ (b1 i hi).1).trans (b1 i hi).2⟩, fun s hs => by rw [e s hs]; exact b2 s hs, b3⟩
def V9 (c : Nat) : Bool := Nat.ble 93 c && Nat.ble c 97
theorem MT_fz {t : Nat} {h h' : px_H} {T : TB} {W : Nat → Nat → Bool} {V : Nat → Bool} (a : fz W V h h') (v1 : V 93 = false) (v2 : V 94 = false) (v3 : V 95 = false) (v4 : V 96 = false) (b : MT t T h) : MT t T h' := by
  unfold MT
  rw [(a.2 96 v4).1, (a.2 93 v1).2, (a.2 94 v2).2, (a.2 95 v3).2]
  exact b
theorem MH_fz {t : Nat} {h h' : px_H} {T : TB} {W : Nat → Nat → Bool} {V : Nat → Bool} (a : fz W V h h') (v : V 97 = false) (b : MH t T h) : MH t T h' := by
  unfold MH MP
  rw [(a.2 97 v).1]
  exact b
/-! one more at the end -/
noncomputable def apM (v1 : Int32) (v2 : Int64) (v4 : Int64) (v6 : Int64) (v8 : Int32) (hp : px_H) : Option (Int32 × px_H) :=
    bif px_inR v1 3 then
    bif px_cmp .ne (aI hp 96 v1.toNatClampNeg) (Int16.ofInt 3000).toInt32 then
      bif px_inR v1 3 then
      bif px_inR ((v1 * (Int16.ofInt 8192).toInt32) + v8) 24576 then
      sb (uI hp 97 ((v1 * (Int16.ofInt 8192).toInt32) + v8).toNatClampNeg (aI hp 96 v1.toNatClampNeg)) fun h16 =>
      bif px_inR v1 3 then
      bif px_inR ((v1 * (Int16.ofInt 3001).toInt32) + (aI h16 96 v1.toNatClampNeg)) 9003 then
      sb (uL h16 93 ((v1 * (Int16.ofInt 3001).toInt32) + (aI h16 96 v1.toNatClampNeg)).toNatClampNeg v4) fun h22 =>
      bif px_inR ((v1 * (Int16.ofInt 3001).toInt32) + (aI h16 96 v1.toNatClampNeg)) 9003 then
      sb (uL h22 94 ((v1 * (Int16.ofInt 3001).toInt32) + (aI h16 96 v1.toNatClampNeg)).toNatClampNeg v6) fun h25 =>
      bif px_inR ((v1 * (Int16.ofInt 3001).toInt32) + (aI h16 96 v1.toNatClampNeg)) 9003 then
      sb (uL h25 95 ((v1 * (Int16.ofInt 3001).toInt32) + (aI h16 96 v1.toNatClampNeg)).toNatClampNeg v2) fun h28 =>
      bif px_inR v1 3 then
      bif px_inR v1 3 then
      sb (uI h28 96 v1.toNatClampNeg ((aI h28 96 v1.toNatClampNeg) + (Int32.ofInt 1))) fun h32 =>
      some ((Int32.ofInt 1), h32)
      else none
      else none
      else none
      else none
      else none
      else none
      else none
      else none
    else
      some ((Int32.ofInt 0), hp)
    else none
theorem fb_ads (v1 : Int32) (v2 : Int64) (v4 : Int64) (v6 : Int64) (rc : Int32 → px_H → Option (Int32 × px_H)) (v8 : Int32) (hp : px_H) : fb_M_adds_L21 v1 v2 v4 v6 rc v8 hp =
  bif px_inR ((v1 * (Int16.ofInt 8192).toInt32) + v8) 24576 then
  bif px_cmp .lt (aI hp 97 ((v1 * (Int16.ofInt 8192).toInt32) + v8).toNatClampNeg) 0 then apM v1 v2 v4 v6 v8 hp
  else
    bif px_inR ((v1 * (Int16.ofInt 8192).toInt32) + v8) 24576 then
    bif px_inR ((v1 * (Int16.ofInt 3001).toInt32) + (aI hp 97 ((v1 * (Int16.ofInt 8192).toInt32) + v8).toNatClampNeg)) 9003 then
    bif px_cmp .ne (lg_cmp (aL hp 93 ((v1 * (Int16.ofInt 3001).toInt32) + (aI hp 97 ((v1 * (Int16.ofInt 8192).toInt32) + v8).toNatClampNeg)).toNatClampNeg) v4) 0 then
      rc ((v8 + (Int32.ofInt 1)) &&& (Int16.ofInt 8191).toInt32) hp
    else
      bif px_inR ((v1 * (Int16.ofInt 3001).toInt32) + (aI hp 97 ((v1 * (Int16.ofInt 8192).toInt32) + v8).toNatClampNeg)) 9003 then
      bif px_cmp .ne (lg_cmp (aL hp 94 ((v1 * (Int16.ofInt 3001).toInt32) + (aI hp 97 ((v1 * (Int16.ofInt 8192).toInt32) + v8).toNatClampNeg)).toNatClampNeg) v6) 0 then
        rc ((v8 + (Int32.ofInt 1)) &&& (Int16.ofInt 8191).toInt32) hp
      else
        bif px_inR ((v1 * (Int16.ofInt 3001).toInt32) + (aI hp 97 ((v1 * (Int16.ofInt 8192).toInt32) + v8).toNatClampNeg)) 9003 then
        bif px_inR ((v1 * (Int16.ofInt 3001).toInt32) + (aI hp 97 ((v1 * (Int16.ofInt 8192).toInt32) + v8).toNatClampNeg)) 9003 then
        sb (uL hp 95 ((v1 * (Int16.ofInt 3001).toInt32) + (aI hp 97 ((v1 * (Int16.ofInt 8192).toInt32) + v8).toNatClampNeg)).toNatClampNeg ((aL hp 95 ((v1 * (Int16.ofInt 3001).toInt32) + (aI hp 97 ((v1 * (Int16.ofInt 8192).toInt32) + v8).toNatClampNeg)).toNatClampNeg) + v2)) fun h47 =>
        some ((Int32.ofInt 1), h47)
        else none
        else none
      else none
    else none
    else none
  else none := rfl
section tb_B
variable {h : px_H} {t : Nat}
theorem ne_3000 {n : Nat} (hn : n ≤ 3000) : px_cmp .ne (Int32.ofNat n) (Int16.ofInt 3000).toInt32 = !decide (n = 3000) := by
  rw [show (Int16.ofInt 3000).toInt32 = Int32.ofNat 3000 from by decide, cmp_ne]
  congr 1
  exact eq_nat (a := n) (b := 3000) (by omega) (by omega)
theorem am_no {v2 v4 v6 : Int64} {v8 : Int32} (t3 : t < 3) (hn : aI h 96 t = Int32.ofNat 3000) : apM (Int32.ofNat t) v2 v4 v6 v8 h = some (Int32.ofInt 0, h) := by
  unfold apM
  rw [nm_inR t 3 t3 (by omega), cond_true, nm_ofNat_clamp t (by omega), hn, ne_3000 (by omega), decide_eq_true rfl, Bool.not_true, cond_false]
theorem am_ok {n s : Nat} (t3 : t < 3) (o : oS h) (hn : aI h 96 t = Int32.ofNat n) (n3 : n < 3000) (hs : s < 8192) (c a b : Int64) : ∃ h', apM (Int32.ofNat t) c a b (Int32.ofNat s) h = some (Int32.ofInt 1, h') ∧ oS h' ∧ fz W0 V9 h h' ∧ aI h' 96 = upd (aI h 96) t (Int32.ofNat (n + 1)) ∧ aI h' 97 = upd (aI h 97) (t * 8192 + s) (Int32.ofNat n) ∧ aL h' 93 = vp_updL (aL h 93) (t * 3001 + n) a ∧ aL h' 94 = vp_updL (aL h 94) (t * 3001 + n) b ∧ aL h' 95 = vp_updL (aL h 95) (t * 3001 + n) c := by
  have cT := nm_ofNat_clamp t (by omega)
  have iT := nm_inR t 3 t3 (by omega)
  have iS := nm_inR (t * 8192 + s) 24576 (by omega) (by omega)
  have iN := nm_inR (t * 3001 + n) 9003 (by omega) (by omega)
  have cS := nm_ofNat_clamp (t * 8192 + s) (by omega)
  have cN := nm_ofNat_clamp (t * 3001 + n) (by omega)
  unfold apM
  rw [iT, cond_true, cT, hn, ne_3000 (by omega), decide_eq_false (show ¬ n = 3000 by omega), Bool.not_false, cond_true, cond_true, ix8, iS, cond_true, cS, sb_i]
  have o1 : oS (uI h 97 (t * 8192 + s) (Int32.ofNat n)) := oS_uI (cs := [97]) (t := nr_hash) (n := 24576) rfl List.mem_cons_self o
  have a1 : aI (uI h 97 (t * 8192 + s) (Int32.ofNat n)) 97 = upd (aI h 97) (t * 8192 + s) (Int32.ofNat n) := aI_uI (cs := [97]) (t := nr_hash) (n := 24576) rfl List.mem_cons_self o
  have b1 : aI (uI h 97 (t * 8192 + s) (Int32.ofNat n)) 96 = aI h 96 := aI_uI_ne (by decide)
  have c1 : ∀ x, aL (uI h 97 (t * 8192 + s) (Int32.ofNat n)) x = aL h x := fun _ => aL_uI
  have f1 : fz W0 V9 h (uI h 97 (t * 8192 + s) (Int32.ofNat n)) := fz_uI rfl
  generalize uI h 97 (t * 8192 + s) (Int32.ofNat n) = h1 at o1 a1 b1 c1 f1 ⊢
  rw [cond_true, b1, hn, nm_th_idx, iN]
  simp only [cond_true]
  rw [cN, sb_i]
  have o2 : oS (uL h1 93 (t * 3001 + n) a) := oS_uL (cs := [93]) (t := nr_one) (n := 9003) rfl List.mem_cons_self o1
  have a2 : aL (uL h1 93 (t * 3001 + n) a) 93 = vp_updL (aL h 93) (t * 3001 + n) a := by rw [aL_uL (cs := [93]) (t := nr_one) (n := 9003) rfl List.mem_cons_self o1, c1]
  have b2 : ∀ x, x ≠ 93 → aL (uL h1 93 (t * 3001 + n) a) x = aL h x := fun x hx => (aL_uL_ne hx).trans (c1 x)
  have c2 : ∀ x, aI (uL h1 93 (t * 3001 + n) a) x = aI h1 x := fun _ => aI_uL
  have f2 : fz W0 V9 h (uL h1 93 (t * 3001 + n) a) := fz_tr f1 (fz_uL rfl)
  generalize uL h1 93 (t * 3001 + n) a = h2 at o2 a2 b2 c2 f2 ⊢
  rw [sb_i]
  have o3 : oS (uL h2 94 (t * 3001 + n) b) := oS_uL (cs := [94]) (t := nr_other) (n := 9003) rfl List.mem_cons_self o2
  have a3 : aL (uL h2 94 (t * 3001 + n) b) 94 = vp_updL (aL h 94) (t * 3001 + n) b := by rw [aL_uL (cs := [94]) (t := nr_other) (n := 9003) rfl List.mem_cons_self o2, b2 94 (by decide)]
  have b3 : aL (uL h2 94 (t * 3001 + n) b) 93 = vp_updL (aL h 93) (t * 3001 + n) a := (aL_uL_ne (by decide)).trans a2
  have d3 : aL (uL h2 94 (t * 3001 + n) b) 95 = aL h 95 := (aL_uL_ne (by decide)).trans (b2 95 (by decide))
  have c3 : ∀ x, aI (uL h2 94 (t * 3001 + n) b) x = aI h1 x := fun x => aI_uL.trans (c2 x)
  have f3 : fz W0 V9 h (uL h2 94 (t * 3001 + n) b) := fz_tr f2 (fz_uL rfl)
  generalize uL h2 94 (t * 3001 + n) b = h3 at o3 a3 b3 d3 c3 f3 ⊢
  rw [sb_i]
  have o4 : oS (uL h3 95 (t * 3001 + n) c) := oS_uL (cs := [95]) (t := nr_part) (n := 9003) rfl List.mem_cons_self o3
  have a4 : aL (uL h3 95 (t * 3001 + n) c) 95 = vp_updL (aL h 95) (t * 3001 + n) c := by rw [aL_uL (cs := [95]) (t := nr_part) (n := 9003) rfl List.mem_cons_self o3, d3]
  have b4 : aL (uL h3 95 (t * 3001 + n) c) 93 = vp_updL (aL h 93) (t * 3001 + n) a := (aL_uL_ne (by decide)).trans b3
  have d4 : aL (uL h3 95 (t * 3001 + n) c) 94 = vp_updL (aL h 94) (t * 3001 + n) b := (aL_uL_ne (by decide)).trans a3
  have c4 : ∀ x, aI (uL h3 95 (t * 3001 + n) c) x = aI h1 x := fun x => aI_uL.trans (c3 x)
  have f4 : fz W0 V9 h (uL h3 95 (t * 3001 + n) c) := fz_tr f3 (fz_uL rfl)
  generalize uL h3 95 (t * 3001 + n) c = h4 at o4 a4 b4 d4 c4 f4 ⊢
  rw [c4 96, b1, hn, inc1, sb_i]
  refine ⟨_, rfl, oS_uI (cs := [96]) (t := nr_size) (n := 3) rfl List.mem_cons_self o4, fz_tr f4 (fz_uI rfl), ?_, ?_, ?_, ?_, ?_⟩
  · rw [aI_uI (cs := [96]) (t := nr_size) (n := 3) rfl List.mem_cons_self o4, c4, b1]
  · rw [aI_uI_ne (by decide), c4, a1]
  · rw [aL_uI, b4]
  · rw [aL_uI, d4]
  · rw [aL_uI, a4]
/-- a place is free before long -/
theorem MP_free {T : TB} {pos : Nat → Nat} (k0 : Nat) (n3 : T.1 ≤ 3000) (hP : MP t T pos h) : ∃ E, E ≤ 3000 ∧ ¬ FU pos T.1 ((k0 + E) % 8192) ∧ ∀ e, e < E → FU pos T.1 ((k0 + e) % 8192) := by
  have hex : ∃ e, e ≤ T.1 ∧ ¬ FU pos T.1 ((k0 + e) % 8192) := by
    refine Classical.byContradiction (fun hno => ?_)
    have h1 : ∀ e, ∃ j, e ≤ T.1 → j < T.1 ∧ pos j = (k0 + e) % 8192 := fun e => by
      by_cases he : e ≤ T.1
      · have : FU pos T.1 ((k0 + e) % 8192) := Classical.byContradiction (fun hn => hno ⟨e, he, hn⟩)
        obtain ⟨j, j1, j2⟩ := this
        exact ⟨j, fun _ => ⟨j1, j2⟩⟩
      · exact ⟨0, fun q => absurd q he⟩
    obtain ⟨f, hf⟩ := Classical.axiomOfChoice h1
    obtain ⟨a, b, ab, bn, e⟩ := pigeon T.1 f (fun e he => (hf e he).1)
    have e1 := (hf a (by omega)).2
    have e2 := (hf b bn).2
    rw [e, e2] at e1
    omega
  obtain ⟨e, e1, e2⟩ := hex
  obtain ⟨m, m1, m2, m3⟩ := least (P := fun e => ¬ FU pos T.1 ((k0 + e) % 8192)) e e2
  exact ⟨m, by omega, m2, fun j hj => Classical.byContradiction (m3 j hj)⟩
theorem as_L {T : TB} {pos : Nat → Nat} {k : KY} {c : Int64} {E : Nat} (t3 : t < 3) (hT : MT t T h) (hP : MP t T pos h) (hd : dT T) (hE1 : ¬ FU pos T.1 ((pN k + E) % 8192)) (hE2 : ∀ e, e < E → FU pos T.1 ((pN k + e) % 8192)) : ∀ (m e N : Nat), e + m = E → m < N → (∀ e', e' < e → ∀ j, j < T.1 → pos j = (pN k + e') % 8192 → T.2.1 j ≠ k) →
    fn_M_adds_L21 (Int32.ofNat t) c k.1 k.2 N (Int32.ofNat ((pN k + e) % 8192)) h = match fnd T.2.1 k T.1 with
      | some i => some (Int32.ofInt 1, uL h 95 (t * 3001 + i) (aL h 95 (t * 3001 + i) + c))
      | none => apM (Int32.ofNat t) c k.1 k.2 (Int32.ofNat ((pN k + E) % 8192)) h := by
  obtain ⟨hn, n3, hEn⟩ := hT
  obtain ⟨p1, p2, p3⟩ := hP
  intro m
  induction m with
  | zero =>
    intro e N he hN hno
    obtain ⟨N, rfl⟩ : ∃ k, N = k + 1 := ⟨N - 1, by omega⟩
    have : e = E := by omega
    subst this
    have hl : (pN k + e) % 8192 < 8192 := Nat.mod_lt _ (by omega)
    have hemp : aI h 97 (t * 8192 + (pN k + e) % 8192) = Int32.ofInt (-1) := (p2 _ hl).resolve_right hE1
    have hf : fnd T.2.1 k T.1 = none := fnd_of (fun j hj ej => by
      obtain ⟨d, d1, d2⟩ := p3 j hj
      rw [ej] at d1 d2
      rcases Nat.lt_trichotomy d e with x | x | x
      · exact hno d x j hj d1 ej
      · subst x
        exact hE1 ⟨j, hj, d1⟩
      · exact hE1 (d2 e x))
    show fb_M_adds_L21 (Int32.ofNat t) c k.1 k.2 (fn_M_adds_L21 (Int32.ofNat t) c k.1 k.2 N) (Int32.ofNat ((pN k + e) % 8192)) h = _
    rw [fb_ads, ix8, nm_inR _ 24576 (show t * 8192 + (pN k + e) % 8192 < 24576 by omega) (by omega), cond_true, nm_ofNat_clamp _ (show t * 8192 + (pN k + e) % 8192 < 2147483648 by omega), hemp, show px_cmp .lt (Int32.ofInt (-1)) 0 = true from by decide, cond_true, hf]
  | succ m ih =>
    intro e N he hN hno
    obtain ⟨N, rfl⟩ : ∃ k, N = k + 1 := ⟨N - 1, by omega⟩
    have hl : (pN k + e) % 8192 < 8192 := Nat.mod_lt _ (by omega)
    obtain ⟨j, j1, j2⟩ := hE2 e (by omega)
    have hv := (p1 j j1).2
    rw [j2] at hv
    obtain ⟨y1, y2, y3⟩ := hEn j j1
    have nx : Int32.ofNat ((pN k + e) % 8192) + Int32.ofInt 1 &&& (Int16.ofInt 8191).toInt32 = Int32.ofNat ((pN k + (e + 1)) % 8192) := by
      rw [nm_next8 _ hl]
      congr 1
      omega
    show fb_M_adds_L21 (Int32.ofNat t) c k.1 k.2 (fn_M_adds_L21 (Int32.ofNat t) c k.1 k.2 N) (Int32.ofNat ((pN k + e) % 8192)) h = _
    rw [fb_ads, ix8, nm_inR _ 24576 (show t * 8192 + (pN k + e) % 8192 < 24576 by omega) (by omega), cond_true, nm_ofNat_clamp _ (show t * 8192 + (pN k + e) % 8192 < 2147483648 by omega), hv, lt0, nm_ofNat_toInt j (by omega), decide_eq_false (show ¬ ((j : Nat) : Int) < 0 by omega), cond_false, cond_true, nm_th_idx, nm_inR _ 9003 (show t * 3001 + j < 9003 by omega) (by omega), cond_true, cond_true, cond_true, cond_true, nm_ofNat_clamp _ (show t * 3001 + j < 2147483648 by omega), y1, y2, px_lne, px_lne, nx]
    by_cases e1 : T.2.1 j = k
    · rw [e1, decide_eq_false (show ¬ k.1 ≠ k.1 from fun q => q rfl), decide_eq_false (show ¬ k.2 ≠ k.2 from fun q => q rfl), cond_false, cond_false, fnd_at hd (Nat.le_refl _) j1 e1, sb_i]
    · have step := ih (e + 1) N (by omega) (by omega) (fun e' he' j' hj' hp' => by
        by_cases x : e' = e
        · subst x
          have a1 := (p1 j' hj').2
          rw [hp', hv] at a1
          have := oN_inj (a := j) (b := j') (by omega) (by omega) a1
          subst this
          exact e1
        · exact hno e' (by omega) j' hj' hp')
      by_cases q1 : (T.2.1 j).1 = k.1
      · have q2 : (T.2.1 j).2 ≠ k.2 := fun x => e1 (Prod.ext q1 x)
        rw [decide_eq_false (show ¬ (T.2.1 j).1 ≠ k.1 from fun q => q q1), cond_false, decide_eq_true (show (T.2.1 j).2 ≠ k.2 from q2), cond_true]
        exact step
      · rw [decide_eq_true (show (T.2.1 j).1 ≠ k.1 from q1), cond_true]
        exact step
/-- the model adds to a table -/
theorem cm_add {T : TB} {c : Int64} (t3 : t < 3) (o : oS h) (hT : MT t T h) (hH : MH t T h) (hd : dT T) :
    ∃ h', fn_M_adds (Int32.ofNat t) c h = some (b01 (adT T (kyOf h) c).isSome, h') ∧ oS h' ∧ fz W0 V9 h h' ∧ MT t (adI T (kyOf h) c) h' ∧ MH t (adI T (kyOf h) c) h' ∧ OT t h h' := by
  obtain ⟨pos, hP⟩ := hH
  obtain ⟨v1, v2⟩ := pl_N (kyOf h)
  obtain ⟨E, E0, E1, E2⟩ := MP_free (pN (kyOf h)) hT.2.1 hP
  have e0 := as_L (c := c) t3 hT hP hd E1 E2 E 0 fu (by omega) (fu_lt (by omega)) (fun e' he' => by omega)
  rw [show (pN (kyOf h) + 0) % 8192 = pN (kyOf h) from by omega] at e0
  have e1 : fn_M_adds (Int32.ofNat t) c h = match fnd T.2.1 (kyOf h) T.1 with
      | some i => some (Int32.ofInt 1, uL h 95 (t * 3001 + i) (aL h 95 (t * 3001 + i) + c))
      | none => apM (Int32.ofNat t) c (kyOf h).1 (kyOf h).2 (Int32.ofNat ((pN (kyOf h) + E) % 8192)) h := by
    unfold fn_M_adds
    rw [vl_first, Option.bind_some, vl_second, Option.bind_some, pl_fn, Option.bind_some]
    show fn_M_adds_L21 (Int32.ofNat t) c (kyOf h).1 (kyOf h).2 fu (pl (kyOf h).1 (kyOf h).2) h = _
    rw [v1]
    exact e0
  rw [e1]
  generalize kyOf h = k at *
  obtain ⟨hn, n3, hEn⟩ := hT
  obtain ⟨p1, p2, p3⟩ := hP
  unfold adI adT
  cases hf : fnd T.2.1 k T.1 with
  | some i =>
    obtain ⟨i1, i2⟩ := fnd_some hf
    have A5 : aL (uL h 95 (t * 3001 + i) (aL h 95 (t * 3001 + i) + c)) 95 = vp_updL (aL h 95) (t * 3001 + i) (aL h 95 (t * 3001 + i) + c) := aL_uL (cs := [95]) (t := nr_part) (n := 9003) rfl List.mem_cons_self o
    have AL : ∀ x, x ≠ 95 → aL (uL h 95 (t * 3001 + i) (aL h 95 (t * 3001 + i) + c)) x = aL h x := fun _ hx => aL_uL_ne hx
    have AI : ∀ x, aI (uL h 95 (t * 3001 + i) (aL h 95 (t * 3001 + i) + c)) x = aI h x := fun _ => aI_uL
    refine ⟨_, rfl, oS_uL (cs := [95]) (t := nr_part) (n := 9003) rfl List.mem_cons_self o, fz_uL rfl, ⟨by rw [AI]; exact hn, n3, fun j hj => ?_⟩, ⟨pos, by unfold MP; rw [AI]; exact ⟨p1, p2, p3⟩⟩, fun j hj => ?_, fun j _ => by rw [AI], fun j _ => by rw [AI]⟩
    · have hj : j < T.1 := hj
      rw [AL 93 (by decide), AL 94 (by decide), A5, vp_updL_eq]
      refine ⟨(hEn j hj).1, (hEn j hj).2.1, ?_⟩
      show _ = vp_updL T.2.2 i (T.2.2 i + c) j
      rw [vp_updL_eq, (hEn i i1).2.2]
      by_cases e : j = i
      · subst e
        rw [if_pos rfl, if_pos rfl]
      · rw [if_neg (by omega), if_neg e]
        exact (hEn j hj).2.2
    · rw [AL 93 (by decide), AL 94 (by decide), A5, vp_updL_eq, if_neg (by omega)]
      exact ⟨rfl, rfl, rfl⟩
  | none =>
    by_cases h3 : T.1 = 3000
    · rw [if_pos h3]
      exact ⟨h, am_no t3 (by rw [hn, h3]), o, fz_rf, ⟨hn, n3, hEn⟩, ⟨pos, p1, p2, p3⟩, OT_rf⟩
    · rw [if_neg h3]
      have hl : (pN k + E) % 8192 < 8192 := Nat.mod_lt _ (by omega)
      obtain ⟨h', q1, q2, q3, q4, q5, q6, q7, q8⟩ := am_ok (n := T.1) t3 o hn (by omega) hl c k.1 k.2
      have psE : ∀ i, i < T.1 → pos i ≠ (pN k + E) % 8192 := fun i hi x => E1 ⟨i, hi, x⟩
      have FUm : ∀ s, FU pos T.1 s → FU (fun j => if j = T.1 then (pN k + E) % 8192 else pos j) (T.1 + 1) s := by
        rintro s ⟨j, j1, j2⟩
        refine ⟨j, by omega, ?_⟩
        show (if j = T.1 then (pN k + E) % 8192 else pos j) = s
        rw [if_neg (by omega)]
        exact j2
      refine ⟨h', q1, q2, q3, ⟨by rw [q4, upd_eq, if_pos rfl]; rfl, by show T.1 + 1 ≤ 3000; omega, fun j hj => ?_⟩, ⟨fun j => if j = T.1 then (pN k + E) % 8192 else pos j, fun j hj => ?_, fun s hs => ?_, fun j hj => ?_⟩, fun j hj => ?_, fun j hj => ?_, fun j hj => by rw [q4, upd_eq, if_neg hj]⟩
      · have hj : j < T.1 + 1 := hj
        rw [q6, q7, q8, vp_updL_eq, vp_updL_eq, vp_updL_eq]
        show _ = (if j = T.1 then k else T.2.1 j).1 ∧ _ = (if j = T.1 then k else T.2.1 j).2 ∧ _ = vp_updL T.2.2 T.1 c j
        rw [vp_updL_eq]
        by_cases e : j = T.1
        · subst e
          rw [if_pos rfl, if_pos rfl, if_pos rfl, if_pos rfl, if_pos rfl]
          exact ⟨rfl, rfl, rfl⟩
        · simp only [if_neg e, if_neg (show ¬ (t * 3001 + j = t * 3001 + T.1) by omega)]
          exact hEn j (by omega)
      · have hj : j < T.1 + 1 := hj
        rw [q5, upd_eq]
        show (if j = T.1 then (pN k + E) % 8192 else pos j) < 8192 ∧ (if t * 8192 + (if j = T.1 then (pN k + E) % 8192 else pos j) = t * 8192 + (pN k + E) % 8192 then Int32.ofNat T.1 else aI h 97 (t * 8192 + (if j = T.1 then (pN k + E) % 8192 else pos j))) = Int32.ofNat j
        by_cases e : j = T.1
        · rw [if_pos e, if_pos rfl, e]
          exact ⟨hl, rfl⟩
        · have hj2 : j < T.1 := by omega
          rw [if_neg e, if_neg (fun x => psE j hj2 (by omega))]
          exact p1 j hj2
      · rw [q5, upd_eq]
        by_cases e : s = (pN k + E) % 8192
        · refine Or.inr ⟨T.1, by show T.1 < T.1 + 1; omega, ?_⟩
          show (if T.1 = T.1 then (pN k + E) % 8192 else pos T.1) = s
          rw [if_pos rfl, e]
        · rw [if_neg (by omega)]
          rcases p2 s hs with x | x
          · exact Or.inl x
          · exact Or.inr (FUm s x)
      · have hj : j < T.1 + 1 := hj
        show ∃ d, (if j = T.1 then (pN k + E) % 8192 else pos j) = (pN (if j = T.1 then k else T.2.1 j) + d) % 8192 ∧ ∀ e, e < d → FU (fun j => if j = T.1 then (pN k + E) % 8192 else pos j) (T.1 + 1) ((pN (if j = T.1 then k else T.2.1 j) + e) % 8192)
        by_cases e : j = T.1
        · rw [if_pos e, if_pos e]
          exact ⟨E, rfl, fun x hx => FUm _ (E2 x hx)⟩
        · rw [if_neg e, if_neg e]
          obtain ⟨d, d1, d2⟩ := p3 j (by omega)
          exact ⟨d, d1, fun x hx => FUm _ (d2 x hx)⟩
      · rw [q6, q7, q8, vp_updL_eq, vp_updL_eq, vp_updL_eq, if_neg (by omega), if_neg (by omega), if_neg (by omega)]
        exact ⟨rfl, rfl, rfl⟩
      · rw [q5, upd_eq, if_neg (by omega)]
/-! emptied -/
theorem em_L (t3 : t < 3) {h0 : px_H} : ∀ (m s N : Nat) (h : px_H), s + m = 8192 → m < N → oS h → fz W0 (fun c => Nat.beq c 97) h0 h → (∀ j, aI h 97 j = if t * 8192 ≤ j ∧ j < t * 8192 + s then Int32.ofInt (-1) else aI h0 97 j) →
    ∃ h', fn_M_empties_L9 (Int32.ofNat t) N (Int32.ofNat s) h = some h' ∧ oS h' ∧ fz W0 (fun c => Nat.beq c 97) h0 h' ∧ ∀ j, aI h' 97 j = if t * 8192 ≤ j ∧ j < t * 8192 + 8192 then Int32.ofInt (-1) else aI h0 97 j := by
  intro m
  induction m with
  | zero =>
    intro s N h hs hN o f hj
    obtain ⟨N, rfl⟩ : ∃ k, N = k + 1 := ⟨N - 1, by omega⟩
    have : s = 8192 := by omega
    subst this
    refine ⟨h, ?_, o, f, hj⟩
    show fb_M_empties_L9 (Int32.ofNat t) (fn_M_empties_L9 (Int32.ofNat t) N) (Int32.ofNat 8192) h = _
    unfold fb_M_empties_L9
    rw [show px_cmp .ge (Int32.ofNat 8192) (Int16.ofInt 8192).toInt32 = true from by decide, cond_true]
  | succ m ih =>
    intro s N h hs hN o f hj
    obtain ⟨N, rfl⟩ : ∃ k, N = k + 1 := ⟨N - 1, by omega⟩
    show ∃ h', fb_M_empties_L9 (Int32.ofNat t) (fn_M_empties_L9 (Int32.ofNat t) N) (Int32.ofNat s) h = some h' ∧ _
    unfold fb_M_empties_L9
    rw [show (Int16.ofInt 8192).toInt32 = Int32.ofNat 8192 from by decide, ge_nat (by omega) (by omega), decide_eq_false (show ¬ 8192 ≤ s by omega), cond_false, show Int32.ofNat 8192 = (Int16.ofInt 8192).toInt32 from by decide, ix8, nm_inR _ 24576 (show t * 8192 + s < 24576 by omega) (by omega), cond_true, nm_ofNat_clamp _ (show t * 8192 + s < 2147483648 by omega), sb_i, inc1]
    have a1 : aI (uI h 97 (t * 8192 + s) (Int32.ofInt (-1))) 97 = upd (aI h 97) (t * 8192 + s) (Int32.ofInt (-1)) := aI_uI (cs := [97]) (t := nr_hash) (n := 24576) rfl List.mem_cons_self o
    refine ih (s + 1) N _ (by omega) (by omega) (oS_uI (cs := [97]) (t := nr_hash) (n := 24576) rfl List.mem_cons_self o) (fz_tr f (fz_uI rfl)) (fun j => ?_)
    rw [a1, upd_eq, hj]
    by_cases e : j = t * 8192 + s
    · rw [if_pos e, if_pos (by omega)]
    · rw [if_neg e]
      by_cases e2 : t * 8192 ≤ j ∧ j < t * 8192 + s
      · rw [if_pos e2, if_pos (by omega)]
      · rw [if_neg e2, if_neg (by omega)]
theorem cm_empties (t3 : t < 3) (o : oS h) : ∃ h', fn_M_empties (Int32.ofNat t) h = some h' ∧ oS h' ∧ fz W0 V9 h h' ∧ MT t tE h' ∧ MH t tE h' ∧ OT t h h' := by
  unfold fn_M_empties
  rw [nm_inR t 3 t3 (by omega), cond_true, nm_ofNat_clamp t (by omega), sb_i]
  have o1 : oS (uI h 96 t (Int32.ofInt 0)) := oS_uI (cs := [96]) (t := nr_size) (n := 3) rfl List.mem_cons_self o
  have a1 : aI (uI h 96 t (Int32.ofInt 0)) 96 = upd (aI h 96) t (Int32.ofInt 0) := aI_uI (cs := [96]) (t := nr_size) (n := 3) rfl List.mem_cons_self o
  have b1 : aI (uI h 96 t (Int32.ofInt 0)) 97 = aI h 97 := aI_uI_ne (by decide)
  have c1 : ∀ x, aL (uI h 96 t (Int32.ofInt 0)) x = aL h x := fun _ => aL_uI
  have f1 : fz W0 V9 h (uI h 96 t (Int32.ofInt 0)) := fz_uI rfl
  generalize uI h 96 t (Int32.ofInt 0) = h1 at o1 a1 b1 c1 f1 ⊢
  obtain ⟨h', q1, q2, q3, q4⟩ := em_L t3 (h0 := h1) 8192 0 fu h1 (by omega) (fu_lt (by omega)) o1 fz_rf (fun j => by rw [if_neg (by omega)])
  have e6 : aI h' 96 = upd (aI h 96) t (Int32.ofInt 0) := ((q3.2 96 rfl).1).trans a1
  have eL : ∀ x, x ≠ 97 → aL h' x = aL h x := fun x hx => ((q3.2 x (by
    cases hb : Nat.beq x 97 with
    | false => exact hb
    | true => exact absurd (Nat.eq_of_beq_eq_true hb) hx)).2).trans (c1 x)
  refine ⟨h', q1, q2, fz_tr f1 (fz_mono q3 (fun _ _ _ => rfl) (fun c hc => ?_)), ⟨by rw [e6, upd_eq, if_pos rfl]; rfl, by decide, fun i hi => by cases hi⟩, ⟨fun _ => 0, fun i hi => (by cases hi), fun s hs => Or.inl (by rw [q4, if_pos (by omega)]), fun i hi => by cases hi⟩, fun j hj => by rw [eL 93 (by decide), eL 94 (by decide), eL 95 (by decide)]; exact ⟨rfl, rfl, rfl⟩, fun j hj => by rw [q4, if_neg hj, b1], fun j hj => by rw [e6, upd_eq, if_neg hj]⟩
  cases hb : Nat.beq c 97 with
  | false => rfl
  | true =>
    have := Nat.eq_of_beq_eq_true hb
    subst this
    cases hc
end tb_B
end mg_1

section mg_2
/-! keys: words of a chest, with nothing above its bits -/
def VKy (k : KY) : Prop := (∀ j, 60 ≤ j → j < 64 → lb k.1 j = false) ∧ ∀ j, 30 ≤ j → j < 64 → lb k.2 j = false
theorem lb_pv {x y : Int64} (h : ∀ w, w < 6 → pv x w = pv y w) {j : Nat} (hj : j < 60) : lb x j = lb y j := by
  have e := h (j / 10) (by omega)
  have a := pv_ib x (w := j / 10) (i := j % 10) (by omega) (by omega)
  have b := pv_ib y (w := j / 10) (i := j % 10) (by omega) (by omega)
  rw [show 10 * (j / 10) + j % 10 = j from by omega] at a b
  rw [← a, ← b, e]
theorem lb_uq {x y : Int64} (h : ∀ p, p < 10 → uq x p = uq y p) {j : Nat} (hj : j < 30) : lb x j = lb y j := by
  have e := h (9 - j / 3) (by omega)
  have a := uq_ib x (p := 9 - j / 3) (i := j % 3) (by omega)
  have b := uq_ib y (p := 9 - j / 3) (i := j % 3) (by omega)
  rw [show 3 * (9 - (9 - j / 3)) + j % 3 = j from by omega] at a b
  rw [← a, ← b, e]
theorem ib_sq {x y : Int32} (h : ∀ p, p < 10 → sq x p = sq y p) {j : Nat} (hj : j < 30) : ib x j = ib y j := by
  have e := h (j / 3) (by omega)
  have a := sq_ib x (p := j / 3) (i := j % 3) (by omega) (by omega)
  have b := sq_ib y (p := j / 3) (i := j % 3) (by omega) (by omega)
  rw [show 3 * (j / 3) + j % 3 = j from by omega] at a b
  rw [← a, ← b, e]
theorem ky_ext {k k' : KY} (v : VKy k) (v' : VKy k') (h1 : ∀ w, w < 6 → pv k.1 w = pv k'.1 w) (h2 : ∀ p, p < 10 → uq k.2 p = uq k'.2 p) : k = k' := by
  refine Prod.ext (lb_ext (fun j hj => ?_)) (lb_ext (fun j hj => ?_))
  · by_cases h : j < 60
    · exact lb_pv h1 h
    · rw [v.1 j (by omega) hj, v'.1 j (by omega) hj]
  · by_cases h : j < 30
    · exact lb_uq h2 h
    · rw [v.2 j (by omega) hj, v'.2 j (by omega) hj]
theorem sc_hi {f : Nat → Int32} (hf : ∀ p, p < 10 → s3 (f p)) : ∀ (k j : Nat), k ≤ 10 → 3 * k ≤ j → j < 64 → lb (sc f k) j = false
  | 0, j, _, _, hj => (lb_c hj).1
  | k + 1, j, hk, h1, h2 => by
    show lb ((sx_lsl (sc f k) (Int32.ofInt 3)) ||| (f k).toInt64) j = false
    rw [show Int32.ofInt 3 = Int32.ofNat 3 from by decide, lb_or, lb_sl _ (by omega), lb_i2l_s3 (hf k (by omega)), hf k (by omega) j (by omega), sc_hi hf k (j - 3) (by omega) (by omega) (by omega), Bool.and_false]
    rfl
/-- what a chest of the model may hold -/
def SMs (h : px_H) : Prop := (∀ j, j < 2 → sm (aI h 88 j) ∧ sm (aI h 89 j)) ∧ sm (gI h 69 32) ∧ sm (gI h 69 33) ∧ ∀ p, p < 10 → s3 (aI h 90 p)
/-- a chest of the model is this key's -/
def UP (k : KY) (h : px_H) : Prop := (∀ j, j < 2 → aI h 88 j = pv k.1 j ∧ aI h 89 j = pv k.1 (2 + j)) ∧ gI h 69 32 = pv k.1 4 ∧ gI h 69 33 = pv k.1 5 ∧ ∀ p, p < 10 → aI h 90 p = uq k.2 p
section tb_C
variable {h h' : px_H} {k : KY}
theorem VK_of (s : SMs h) : VKy (kyOf h) := by
  refine ⟨fun j h1 h2 => ?_, fun j h1 h2 => sc_hi s.2.2.2 10 j (by omega) (by omega) h2⟩
  show lb (f1v (aI h 88 0) (aI h 88 1) (aI h 89 0) (aI h 89 1) (gI h 69 32) (gI h 69 33)) j = false
  rw [f1_lb (s.1 0 (by omega)).1 (s.1 1 (by omega)).1 (s.1 0 (by omega)).2 (s.1 1 (by omega)).2 s.2.1 s.2.2.1 h2, (s.1 0 (by omega)).1 j (by omega), (s.1 1 (by omega)).1 (j - 10) (by omega), (s.1 0 (by omega)).2 (j - 20) (by omega), (s.1 1 (by omega)).2 (j - 30) (by omega), s.2.1 (j - 40) (by omega), s.2.2.1 (j - 50) (by omega)]
  simp
theorem UP_of (s : SMs h) : UP (kyOf h) h := by
  obtain ⟨p0, p1, p2, p3, p4, p5⟩ := f1_pv (s.1 0 (by omega)).1 (s.1 1 (by omega)).1 (s.1 0 (by omega)).2 (s.1 1 (by omega)).2 s.2.1 s.2.2.1
  refine ⟨fun j hj => ?_, p4.symm, p5.symm, fun p hp => (uq_sc s.2.2.2 hp).symm⟩
  match j, hj with
  | 0, _ => exact ⟨p0.symm, p2.symm⟩
  | 1, _ => exact ⟨p1.symm, p3.symm⟩
  | j + 2, h => omega
theorem SM_UP (u : UP k h) : SMs h := ⟨fun j hj => ⟨by rw [(u.1 j hj).1]; exact pv_sm _ _, by rw [(u.1 j hj).2]; exact pv_sm _ _⟩, by rw [u.2.1]; exact pv_sm _ _, by rw [u.2.2.1]; exact pv_sm _ _, fun p hp => by rw [u.2.2.2 p hp]; exact uq_s3 _ _⟩
theorem UP_pv (u : UP k h) : ∀ w, w < 6 → pv k.1 w = if w = 0 then aI h 88 0 else if w = 1 then aI h 88 1 else if w = 2 then aI h 89 0 else if w = 3 then aI h 89 1 else if w = 4 then gI h 69 32 else gI h 69 33 := by
  intro w hw
  match w, hw with
  | 0, _ => exact (u.1 0 (by omega)).1.symm
  | 1, _ => exact (u.1 1 (by omega)).1.symm
  | 2, _ => exact (u.1 0 (by omega)).2.symm
  | 3, _ => exact (u.1 1 (by omega)).2.symm
  | 4, _ => exact u.2.1.symm
  | 5, _ => exact u.2.2.1.symm
  | w + 6, h => omega
theorem UP_fn {k' : KY} (u : UP k h) (u' : UP k' h) (v : VKy k) (v' : VKy k') : k = k' := ky_ext v v' (fun w hw => by rw [UP_pv u w hw, UP_pv u' w hw]) (fun p hp => by rw [← u.2.2.2 p hp, ← u'.2.2.2 p hp])
theorem ky_UP (u : UP k h) (v : VKy k) : kyOf h = k := UP_fn (UP_of (SM_UP u)) u (VK_of (SM_UP u)) v
theorem sc_cg {f g : Nat → Int32} : ∀ k, (∀ p, p < k → f p = g p) → sc f k = sc g k
  | 0, _ => rfl
  | k + 1, e => by
    show (sx_lsl (sc f k) (Int32.ofInt 3)) ||| (f k).toInt64 = (sx_lsl (sc g k) (Int32.ofInt 3)) ||| (g k).toInt64
    rw [sc_cg k (fun p hp => e p (by omega)), e k (by omega)]
theorem ky_cg (e8 : ∀ j, j < 2 → aI h 88 j = aI h' 88 j ∧ aI h 89 j = aI h' 89 j) (e2 : gI h 69 32 = gI h' 69 32) (e3 : gI h 69 33 = gI h' 69 33) (e0 : ∀ p, p < 10 → aI h 90 p = aI h' 90 p) : kyOf h = kyOf h' := by
  unfold kyOf
  rw [(e8 0 (by omega)).1, (e8 1 (by omega)).1, (e8 0 (by omega)).2, (e8 1 (by omega)).2, e2, e3, sc_cg 10 e0]
/-! what the drawings hang on, chests aside -/
def Wq (c k : Nat) : Bool := !(Nat.beq c 69 && (Nat.beq k 3 || (Nat.beq k 11 || (Nat.beq k 15 || Nat.beq k 20))))
def Vq (c : Nat) : Bool := !((Nat.ble 71 c && Nat.ble c 81) || (Nat.beq c 83 || Nat.beq c 84))
theorem fz_sy {W : Nat → Nat → Bool} {V : Nat → Bool} (a : fz W V h h') : fz W V h' h := ⟨fun c k hw => (a.1 c k hw).symm, fun c hv => ⟨(a.2 c hv).1.symm, (a.2 c hv).2.symm⟩⟩
theorem wq_c {c k : Nat} (h : Wq c k = false) : c = 69 ∧ (k = 3 ∨ k = 11 ∨ k = 15 ∨ k = 20) := by
  unfold Wq at h
  simp only [Bool.not_eq_false', Bool.and_eq_true, Bool.or_eq_true, Nat.beq_eq] at h
  exact h
theorem vq_c {c : Nat} (h : Vq c = false) : 71 ≤ c ∧ c ≤ 84 ∧ c ≠ 82 := by
  unfold Vq at h
  simp only [Bool.not_eq_false', Bool.and_eq_true, Bool.or_eq_true, Nat.beq_eq, Nat.ble_eq] at h
  omega
theorem fz_q {W : Nat → Nat → Bool} {V : Nat → Bool} (a : fz W V h h') (h1 : W 69 3 = false) (h2 : W 69 11 = false) (h3 : W 69 15 = false) (h4 : W 69 20 = false) (h5 : (List.range 14).all (fun j => Nat.beq j 11 || !V (71 + j)) = true) : fz Wq Vq h h' := by
  refine fz_mono a (fun c k hw => ?_) (fun c hv => ?_)
  · obtain ⟨rfl, e⟩ := wq_c hw
    rcases e with rfl | rfl | rfl | rfl
    · exact h1
    · exact h2
    · exact h3
    · exact h4
  · obtain ⟨e1, e2, e3⟩ := vq_c hv
    have := List.all_eq_true.mp h5 (c - 71) (List.mem_range.mpr (by omega))
    rw [show 71 + (c - 71) = c from by omega, show Nat.beq (c - 71) 11 = false from by
      cases hb : Nat.beq (c - 71) 11 with
      | false => rfl
      | true => have := Nat.eq_of_beq_eq_true hb; omega] at this
    simpa using this
variable {z d ln r b : Nat} {K S F kn : Nat → Int32} {ow aw dd : Int32}
theorem EN_q (hN : EN z d ln r b K S F kn ow aw dd h) (a : fz Wq Vq h h') : EN z d ln r b K S F kn ow aw dd h' := by
  obtain ⟨z9, d6, l7, r4, b2, ⟨e1, e2, e3⟩, hb, hR, hP⟩ := hN
  refine ⟨z9, d6, l7, r4, b2, ⟨(fz_gI a rfl).trans e1, (fz_gI a rfl).trans e2, by rw [(a.2 81 rfl).1]; exact e3⟩, by rw [(a.2 79 rfl).1]; exact hb, fun k hk => by rw [(a.2 83 rfl).1, (a.2 84 rfl).1]; exact hR k hk, fun p hp => ?_⟩
  unfold mDead
  rw [(a.2 78 rfl).1, (a.2 75 rfl).1, (a.2 72 rfl).1, (a.2 73 rfl).1, (a.2 74 rfl).1, (a.2 71 rfl).1, fz_gI a (c := 69) (k := 20) rfl]
  exact hP p hp
theorem mLine_q {p : Nat} (a : fz Wq Vq h h') (e3 : gI h' 69 33 = gI h 69 33) (e0 : aI h' 90 p = aI h 90 p) : mLine h' z r ln p d = mLine h z r ln p d := by
  unfold mLine
  refine ff_congr (fun j _ _ => ?_)
  unfold mBar mKin
  rw [e3, e0, fz_gI a (c := 69) (k := 20) rfl, (a.2 71 rfl).1, (a.2 72 rfl).1, (a.2 73 rfl).1, (a.2 74 rfl).1, (a.2 78 rfl).1, (a.2 83 rfl).1]
theorem mDead_q {p : Nat} (a : fz Wq Vq h h') : mDead h' p d = mDead h p d := by
  unfold mDead
  rw [(a.2 78 rfl).1, (a.2 75 rfl).1]
theorem mDoes_q {o : Option Nat} {x : Int32} (a : fz Wq Vq h h') : mDoes h' r o x = mDoes h r o x := by
  unfold mDoes
  rw [(a.2 84 rfl).1]
/-- two chests that are alike: a slip is taken -/
theorem tk_cg (o : oS h) (o' : oS h') (hN : EN z d ln r b K S F kn ow aw dd h) (q : fz Wq Vq h h') (u : UP k h) (u' : UP k h') {p : Nat} (hp : p < 10) :
    ∃ (t : Bool) (h2 h2' : px_H), fn_M_takes (Int32.ofNat d) (Int32.ofNat p) h = some (b01 t, h2) ∧ fn_M_takes (Int32.ofNat d) (Int32.ofNat p) h' = some (b01 t, h2') ∧ oS h2 ∧ oS h2' ∧ fz WM VM h h2 ∧ fz WM VM h' h2' ∧ kyOf h2 = kyOf h2' := by
  have hN' := EN_q hN q
  obtain ⟨z9, d6, l7, r4, b2, hE, hb, -, -⟩ := hN
  obtain ⟨-, -, -, -, -, hE', hb', -, -⟩ := hN'
  have s := SM_UP u
  have s' := SM_UP u'
  obtain ⟨h2, c1, c2, c3, c4, c5, c6, c7, c8, c9, c10⟩ := vl_takes o hE z9 r4 l7 d6 hp hb b2 (s.1 b b2).1 (s.1 b b2).2 s.2.1 s.2.2.1
  obtain ⟨h2', e1, e2, e3, e4, e5, e6, e7, e8, e9, e10⟩ := vl_takes o' hE' z9 r4 l7 d6 hp hb' b2 (s'.1 b b2).1 (s'.1 b b2).2 s'.2.1 s'.2.2.1
  have m3 : gI h' 69 33 = gI h 69 33 := u'.2.2.1.trans u.2.2.1.symm
  have m2 : gI h' 69 32 = gI h 69 32 := u'.2.1.trans u.2.1.symm
  have m0 : ∀ p, p < 10 → aI h' 90 p = aI h 90 p := fun p hp => (u'.2.2.2 p hp).trans (u.2.2.2 p hp).symm
  have m8 : ∀ j, j < 2 → aI h' 88 j = aI h 88 j ∧ aI h' 89 j = aI h 89 j := fun j hj => ⟨(u'.1 j hj).1.trans (u.1 j hj).1.symm, (u'.1 j hj).2.trans (u.1 j hj).2.symm⟩
  rw [mDead_q q, mLine_q q m3 (m0 p hp)] at e1 e9
  refine ⟨_, h2, h2', c1, e1, c2, e2, c3, e3, ky_cg (fun j hj => ?_) (sm_ext c7 e7 (fun i hi => ?_)) (sm_ext c8 e8 (fun i hi => ?_)) (fun p' hp' => by rw [c9, e9, m0 p' hp'])⟩
  · by_cases e : j = b
    · subst e
      refine ⟨sm_ext c5 e5 (fun i hi => ?_), sm_ext c6 e6 (fun i hi => ?_)⟩
      · rw [(c10 i hi).1, (e10 i hi).1, (m8 j hj).1]
      · rw [(c10 i hi).2.2.2, (e10 i hi).2.2.2, (m8 j hj).2, mDead_q q, mLine_q q m3 (m0 p hp), mDoes_q q]
    · rw [(c4 j e).1, (c4 j e).2, (e4 j e).1, (e4 j e).2, (m8 j hj).1, (m8 j hj).2]
      exact ⟨rfl, rfl⟩
  · rw [(c10 i hi).2.2.1, (e10 i hi).2.2.1, m2, mDead_q q, mLine_q q m3 (m0 p hp), mDoes_q q]
  · rw [(c10 i hi).2.1, (e10 i hi).2.1, m3, mDead_q q, mLine_q q m3 (m0 p hp)]
/-- .. a drawing is opened -/
theorem op_cg (o : oS h) (o' : oS h') (hN : EN z d ln r b K S F kn ow aw dd h) (q : fz Wq Vq h h') (u : UP k h) (u' : UP k h') (h5 : pv k.1 5 = Int32.ofInt 0) (s6 : sm (aI h 76 b)) :
    ∃ h2 h2', fn_M_opens (Int32.ofNat d) h = some h2 ∧ fn_M_opens (Int32.ofNat d) h' = some h2' ∧ oS h2 ∧ oS h2' ∧ fz WM VO h h2 ∧ fz WM VO h' h2' ∧ kyOf h2 = kyOf h2' := by
  have hN' := EN_q hN q
  obtain ⟨z9, d6, l7, r4, b2, hE, hb, -, -⟩ := hN
  obtain ⟨-, -, -, -, -, hE', hb', -, -⟩ := hN'
  have s := SM_UP u
  have s' := SM_UP u'
  have x6 : aI h' 76 = aI h 76 := (q.2 76 rfl).1
  obtain ⟨h2, c1, c2, c3, c4, c5, c6, c7, c8, c9⟩ := vl_Mopens o hE z9 r4 l7 d6 hb b2 (u.2.2.1.trans h5) (s.1 b b2).1 (s.1 b b2).2 s6
  obtain ⟨h2', e1, e2, e3, e4, e5, e6, e7, e8, e9⟩ := vl_Mopens o' hE' z9 r4 l7 d6 hb' b2 (u'.2.2.1.trans h5) (s'.1 b b2).1 (s'.1 b b2).2 (by rw [x6]; exact s6)
  have m3 : gI h' 69 33 = gI h 69 33 := u'.2.2.1.trans u.2.2.1.symm
  have m0 : ∀ p, p < 10 → aI h' 90 p = aI h 90 p := fun p hp => (u'.2.2.2 p hp).trans (u.2.2.2 p hp).symm
  have m8 : ∀ j, j < 2 → aI h' 88 j = aI h 88 j ∧ aI h' 89 j = aI h 89 j := fun j hj => ⟨(u'.1 j hj).1.trans (u.1 j hj).1.symm, (u'.1 j hj).2.trans (u.1 j hj).2.symm⟩
  have an : anewM h' b = anewM h b := by unfold anewM; rw [(m8 b b2).1, (q.2 77 rfl).1]
  have mo : ∀ i, i < z → mOut h' z r ln d b i = mOut h z r ln d b i := fun i hi => by
    unfold mOut
    rw [(m8 b b2).2, mLine_q q m3 (m0 i (by omega))]
  have mo2 : ∀ i, (decide (i < z) && mOut h' z r ln d b i) = (decide (i < z) && mOut h z r ln d b i) := fun i => by
    by_cases hi : i < z
    · rw [mo i hi]
    · rw [decide_eq_false hi, Bool.false_and, Bool.false_and]
  refine ⟨h2, h2', c1, e1, c2, e2, c3, e3, ky_cg (fun j hj => ?_) (c4.trans e4.symm) (c5.trans e5.symm) (fun p hp => by rw [(c3.2 90 rfl).1, (e3.2 90 rfl).1, m0 p hp])⟩
  by_cases e : j = b
  · subst e
    refine ⟨sm_ext c7 e7 (fun i hi => ?_), sm_ext c8 e8 (fun i hi => ?_)⟩
    · rw [(c9 i hi).1, (e9 i hi).1, an, x6, (m8 j hj).1, mo2]
    · rw [(c9 i hi).2, (e9 i hi).2, an, (m8 j hj).2, mo2]
  · rw [(c6 j e).1, (c6 j e).2, (e6 j e).1, (e6 j e).2, (m8 j hj).1, (m8 j hj).2]
    exact ⟨rfl, rfl⟩
/-- .. and closed -/
theorem cl_cg (o : oS h) (o' : oS h') (hN : EN z d ln r b K S F kn ow aw dd h) (q : fz Wq Vq h h') (u : UP k h) (u' : UP k h') :
    ∃ h2 h2', fn_M_closes (Int32.ofNat d) h = some h2 ∧ fn_M_closes (Int32.ofNat d) h' = some h2' ∧ oS h2 ∧ oS h2' ∧ fz W3n (fun c => Nat.beq c 88) h h2 ∧ fz W3n (fun c => Nat.beq c 88) h' h2' ∧ kyOf h2 = kyOf h2' := by
  have hN' := EN_q hN q
  obtain ⟨z9, d6, l7, r4, b2, hE, hb, -, -⟩ := hN
  obtain ⟨-, -, -, -, -, hE', hb', -, -⟩ := hN'
  obtain ⟨h2, c1, c2, c3, c4, c5, c6, c7⟩ := vl_Mcloses o d6 hb b2
  obtain ⟨h2', e1, e2, e3, e4, e5, e6, e7⟩ := vl_Mcloses o' d6 hb' b2
  refine ⟨h2, h2', c1, e1, c2, e2, c3, e3, ky_cg (fun j hj => ⟨?_, ?_⟩) (c5.trans e5.symm) (c6.trans e6.symm) (fun p hp => ?_)⟩
  · rw [c7, e7, (u.1 j hj).1, (u'.1 j hj).1, (u.1 b b2).1, (u'.1 b b2).1, u.2.1, u'.2.1]
  · rw [(c3.2 89 rfl).1, (e3.2 89 rfl).1, (u.1 j hj).2, (u'.1 j hj).2]
  · rw [(c3.2 90 rfl).1, (e3.2 90 rfl).1, u.2.2.2 p hp, u'.2.2.2 p hp]
/-! a chest of the model as it is unpacked; what it comes to -/
noncomputable def unp (h0 : px_H) (k : KY) : px_H := (fn_M_unpacks k.1 k.2 h0).getD h0
theorem unp_ok {h0 : px_H} (o : oS h0) (k : KY) : fn_M_unpacks k.1 k.2 h0 = some (unp h0 k) ∧ oS (unp h0 k) ∧ fz WM VM h0 (unp h0 k) ∧ UP k (unp h0 k) := by
  obtain ⟨h', a1, a2, a3, ⟨b1, b2, b3, b4, b5, b6⟩, a4⟩ := vl_unpacks o k.1 k.2
  have e : unp h0 k = h' := by unfold unp; rw [a1]; rfl
  rw [e]
  refine ⟨a1, a2, a3, fun j hj => ?_, b5, b6, a4⟩
  match j, hj with
  | 0, _ => exact ⟨b1, b3⟩
  | 1, _ => exact ⟨b2, b4⟩
  | j + 2, h => omega
theorem wm_q (a : fz WM VM h h') : fz Wq Vq h h' := fz_q a rfl rfl rfl rfl (by decide)
noncomputable def sTk (h0 : px_H) (d p : Nat) (k : KY) : Bool × KY := match fn_M_takes (Int32.ofNat d) (Int32.ofNat p) (unp h0 k) with
  | some q => (!px_cmp .eq q.1 0, kyOf q.2)
  | none => (false, k)
noncomputable def sOp (h0 : px_H) (d : Nat) (k : KY) : KY := match fn_M_opens (Int32.ofNat d) (unp h0 k) with
  | some q => kyOf q
  | none => k
noncomputable def sCl (h0 : px_H) (d : Nat) (k : KY) : KY := match fn_M_closes (Int32.ofNat d) (unp h0 k) with
  | some q => kyOf q
  | none => k
def sOv (h0 : px_H) (d b : Nat) (k : KY) : Bool := px_cmp .eq (pv k.1 b) 0 || !px_cmp .ne (nm_bc (pv k.1 5)) (aI h0 80 d)
theorem b01_eq (t : Bool) : (!px_cmp .eq (b01 t) 0) = t := by cases t <;> decide
variable {h0 : px_H}
/-- the model takes a slip, in any heap alike -/
theorem mo_take (o0 : oS h0) (o : oS h) (hN : EN z d ln r b K S F kn ow aw dd h0) (q : fz Wq Vq h0 h) (u : UP k h) {p : Nat} (hp : p < 10) :
    ∃ h', fn_M_takes (Int32.ofNat d) (Int32.ofNat p) h = some (b01 (sTk h0 d p k).1, h') ∧ oS h' ∧ fz WM VM h h' ∧ kyOf h' = (sTk h0 d p k).2 := by
  obtain ⟨-, u2, u3, u4⟩ := unp_ok o0 k
  obtain ⟨t, h2, h2', c1, c2, c3, c4, c5, c6, c7⟩ := tk_cg u2 o (EN_q hN (wm_q u3)) (fz_tr (fz_sy (wm_q u3)) q) u4 u hp
  have e : sTk h0 d p k = (t, kyOf h2) := by
    unfold sTk
    rw [c1]
    show (!px_cmp .eq (b01 t) 0, kyOf h2) = _
    rw [b01_eq]
  rw [e]
  exact ⟨h2', c2, c4, c6, c7.symm⟩
theorem mo_open (o0 : oS h0) (o : oS h) (hN : EN z d ln r b K S F kn ow aw dd h0) (q : fz Wq Vq h0 h) (u : UP k h) (h5 : pv k.1 5 = Int32.ofInt 0) (s6 : sm (aI h0 76 b)) :
    ∃ h', fn_M_opens (Int32.ofNat d) h = some h' ∧ oS h' ∧ fz WM VO h h' ∧ kyOf h' = sOp h0 d k := by
  obtain ⟨-, u2, u3, u4⟩ := unp_ok o0 k
  obtain ⟨h2, h2', c1, c2, c3, c4, c5, c6, c7⟩ := op_cg u2 o (EN_q hN (wm_q u3)) (fz_tr (fz_sy (wm_q u3)) q) u4 u h5 (by rw [(u3.2 76 rfl).1]; exact s6)
  have e : sOp h0 d k = kyOf h2 := by unfold sOp; rw [c1]
  rw [e]
  exact ⟨h2', c2, c4, c6, c7.symm⟩
theorem mo_close (o0 : oS h0) (o : oS h) (hN : EN z d ln r b K S F kn ow aw dd h0) (q : fz Wq Vq h0 h) (u : UP k h) :
    ∃ h', fn_M_closes (Int32.ofNat d) h = some h' ∧ oS h' ∧ fz W3n (fun c => Nat.beq c 88) h h' ∧ kyOf h' = sCl h0 d k := by
  obtain ⟨-, u2, u3, u4⟩ := unp_ok o0 k
  obtain ⟨h2, h2', c1, c2, c3, c4, c5, c6, c7⟩ := cl_cg u2 o (EN_q hN (wm_q u3)) (fz_tr (fz_sy (wm_q u3)) q) u4 u
  have e : sCl h0 d k = kyOf h2 := by unfold sCl; rw [c1]
  rw [e]
  exact ⟨h2', c2, c4, c6, c7.symm⟩
theorem mo_over (o : oS h) (hN : EN z d ln r b K S F kn ow aw dd h0) (q : fz Wq Vq h0 h) (u : UP k h) : fn_M_isOver (Int32.ofNat d) h = some (b01 (sOv h0 d b k)) := by
  obtain ⟨z9, d6, l7, r4, b2, hE, hb, -, -⟩ := hN
  have hb' : aI h 79 d = Int32.ofNat b := by rw [(q.2 79 rfl).1]; exact hb
  rw [vl_MisOver d6 hb' b2, (u.1 b b2).1, u.2.2.1, (q.2 80 rfl).1]
  rfl
/-- the model looks at an entry -/
theorem mo_look {t i : Nat} {T : TB} (t3 : t < 3) (o : oS h) (hT : MT t T h) (hi : i < T.1) : ∃ h', fn_M_looksAt (Int32.ofNat t) (Int32.ofNat i) h = some h' ∧ oS h' ∧ fz WM VM h h' ∧ UP (T.2.1 i) h' := by
  obtain ⟨hn, n3, hE⟩ := hT
  obtain ⟨e1, e2, e3⟩ := hE i hi
  obtain ⟨u1, u2, u3, u4⟩ := unp_ok o (T.2.1 i)
  refine ⟨unp h (T.2.1 i), ?_, u2, u3, u4⟩
  unfold fn_M_looksAt
  rw [nm_th_idx, nm_inR _ 9003 (show t * 3001 + i < 9003 by omega) (by omega), cond_true, cond_true, nm_ofNat_clamp _ (show t * 3001 + i < 2147483648 by omega), e1, e2, u1]
  rfl
end tb_C
end mg_2

section mg_3
/-! words of the class's chests held against keys -/
def QT (u : Int64) (w : Int32) (s : Int64) (q : Int32) : Prop := (∀ j, 60 ≤ j → j < 64 → lb s j = lb u j) ∧ ∀ j, 30 ≤ j → j < 32 → ib q j = ib w j
/-- while a drawing goes on -/
def QD (u : Int64) (w : Int32) (s : Int64) (q : Int32) (k : KY) : Prop := QT u w s q ∧ (∀ x, x < 6 → pv s x = pv k.1 x) ∧ (∀ p, p < 10 → sq q p = uq k.2 p) ∧ VKy k
/-- between drawings -/
def QO (u : Int64) (w : Int32) (s : Int64) (q : Int32) (k : KY) : Prop := QT u w s q ∧ (∀ x, x < 5 → pv s x = pv k.1 x) ∧ pv k.1 5 = Int32.ofInt 0 ∧ (∀ p, p < 10 → sq q p = uq k.2 p) ∧ VKy k
/-- behind drawing d: who sits is told still -/
def QE (d : Nat) (u : Int64) (w : Int32) (s : Int64) (q : Int32) (k : KY) : Prop := QO u w s q k ∧ ∀ p, p < 10 → ib (pv s 5) p = decide (uq k.2 p = Int32.ofNat (d + 1))
theorem lb_pv5 {x y : Int64} (h : ∀ w, w < 5 → pv x w = pv y w) {j : Nat} (hj : j < 50) : lb x j = lb y j := by
  have e := h (j / 10) (by omega)
  have a := pv_ib x (w := j / 10) (i := j % 10) (by omega) (by omega)
  have b := pv_ib y (w := j / 10) (i := j % 10) (by omega) (by omega)
  rw [show 10 * (j / 10) + j % 10 = j from by omega] at a b
  rw [← a, ← b, e]
theorem QD_inj {u : Int64} {w : Int32} {s s' : Int64} {q q' : Int32} {k k' : KY} (a : QD u w s q k) (b : QD u w s' q' k') : (s = s' ∧ q = q') ↔ k = k' := by
  obtain ⟨⟨t1, t2⟩, a1, a2, a3⟩ := a
  obtain ⟨⟨t1', t2'⟩, b1, b2, b3⟩ := b
  constructor
  · rintro ⟨rfl, rfl⟩
    exact ky_ext a3 b3 (fun x hx => (a1 x hx).symm.trans (b1 x hx)) (fun p hp => (a2 p hp).symm.trans (b2 p hp))
  · rintro rfl
    refine ⟨lb_ext (fun j hj => ?_), ib_ext (fun j hj => ?_)⟩
    · by_cases h : j < 60
      · exact lb_pv (fun x hx => (a1 x hx).trans (b1 x hx).symm) h
      · rw [t1 j (by omega) hj, t1' j (by omega) hj]
    · by_cases h : j < 30
      · exact ib_sq (fun p hp => (a2 p hp).trans (b2 p hp).symm) h
      · rw [t2 j (by omega) hj, t2' j (by omega) hj]
theorem QE_inj {d : Nat} {u : Int64} {w : Int32} {s s' : Int64} {q q' : Int32} {k k' : KY} (a : QE d u w s q k) (b : QE d u w s' q' k') : (s = s' ∧ q = q') ↔ k = k' := by
  obtain ⟨⟨⟨t1, t2⟩, a1, a5, a2, a3⟩, a6⟩ := a
  obtain ⟨⟨⟨t1', t2'⟩, b1, b5, b2, b3⟩, b6⟩ := b
  constructor
  · rintro ⟨rfl, rfl⟩
    refine ky_ext a3 b3 (fun x hx => ?_) (fun p hp => (a2 p hp).symm.trans (b2 p hp))
    by_cases e : x < 5
    · exact (a1 x e).symm.trans (b1 x e)
    · rw [show x = 5 from by omega, a5, b5]
  · rintro rfl
    refine ⟨lb_ext (fun j hj => ?_), ib_ext (fun j hj => ?_)⟩
    · by_cases h : j < 60
      · refine lb_pv (fun x hx => ?_) h
        by_cases e : x < 5
        · exact (a1 x e).trans (b1 x e).symm
        · rw [show x = 5 from by omega]
          exact sm_ext (pv_sm _ _) (pv_sm _ _) (fun i hi => (a6 i hi).trans (b6 i hi).symm)
      · rw [t1 j (by omega) hj, t1' j (by omega) hj]
    · by_cases h : j < 30
      · exact ib_sq (fun p hp => (a2 p hp).trans (b2 p hp).symm) h
      · rw [t2 j (by omega) hj, t2' j (by omega) hj]
/-- keys of a drawing that goes on -/
def kDR (h0 : px_H) (z d b : Nat) (k : KY) : Prop := (∀ p, p < 10 → ∃ v : Nat, v ≤ d + 1 ∧ uq k.2 p = Int32.ofNat v ∧ (ib (pv k.1 5) p = false → v ≤ d) ∧ (ib (pv k.1 5) p = true → v = d + 1)) ∧ (∀ j, j < 2 → sz z (pv k.1 j) ∧ sz z (pv k.1 (2 + j))) ∧ (sz z (pv k.1 4) ∧ sz z (pv k.1 5)) ∧ (∀ p, p < 10 → ib (pv k.1 b) p = true → ib (pv k.1 5) p = false) ∧ (nm_bc (pv k.1 5)).toInt ≤ (aI h0 80 d).toInt ∧ VKy k
/-- none beyond the persons sat in this drawing -/
def kZ (z d : Nat) (k : KY) : Prop := ∀ p, z ≤ p → p < 10 → uq k.2 p ≠ Int32.ofNat (d + 1)
/-- keys between drawings -/
def kCL (z nx : Nat) (k : KY) : Prop := (∀ p, p < 10 → ∃ v : Nat, v ≤ nx ∧ uq k.2 p = Int32.ofNat v) ∧ (∀ j, j < 2 → sz z (pv k.1 j) ∧ sz z (pv k.1 (2 + j))) ∧ pv k.1 4 = Int32.ofInt 0 ∧ pv k.1 5 = Int32.ofInt 0 ∧ VKy k
/-- keys behind a drawing -/
def kEN (z d : Nat) (k : KY) : Prop := kCL z (d + 1) k ∧ kZ z d k
section tb_D
variable {z d ln r b nx : Nat} {K S F kn : Nat → Int32} {ow aw dd : Int32} {h0 hX hM hs : px_H} {u : Int64} {w : Int32} {k : KY}
theorem DR_of (hq : QD u w (gL hX 47 0) (gI hX 47 1) k) (hk : kDR h0 z d b k) (hu : UP k hM) (b2 : b < 2) : DR z d b 47 hX hM := by
  obtain ⟨-, a1, a2, -⟩ := hq
  obtain ⟨k1, k2, k3, k4, -, -⟩ := hk
  refine ⟨⟨(a1 0 (by omega)).trans (hu.1 0 (by omega)).1.symm, (a1 1 (by omega)).trans (hu.1 1 (by omega)).1.symm, (a1 2 (by omega)).trans (hu.1 0 (by omega)).2.symm, (a1 3 (by omega)).trans (hu.1 1 (by omega)).2.symm, (a1 4 (by omega)).trans hu.2.1.symm, (a1 5 (by omega)).trans hu.2.2.1.symm⟩, fun p hp => ?_, fun j hj => ?_, by rw [hu.2.1]; exact k3.1, fun p hp h => ?_⟩
  · obtain ⟨v, v1, v2, v3, -⟩ := k1 p hp
    rw [hu.2.2.2 p hp, hu.2.2.1]
    exact ⟨a2 p hp, v, v1, v2, v3⟩
  · rw [(hu.1 j hj).1, (hu.1 j hj).2]
    exact k2 j hj
  · rw [(hu.1 b b2).1] at h
    rw [hu.2.2.1]
    exact k4 p hp h
theorem CL_of (hq : QO u w (gL hX 47 0) (gI hX 47 1) k) (hk : kCL z nx k) (hu : UP k hM) : CL z nx 47 hX hM := by
  obtain ⟨-, a1, a5, a2, -⟩ := hq
  obtain ⟨k1, k2, k3, k4, -⟩ := hk
  refine ⟨⟨(a1 0 (by omega)).trans (hu.1 0 (by omega)).1.symm, (a1 1 (by omega)).trans (hu.1 1 (by omega)).1.symm, (a1 2 (by omega)).trans (hu.1 0 (by omega)).2.symm, (a1 3 (by omega)).trans (hu.1 1 (by omega)).2.symm, (a1 4 (by omega)).trans k3, hu.2.1.trans k3, hu.2.2.1.trans k4⟩, fun p hp => ?_, fun j hj => ?_⟩
  · obtain ⟨v, v1, v2⟩ := k1 p hp
    rw [hu.2.2.2 p hp]
    exact ⟨a2 p hp, v, v1, v2⟩
  · rw [(hu.1 j hj).1, (hu.1 j hj).2]
    exact k2 j hj
theorem SM_DR (z9 : z ≤ 10) (d6 : d < 6) (hD : DR z d b 47 hX hM) : SMs hM := by
  obtain ⟨⟨q0, q1, q2, q3, q4, q5⟩, hs, hz, hz2, -⟩ := hD
  refine ⟨fun j hj => ⟨sz_sm z9 (hz j hj).1, sz_sm z9 (hz j hj).2⟩, sz_sm z9 hz2, by rw [← q5]; exact pv_sm _ _, fun p hp => ?_⟩
  obtain ⟨-, v, v1, v2, -⟩ := hs p hp
  rw [v2]
  exact s3_of (by omega)
theorem SM_CL (z9 : z ≤ 10) (n6 : nx ≤ 6) (hD : CL z nx 47 hX hM) : SMs hM := by
  obtain ⟨⟨q0, q1, q2, q3, q4, m2, m3⟩, hs, hz⟩ := hD
  refine ⟨fun j hj => ⟨sz_sm z9 (hz j hj).1, sz_sm z9 (hz j hj).2⟩, by rw [m2]; exact sm_z, by rw [m3]; exact sm_z, fun p hp => ?_⟩
  obtain ⟨-, v, v1, v2⟩ := hs p hp
  rw [v2]
  exact s3_of (by omega)
theorem QD_of (s : SMs hM) (hD : DR z d b 47 hX hM) (ht : QT u w (gL hX 47 0) (gI hX 47 1)) : QD u w (gL hX 47 0) (gI hX 47 1) (kyOf hM) := by
  obtain ⟨⟨q0, q1, q2, q3, q4, q5⟩, hs, -⟩ := hD
  have hu := UP_of s
  refine ⟨ht, fun x hx => ?_, fun p hp => (hs p hp).1.trans (hu.2.2.2 p hp), VK_of s⟩
  match x, hx with
  | 0, _ => exact q0.trans (hu.1 0 (by omega)).1
  | 1, _ => exact q1.trans (hu.1 1 (by omega)).1
  | 2, _ => exact q2.trans (hu.1 0 (by omega)).2
  | 3, _ => exact q3.trans (hu.1 1 (by omega)).2
  | 4, _ => exact q4.trans hu.2.1
  | 5, _ => exact q5.trans hu.2.2.1
  | x + 6, h => omega
theorem kDR_of (s : SMs hM) (hD : DR z d b 47 hX hM) (b2 : b < 2) (h1 : ∀ p, p < 10 → ib (gI hM 69 33) p = true → aI hM 90 p = Int32.ofNat (d + 1)) (d6 : d < 6) (h2 : (nm_bc (gI hM 69 33)).toInt ≤ (aI h0 80 d).toInt) (h5 : sz z (gI hM 69 33)) : kDR h0 z d b (kyOf hM) := by
  obtain ⟨-, hs, hz, hz2, he⟩ := hD
  have hu := UP_of s
  refine ⟨fun p hp => ?_, fun j hj => ?_, ⟨by rw [← hu.2.1]; exact hz2, by rw [← hu.2.2.1]; exact h5⟩, fun p hp h => ?_, by rw [← hu.2.2.1]; exact h2, VK_of s⟩
  · obtain ⟨-, v, v1, v2, v3⟩ := hs p hp
    rw [← hu.2.2.2 p hp, ← hu.2.2.1]
    refine ⟨v, v1, v2, v3, fun h => ?_⟩
    have := h1 p hp h
    rw [v2] at this
    exact oN_inj (by omega) (by omega) this
  · rw [← (hu.1 j hj).1, ← (hu.1 j hj).2]
    exact hz j hj
  · rw [← (hu.1 b b2).1] at h
    rw [← hu.2.2.1]
    exact he p hp h
/-! what lies above the bits of a chest stays -/
def TP (h h' : px_H) : Prop := QT (gL h 47 0) (gI h 47 1) (gL h' 47 0) (gI h' 47 1)
theorem TP_tr {h h' h'' : px_H} (a : TP h h') (b : TP h' h'') : TP h h'' := ⟨fun j h1 h2 => (b.1 j h1 h2).trans (a.1 j h1 h2), fun j h1 h2 => (b.2 j h1 h2).trans (a.2 j h1 h2)⟩
theorem TP_rf {h : px_H} : TP h h := ⟨fun _ _ _ => rfl, fun _ _ _ => rfl⟩
theorem QT_TP {h h' : px_H} (a : QT u w (gL h 47 0) (gI h 47 1)) (b : TP h h') : QT u w (gL h' 47 0) (gI h' 47 1) := ⟨fun j h1 h2 => (b.1 j h1 h2).trans (a.1 j h1 h2), fun j h1 h2 => (b.2 j h1 h2).trans (a.2 j h1 h2)⟩
theorem TP_wL {h : px_H} (o : oS h) {x : Int64} (hx : ∀ j, 60 ≤ j → j < 64 → lb x j = lb (gL h 47 0) j) : TP h (wF h 47 0 (.long x)) := by
  refine ⟨fun j h1 h2 => ?_, fun j h1 h2 => ?_⟩
  · rw [gL_wF (cs := chs) (ci := 0) rfl (by decide) o]
    exact hx j h1 h2
  · rw [gI_wF_ne (by omega)]
theorem TP_set {h h' : px_H} (o : oS h) {x : Nat} (hx : x < 6) {v : Int32} (hv : sm v) (e : fn_Chest_setPart 47 (Int32.ofNat x) v h = some h') : TP h h' ∧ oS h' ∧ gI h' 21 5 = gI h 21 5 ∧ aI h' = aI h := by
  have e : some (wF h 47 0 (.long (sv (gL h 47 0) x v))) = some h' := e
  cases e
  refine ⟨TP_wL o (fun j h1 h2 => ?_), oS_wL (cs := chs) (ci := 0) rfl (by decide) o, gI_wF_ne (by decide), funext (fun _ => aI_wF)⟩
  rw [sv_lb _ hx hv h2, if_neg (by omega)]
theorem tp_close {h h' : px_H} (o : oS h) (b2 : b < 2) (hb : gI h 21 5 = Int32.ofNat b) (e : fn_Chest_close 47 h = some h') : TP h h' := by
  unfold fn_Chest_close at e
  obtain ⟨q1, e1, e⟩ := bd_e e
  obtain ⟨q4, e4, e⟩ := bd_e e
  obtain ⟨q7, e7, e⟩ := bd_e e
  obtain ⟨q11, e11, e⟩ := bd_e e
  cases e
  rw [hb, vl_part] at e1
  cases e1
  rw [show fn_Chest_part 47 (Int32.ofInt 4) h = some (pv (gL h 47 0) 4) from rfl] at e4
  cases e4
  rw [hb] at e7
  obtain ⟨t1, o1, -, -⟩ := TP_set o (by omega) (sm_or (pv_sm _ _) (pv_sm _ _)) e7
  obtain ⟨t2, -, -, -⟩ := TP_set o1 (x := 4) (by omega) sm_z e11
  exact TP_tr t1 t2
theorem tp_open {h h' : px_H} (o : oS h) (b2 : b < 2) (hb : gI h 21 5 = Int32.ofNat b) (hs : sm (aI h 26 b)) (e : fn_Chest_open 47 h = some h') : TP h h' := by
  unfold fn_Chest_open at e
  obtain ⟨q1, e1, e⟩ := bd_e e
  obtain ⟨t1, o1, g1, a1⟩ := TP_set o (x := 5) (by omega) sm_z e1
  rw [hb] at g1
  have b' : Int32.ofInt 2 + Int32.ofNat b = Int32.ofNat (2 + b) := n2b b2
  obtain ⟨q5, e5, e⟩ := bd_e e
  have R : ∀ {x y : Int32} {q : px_H}, sm x → sm y → (fn_Chest_setPart 47 (Int32.ofNat b) x q1).bind (fun q19 => (fn_Chest_setPart 47 (Int32.ofNat (2 + b)) y q19).bind fun q23 => some q23) = some q → TP h q := by
    intro x y q hx hy e
    obtain ⟨q19, e19, e⟩ := bd_e e
    obtain ⟨q23, e23, e⟩ := bd_e e
    cases e
    obtain ⟨t2, o2, -, -⟩ := TP_set o1 (by omega) hx e19
    obtain ⟨t3, -, -, -⟩ := TP_set o2 (by omega) hy e23
    exact TP_tr t1 (TP_tr t2 t3)
  rw [g1, b'] at e
  have part : ∀ (x : Nat), fn_Chest_part 47 (Int32.ofNat x) q1 = some (pv (gL q1 47 0) x) := fun x => vl_part 47 x q1
  cases hc : px_cmp .ne q5 0 with
  | true =>
    rw [hc, cond_true, part, Option.bind_some] at e
    cases hc2 : px_cmp .eq (pv (gL q1 47 0) (2 + b)) 0 with
    | true =>
      rw [hc2, cond_true] at e
      cases e
      exact t1
    | false =>
      rw [hc2, cond_false] at e
      obtain ⟨q13, e13, e⟩ := bd_e e
      rw [part, Option.bind_some] at e
      exact R (sm_or (pv_sm _ _) (sm_and (pv_sm _ _) _)) (sm_and (pv_sm _ _) _) e
  | false =>
    rw [hc, cond_false] at e
    obtain ⟨hi, e⟩ := cd_n e
    cases hc3 : px_cmp .eq (aI q1 8 (Int32.ofNat b).toNatClampNeg) 0 with
    | true =>
      rw [hc3, cond_true, part, Option.bind_some] at e
      cases hc2 : px_cmp .eq (pv (gL q1 47 0) (2 + b)) 0 with
      | true =>
        rw [hc2, cond_true] at e
        cases e
        exact t1
      | false =>
        rw [hc2, cond_false] at e
        obtain ⟨q13, e13, e⟩ := bd_e e
        rw [part, Option.bind_some] at e
        exact R (sm_or (pv_sm _ _) (sm_and (pv_sm _ _) _)) (sm_and (pv_sm _ _) _) e
    | false =>
      rw [hc3, cond_false] at e
      obtain ⟨hi2, e⟩ := cd_n e
      rw [nm_ofNat_clamp b (by omega), a1] at e
      exact R hs sm_z e
theorem lb_tk {x : Int64} {p j : Nat} (b2 : b < 2) (hp : p < 10) (h1 : 60 ≤ j) (h2 : j < 64) : lb (x &&& ((sx_lsl (sx_lsl (Int64.ofNat 1) (Int32.ofNat p)) ((Int8.ofInt 10).toInt32 * Int32.ofNat b)) ^^^ (Int64.ofInt (-1)))) j = lb x j := by
  rw [mul10 (show b < 6 by omega), lb_and, lb_not _ h2, lb_bit hp (by omega), decide_eq_false (show ¬ j = 10 * b + p by omega)]
  simp
theorem lb_ly {x : Int64} {p j c : Nat} (hc : c ≤ 50) (hp : p < 10) (h1 : 60 ≤ j) : lb (x ||| (sx_lsl (sx_lsl (Int64.ofNat 1) (Int32.ofNat p)) (Int32.ofNat c))) j = lb x j := by
  rw [lb_or, lb_bit hp (by omega), decide_eq_false (show ¬ j = c + p by omega)]
  simp
theorem tw_b : ∀ {b : Nat}, b < 2 → (Int8.ofInt 20).toInt32 + ((Int8.ofInt 10).toInt32 * Int32.ofNat b) = Int32.ofNat (20 + 10 * b)
  | 0, _ => by decide
  | 1, _ => by decide
  | b + 2, h => absurd h (by omega)
theorem tp_take {h h' : px_H} {v : Int32} {p : Nat} (o : oS h) (b2 : b < 2) (hb : gI h 21 5 = Int32.ofNat b) (hd : gI h 21 4 = Int32.ofNat d) (d6 : d < 6) (hp : p < 10) (e : fn_Chest_takeOut 47 (Int32.ofNat p) h = some (v, h')) : TP h h' := by
  unfold fn_Chest_takeOut at e
  rw [sb_i, hb] at e
  have o1 : oS (wF h 47 0 (.long ((gL h 47 0) &&& ((sx_lsl (sx_lsl (Int64.ofNat 1) (Int32.ofNat p)) ((Int8.ofInt 10).toInt32 * Int32.ofNat b)) ^^^ (Int64.ofInt (-1)))))) := oS_wL (cs := chs) (ci := 0) rfl (by decide) o
  have t1 : TP h (wF h 47 0 (.long ((gL h 47 0) &&& ((sx_lsl (sx_lsl (Int64.ofNat 1) (Int32.ofNat p)) ((Int8.ofInt 10).toInt32 * Int32.ofNat b)) ^^^ (Int64.ofInt (-1)))))) := TP_wL o (fun j h1 h2 => lb_tk b2 hp h1 h2)
  have g4 : gI (wF h 47 0 (.long ((gL h 47 0) &&& ((sx_lsl (sx_lsl (Int64.ofNat 1) (Int32.ofNat p)) ((Int8.ofInt 10).toInt32 * Int32.ofNat b)) ^^^ (Int64.ofInt (-1)))))) 21 4 = Int32.ofNat d := (gI_wF_ne (by decide)).trans hd
  generalize wF h 47 0 (.long ((gL h 47 0) &&& ((sx_lsl (sx_lsl (Int64.ofNat 1) (Int32.ofNat p)) ((Int8.ofInt 10).toInt32 * Int32.ofNat b)) ^^^ (Int64.ofInt (-1))))) = h1 at e o1 t1 g4
  have L : ∀ {c : Nat}, c ≤ 50 → TP h1 (wF h1 47 0 (.long ((gL h1 47 0) ||| (sx_lsl (sx_lsl (Int64.ofNat 1) (Int32.ofNat p)) (Int32.ofNat c))))) := fun hc => TP_wL o1 (fun j h1 _ => lb_ly hc hp h1)
  cases h11 : px_cmp .eq (((gI h1 21 11) >>> (Int32.ofNat p &&& 31)) &&& (Int32.ofInt 1)) 0 with
  | true =>
    rw [h11, cond_true] at e
    cases h12 : px_cmp .eq (((gI h1 21 12) >>> (Int32.ofNat p &&& 31)) &&& (Int32.ofInt 1)) 0 with
    | true =>
      rw [h12, cond_true] at e
      cases h13 : px_cmp .eq (((gI h1 21 13) >>> (Int32.ofNat p &&& 31)) &&& (Int32.ofInt 1)) 0 with
      | true =>
        rw [h13, cond_true] at e
        cases e
        exact t1
      | false =>
        rw [h13, cond_false, sb_i, tw_b b2] at e
        cases e
        exact TP_tr t1 (L (by omega))
    | false =>
      rw [h12, cond_false, sb_i, show (Int8.ofInt 40).toInt32 = Int32.ofNat 40 from by decide] at e
      cases e
      exact TP_tr t1 (L (by omega))
  | false =>
    rw [h11, cond_false, sb_i, show (Int8.ofInt 50).toInt32 = Int32.ofNat 50 from by decide] at e
    have t2 := L (c := 50) (by omega)
    have o2 : oS (wF h1 47 0 (.long ((gL h1 47 0) ||| (sx_lsl (sx_lsl (Int64.ofNat 1) (Int32.ofNat p)) (Int32.ofNat 50))))) := oS_wL (cs := chs) (ci := 0) rfl (by decide) o1
    have g42 : gI (wF h1 47 0 (.long ((gL h1 47 0) ||| (sx_lsl (sx_lsl (Int64.ofNat 1) (Int32.ofNat p)) (Int32.ofNat 50))))) 21 4 = Int32.ofNat d := (gI_wF_ne (by decide)).trans g4
    generalize wF h1 47 0 (.long ((gL h1 47 0) ||| (sx_lsl (sx_lsl (Int64.ofNat 1) (Int32.ofNat p)) (Int32.ofNat 50)))) = h2 at e t2 o2 g42
    rw [sb_i, g42, inc1] at e
    have e : some (Int32.ofInt 1, wF h2 47 1 (.int (su (gI h2 47 1) p (Int32.ofNat (d + 1))))) = some (v, h') := e
    cases e
    refine TP_tr t1 (TP_tr t2 ⟨fun j h1 h2 => ?_, fun j h1 h2 => ?_⟩)
    · rw [gL_wF_ne (by omega)]
    · rw [gI_wF (cs := chs) (ci := 0) rfl (by decide) o2, su_ib _ hp (s3_of (by omega)) h2, if_neg (by omega)]
/-! an entry in the class -/
/-- what stands fast in a pass -/
def WPX (c k : Nat) : Bool := Nat.beq c 47 || (Nat.beq c 28 || (W3 c k || ((Nat.beq c 29 || (Nat.beq c 35 || Nat.beq c 41)) && Nat.beq k 3)))
def VPX (c : Nat) : Bool := Nat.ble 29 c && Nat.ble c 46
def CP (z d ln b : Nat) (K S F kn : Nat → Int32) (ow aw dd : Int32) (h0 hs hX : px_H) : Prop := CE z d ln K S F kn ow aw dd hX ∧ gI hX 21 5 = Int32.ofNat b ∧ gI hX 21 6 = aI h0 80 d ∧ aI hX 26 b = aI h0 76 b ∧ aI hX 8 b = aI h0 77 b ∧ fz WPX VPX hs hX
theorem cx_open (o0 : oS h0) (oX : oS hX) (hN : EN z d ln r b K S F kn ow aw dd h0) (hC : CP z d ln b K S F kn ow aw dd h0 hs hX) (s6 : sz z (aI h0 76 b)) (s80 : 0 ≤ (aI h0 80 d).toInt) (hq : QO u w (gL hX 47 0) (gI hX 47 1) k) (hk : kCL z nx k) (nd : nx ≤ d) :
    ∃ h', fn_Chest_open 47 hX = some h' ∧ oS h' ∧ fz (Wc 47) V0 hX h' ∧ QD u w (gL h' 47 0) (gI h' 47 1) (sOp h0 d k) ∧ kDR h0 z d b (sOp h0 d k) := by
  obtain ⟨u1, u2, u3, u4⟩ := unp_ok o0 k
  obtain ⟨hE, c5, c6, c26, c8, -⟩ := hC
  have hN0 := hN
  obtain ⟨z9, d6, l7, r4, b2, -⟩ := hN
  have q := wm_q u3
  have hN' := EN_q hN0 q
  have e76 : aI (unp h0 k) 76 = aI h0 76 := (q.2 76 rfl).1
  have e77 : aI (unp h0 k) 77 = aI h0 77 := (q.2 77 rfl).1
  obtain ⟨h1, h3, a1, a2, a3, a4, a5, a6, a7, a8⟩ := sim_open hN' (c := 47) (by decide) oX u2 hE c5 (CL_of hq hk u4) nd (by rw [e76]; exact c26) (by rw [e76]; exact s6) (by rw [e77]; exact c8)
  have e : sOp h0 d k = kyOf h3 := by unfold sOp; rw [a4]
  have s := SM_DR z9 d6 a8
  have t := tp_open oX b2 c5 (by rw [c26]; exact sz_sm z9 s6) a1
  rw [e]
  exact ⟨h1, a1, a2, a3, QD_of s a8 (QT_TP hq.1 t), kDR_of s a8 b2 (fun p _ h => by rw [a7, ib_z] at h; cases h) d6 (by rw [a7, bc_0, nm_ofNat_toInt 0 (by omega)]; exact s80) (by rw [a7]; exact fun i _ => ib_z i)⟩
theorem cx_close (o0 : oS h0) (oX : oS hX) (hN : EN z d ln r b K S F kn ow aw dd h0) (hC : CP z d ln b K S F kn ow aw dd h0 hs hX) (hq : QD u w (gL hX 47 0) (gI hX 47 1) k) (hk : kDR h0 z d b k) :
    ∃ h', fn_Chest_close 47 hX = some h' ∧ oS h' ∧ fz (Wc 47) V0 hX h' ∧ QE d u w (gL h' 47 0) (gI h' 47 1) (sCl h0 d k) ∧ kEN z d (sCl h0 d k) := by
  obtain ⟨u1, u2, u3, u4⟩ := unp_ok o0 k
  obtain ⟨hE, c5, c6, c26, c8, -⟩ := hC
  have hN0 := hN
  obtain ⟨z9, d6, l7, r4, b2, -⟩ := hN
  have hN' := EN_q hN0 (wm_q u3)
  have hD := DR_of hq hk u4 b2
  obtain ⟨h1, h3, a1, a2, a3, a4, a5, a6, a7, a8, a9⟩ := sim_close hN' (c := 47) (by decide) oX u2 c5 hD
  have e : sCl h0 d k = kyOf h3 := by unfold sCl; rw [a4]
  have s := SM_CL z9 (by omega) a8
  have hu := UP_of s
  have t := tp_close oX b2 c5 a1
  have m0 : ∀ p, p < 10 → aI h3 90 p = uq k.2 p := fun p hp => by rw [(a6.2 90 rfl).1]; exact u4.2.2.2 p hp
  obtain ⟨⟨q0, q1, q2, q3, q4, m2, m3⟩, hs, hz⟩ := a8
  rw [e]
  refine ⟨h1, a1, a2, a3, ⟨⟨QT_TP hq.1 t, fun x hx => ?_, hu.2.2.1.symm.trans m3, fun p hp => (hs p hp).1.trans (hu.2.2.2 p hp), VK_of s⟩, fun p hp => ?_⟩, ⟨fun p hp => ?_, fun j hj => ?_, hu.2.1.symm.trans m2, hu.2.2.1.symm.trans m3, VK_of s⟩, fun p hz9 hp x => ?_⟩
  · match x, hx with
    | 0, _ => exact q0.trans (hu.1 0 (by omega)).1
    | 1, _ => exact q1.trans (hu.1 1 (by omega)).1
    | 2, _ => exact q2.trans (hu.1 0 (by omega)).2
    | 3, _ => exact q3.trans (hu.1 1 (by omega)).2
    | 4, _ => exact q4.trans (m2.symm.trans hu.2.1)
    | x + 5, h => omega
  · rw [a9, u4.2.2.1, ← hu.2.2.2 p hp, m0 p hp]
    obtain ⟨v, v1, v2, v3, v4⟩ := hk.1 p hp
    cases hb : ib (pv k.1 5) p with
    | true => rw [v2, v4 hb, decide_eq_true rfl]
    | false =>
      have := v3 hb
      rw [v2, decide_eq_false (fun x => by have := oN_inj (a := v) (b := d + 1) (by omega) (by omega) x; omega)]
  · obtain ⟨-, v, v1, v2⟩ := hs p hp
    rw [← hu.2.2.2 p hp]
    exact ⟨v, v1, v2⟩
  · rw [← (hu.1 j hj).1, ← (hu.1 j hj).2]
    exact hz j hj
  · rw [← hu.2.2.2 p hp, m0 p hp] at x
    obtain ⟨v, v1, v2, v3, v4⟩ := hk.1 p hp
    have := v3 (hk.2.2.1.2 p hz9)
    rw [v2] at x
    have := oN_inj (a := v) (b := d + 1) (by omega) (by omega) x
    omega
theorem cx_over (o0 : oS h0) (hN : EN z d ln r b K S F kn ow aw dd h0) (hC : CP z d ln b K S F kn ow aw dd h0 hs hX) (hq : QD u w (gL hX 47 0) (gI hX 47 1) k) (hk : kDR h0 z d b k) : fn_Chest_isOver 47 hX = some (b01 (sOv h0 d b k)) := by
  obtain ⟨u1, u2, u3, u4⟩ := unp_ok o0 k
  have b2 := hN.2.2.2.2.1
  have e80 : aI (unp h0 k) 80 = aI h0 80 := ((wm_q u3).2 80 rfl).1
  have := over_eq (DR_of hq hk u4 b2) b2 (by rw [e80]; exact hC.2.2.1) (by rw [u4.2.2.1, e80]; exact hk.2.2.2.2.1)
  rw [vl_isOver hC.2.1, this, (u4.1 b b2).1, u4.2.2.1, e80]
  rfl
/-- a slip of a bag: drawn -/
theorem cx_take (o0 : oS h0) (oX : oS hX) (hN : EN z d ln r b K S F kn ow aw dd h0) (hC : CP z d ln b K S F kn ow aw dd h0 hs hX) (hq : QD u w (gL hX 47 0) (gI hX 47 1) k) (hk : kDR h0 z d b k) (hov : sOv h0 d b k = false) {p : Nat} (hp : p < 10) (hin : ib (pv k.1 b) p = true)
    (hF : (ib (gI hX 21 11) p, ib (gI hX 21 12) p, ib (gI hX 21 13) p) = cf (fun j => ib (cB z d K S kn ow aw (pv k.1 5) (gI hX 47 1) j) p) F 0 ln (ib (pv k.1 b) p && !ib dd p, false, false)) :
    ∃ h', fn_Chest_takeOut 47 (Int32.ofNat p) hX = some (b01 (sTk h0 d p k).1, h') ∧ oS h' ∧ fz (Wc 47) V0 hX h' ∧ QD u w (gL h' 47 0) (gI h' 47 1) (sTk h0 d p k).2 ∧ kDR h0 z d b (sTk h0 d p k).2 ∧ ∀ i, i < 10 → ib (pv (sTk h0 d p k).2.1 b) i = (ib (pv k.1 b) i && !decide (i = p)) := by
  obtain ⟨u1, u2, u3, u4⟩ := unp_ok o0 k
  obtain ⟨hE, c5, c6, c26, c8, -⟩ := hC
  have hN0 := hN
  obtain ⟨z9, d6, l7, r4, b2, -⟩ := hN
  have hN' := EN_q hN0 (wm_q u3)
  have hD := DR_of hq hk u4 b2
  have e80 : aI (unp h0 k) 80 = aI h0 80 := ((wm_q u3).2 80 rfl).1
  obtain ⟨t, h2, h3, a1, a2, a3, a4, a5, a6, a7, a8, a9, a10⟩ := sim_take hN' (c := 47) (by decide) oX u2 c5 hE.2.1 hD hp (by rw [(u4.1 b b2).1]; exact hin) (by rw [hq.2.1 5 (by omega), hq.2.1 b (by omega)]; exact hF)
  have e : sTk h0 d p k = (t, kyOf h3) := by
    unfold sTk
    rw [a4]
    show (!px_cmp .eq (b01 t) 0, kyOf h3) = _
    rw [b01_eq]
  have s := SM_DR z9 d6 a7
  have hu := UP_of s
  have tt := tp_take oX b2 c5 hE.2.1 d6 hp a1
  obtain ⟨-, -, -, -, -, hME, hb, -, -⟩ := hN'
  have su4 := SM_UP u4
  obtain ⟨h3', y1, y2, y3, y4, y5, y6, y7, y8, y9, y10⟩ := vl_takes u2 hME z9 r4 l7 d6 hp hb b2 (su4.1 b b2).1 (su4.1 b b2).2 su4.2.1 su4.2.2.1
  rw [a4] at y1
  have y1 := Option.some.inj y1
  have y11 : b01 t = b01 (!mDead (unp h0 k) p d && (mLine (unp h0 k) z r ln p d).isNone) := congrArg Prod.fst y1
  have y12 : h3 = h3' := congrArg Prod.snd y1
  have tb : t = (!mDead (unp h0 k) p d && (mLine (unp h0 k) z r ln p d).isNone) := by
    have := congrArg (fun x => !px_cmp .eq x 0) y11
    simp only [b01_eq] at this
    exact this
  rw [← y12, ← tb] at y9
  have hne : (nm_bc (pv k.1 5)).toInt ≠ (aI h0 80 d).toInt := by
    intro x
    have x := Int32.toInt_inj.mp x
    unfold sOv at hov
    simp only [Bool.or_eq_false_iff, Bool.not_eq_false'] at hov
    have h9 := hov.2
    rw [x] at h9
    simp [px_cmp] at h9
  have hle := hk.2.2.2.2.1
  have hst := bc_step su4.2.2.1 a9 a8
  rw [u4.2.2.1] at hst
  rw [e]
  refine ⟨h2, a1, a2, a3, QD_of s a7 (QT_TP hq.1 tt), kDR_of s a7 b2 (fun p' hp' h => ?_) d6 (by omega) (fun i hi => ?_), fun i hi => ?_⟩
  · rw [a8 p' hp', u4.2.2.1] at h
    rw [y9]
    cases hb9 : ib (pv k.1 5) p' with
    | true =>
      obtain ⟨v, v1, v2, v3, v4⟩ := hk.1 p' hp'
      by_cases e9 : t = true ∧ p' = p
      · rw [if_pos e9]
      · rw [if_neg e9, u4.2.2.2 p' hp', v2, v4 hb9]
    | false =>
      rw [hb9, Bool.false_or, Bool.and_eq_true, decide_eq_true_eq] at h
      rw [if_pos h]
  · by_cases i9 : i < 10
    · have hpz : p < z := by
        rcases Nat.lt_or_ge p z with x | x
        · exact x
        · rw [(hk.2.1 b b2).1 p x] at hin; cases hin
      rw [a8 i i9, u4.2.2.1, hk.2.2.1.2 i hi, decide_eq_false (show ¬ i = p by omega), Bool.and_false]
      rfl
    · exact a9 i (by omega)
  · show ib (pv (kyOf h3).1 b) i = _
    rw [← (hu.1 b b2).1, a10 i hi, (u4.1 b b2).1]
end tb_D
end mg_3

section mg_4
/-! a pass as such -/
/-- all slips of an entry drawn, from p on -/
noncomputable def sDr (h0 : px_H) (d b : Nat) (k : KY) (sh : Int64) : Nat → Nat → TB × Int64 → Option (TB × Int64)
  | 0, _, x => some x
  | m + 1, p, x => if ib (pv k.1 b) p = true then (adT x.1 (sTk h0 d p k).2 sh).bind fun B => sDr h0 d b k sh m (p + 1) (B, if (sTk h0 d p k).1 = true then x.2 else x.2 + sh) else sDr h0 d b k sh m (p + 1) x
def shr (k : KY) (b : Nat) (c : Int64) : Int64 := c / (nm_bc (pv k.1 b)).toInt64
/-- all entries of a table: those over end, of the others all slips are drawn -/
noncomputable def sSw (h0 : px_H) (d b : Nat) (N : TB) : Nat → Nat → TB → TB → Int64 → Int64 → Option (TB × TB × Int64 × Int64)
  | 0, _, E, B, dr, vn => some (E, B, dr, vn)
  | m + 1, i, E, B, dr, vn => if sOv h0 d b (N.2.1 i) = true then (adT E (sCl h0 d (N.2.1 i)) (N.2.2 i)).bind fun E' => sSw h0 d b N m (i + 1) E' B dr vn
    else (sDr h0 d b (N.2.1 i) (shr (N.2.1 i) b (N.2.2 i)) 10 0 (B, vn)).bind fun y => sSw h0 d b N m (i + 1) E y.1 (dr + N.2.2 i) y.2
noncomputable def sGo (h0 : px_H) (d b : Nat) : Nat → TB → TB → Int64 → Int64 → Option (TB × Int64 × Int64)
  | 0, _, E, dr, vn => some (E, dr, vn)
  | m + 1, N, E, dr, vn => if N.1 = 0 then some (E, dr, vn) else (sSw h0 d b N N.1 0 E tE dr vn).bind fun y => sGo h0 d b m y.2.1 y.1 y.2.2.1 y.2.2.2
noncomputable def sOps (h0 : px_H) (d : Nat) (E : TB) : Nat → Nat → TB → TB
  | 0, _, N => N
  | m + 1, i, N => sOps h0 d E m (i + 1) (adI N (sOp h0 d (E.2.1 i)) (E.2.2 i))
noncomputable def sPass (h0 : px_H) (d b : Nat) (E : TB) : Option (TB × Int64 × Int64) := sGo h0 d b 11 (sOps h0 d E E.1 0 tE) tE (Int64.ofNat 0) (Int64.ofNat 0)
/-! the class: a pass -/
section tb_E
variable {h h' : px_H} {t : Nat}
theorem px_c (a : fz (Wc 47) V0 h h') : fz WPX VPX h h' := fz_mono a (fun c k e => by
  unfold WPX at e
  simp only [Bool.or_eq_false_iff] at e
  unfold Wc
  rw [e.1]
  rfl) (fun _ _ => rfl)
theorem px_3 (a : fz W3 V0 h h') : fz WPX VPX h h' := fz_mono a (fun c k e => by
  unfold WPX at e
  simp only [Bool.or_eq_false_iff] at e
  exact e.2.2.1) (fun _ _ => rfl)
theorem px_t (ht : t ∈ tbs) {V : Nat → Bool} (hV : ∀ c, V c = true → Vt t c = true) (a : fz (Wtb t) V h h') : fz WPX VPX h h' := by
  refine fz_mono a (fun c k e => ?_) (fun c e => ?_)
  · unfold WPX at e
    simp only [Bool.or_eq_false_iff, Bool.and_eq_false_iff] at e
    unfold Wtb
    cases hc : Nat.beq c t with
    | false => rfl
    | true =>
      have := Nat.eq_of_beq_eq_true hc
      subst this
      rcases e.2.2.2 with x | x
      · rcases tb_c ht with rfl | rfl | rfl
        · exact absurd x.1 (by decide)
        · exact absurd x.2.1 (by decide)
        · exact absurd x.2.2 (by decide)
      · rw [x]; rfl
  · cases hv : V c with
    | false => rfl
    | true =>
      have := hV c hv
      unfold Vt at this
      unfold VPX at e
      simp only [Bool.and_eq_true, Nat.ble_eq] at this
      simp only [Bool.and_eq_false_iff] at e
      rcases e with e | e
      · have e := (Bool.eq_false_iff.mp e)
        exact absurd (Nat.ble_eq.mpr (by rcases tb_c ht with rfl | rfl | rfl <;> omega)) e
      · have e := (Bool.eq_false_iff.mp e)
        exact absurd (Nat.ble_eq.mpr (by rcases tb_c ht with rfl | rfl | rfl <;> omega)) e
theorem vt_4 (c : Nat) (h : Nat.beq c (t + 4) = true) : Vt t c = true := by
  have := Nat.eq_of_beq_eq_true h
  subst this
  exact Vt_t (by omega) (by omega)
variable {z d ln r b : Nat} {K S F kn : Nat → Int32} {ow aw dd : Int32} {h0 hs : px_H} {u : Int64} {w : Int32}
theorem all_f {l : List Nat} {q : Nat → Bool} (h : l.all (fun x => !q x) = true) : ∀ x, x ∈ l → q x = false := fun x hx => by
  have := List.all_eq_true.mp h x hx
  simpa using this
theorem rl_arr (hS : oS h) {rc : Nat} (hr : rc ∈ ruls) : VPX (gR h rc 0) = false ∧ VPX (gR h rc 1) = false ∧ VPX (gR h rc 2) = false := by
  obtain ⟨-, -, -, m0⟩ := bR_ok (cs := ruls) (ci := 3) (k := 0) (ds := [15, 23, 55, 59, 63]) (a := rc) rfl hr hS
  obtain ⟨-, -, -, m1⟩ := bR_ok (cs := ruls) (ci := 3) (k := 1) (ds := [16, 24, 56, 60, 64]) (a := rc) rfl hr hS
  obtain ⟨-, -, -, m2⟩ := bR_ok (cs := ruls) (ci := 3) (k := 2) (ds := [17, 25, 57, 61, 65]) (a := rc) rfl hr hS
  exact ⟨all_f (q := fun x => VPX x) rfl _ m0, all_f (q := fun x => VPX x) rfl _ m1, all_f (q := fun x => VPX x) rfl _ m2⟩
theorem rl_w {rc : Nat} (hr : rc ∈ ruls) (k : Nat) : WPX rc k = false := all_f (q := fun x => WPX x k) rfl rc hr
theorem CP_px (hS : oS h) (hC : CP z d ln b K S F kn ow aw dd h0 hs h) (a : fz WPX VPX h h') : CP z d ln b K S F kn ow aw dd h0 hs h' := by
  obtain ⟨⟨e1, e2, e3, e4, e5, e6, e7, e8, e9, e10⟩, c5, c6, c26, c8, cf⟩ := hC
  have hr := rl_mem hS
  have r : gR h' 21 1 = gR h 21 1 := fz_gR a rfl
  obtain ⟨v0, v1, v2⟩ := rl_arr hS hr
  refine ⟨⟨(fz_gI a rfl).trans e1, (fz_gI a rfl).trans e2, ?_, ?_, ?_, ?_, (a.2 27 rfl).1.trans e7, (fz_gI a rfl).trans e8, (fz_gI a rfl).trans e9, (fz_gI a rfl).trans e10⟩, (fz_gI a rfl).trans c5, (fz_gI a rfl).trans c6, by rw [(a.2 26 rfl).1]; exact c26, by rw [(a.2 8 rfl).1]; exact c8, fz_tr cf a⟩
  · rw [r, fz_gI a (rl_w hr 3)]; exact e3
  · rw [r, fz_gR a (rl_w hr 0), (a.2 _ v0).1]; exact e4
  · rw [r, fz_gR a (rl_w hr 1), (a.2 _ v1).1]; exact e5
  · rw [r, fz_gR a (rl_w hr 2), (a.2 _ v2).1]; exact e6
theorem CT_fz {Q : Int64 → Int32 → KY → Prop} {T : TB} {W : Nat → Nat → Bool} {V : Nat → Bool} (a : fz W V h h') (hw : W t 3 = false) (hv : ∀ c, t + 1 ≤ c → c ≤ t + 5 → V c = false) (hC : CT Q t T h) : CT Q t T h' := by
  have F : hsF h' t = hsF h t := by
    funext i
    unfold hsF
    rw [(a.2 (t + 1) (hv _ (by omega) (by omega))).2, (a.2 (t + 2) (hv _ (by omega) (by omega))).1]
  unfold CT CH at hC ⊢
  rw [F, fz_gI a hw, (a.2 (t + 1) (hv _ (by omega) (by omega))).2, (a.2 (t + 2) (hv _ (by omega) (by omega))).1, (a.2 (t + 3) (hv _ (by omega) (by omega))).2, (a.2 (t + 4) (hv _ (by omega) (by omega))).1, (a.2 (t + 5) (hv _ (by omega) (by omega))).1]
  exact hC
theorem CT_c {Q : Int64 → Int32 → KY → Prop} {T : TB} (ht : t ∈ tbs) (a : fz (Wc 47) V0 h h') (hC : CT Q t T h) : CT Q t T h' := CT_fz a (by rcases tb_c ht with rfl | rfl | rfl <;> rfl) (fun _ _ _ => rfl) hC
theorem CT_3 {Q : Int64 → Int32 → KY → Prop} {T : TB} (ht : t ∈ tbs) (a : fz W3 V0 h h') (hC : CT Q t T h) : CT Q t T h' := CT_fz a (by rcases tb_c ht with rfl | rfl | rfl <;> rfl) (fun _ _ _ => rfl) hC
theorem CT_28 {Q : Int64 → Int32 → KY → Prop} {T : TB} (ht : t ∈ tbs) {v : Value} {k : Nat} (hC : CT Q t T h) : CT Q t T (wF h 28 k v) := CT_fz (W := fun c _ => Nat.beq c 28) (V := V0) (fz_wF rfl) (by rcases tb_c ht with rfl | rfl | rfl <;> rfl) (fun _ _ _ => rfl) hC
theorem vt_ne {t' c : Nat} (ht : t ∈ tbs) (ht' : t' ∈ tbs) (hne : t ≠ t') (h1 : t + 1 ≤ c) (h2 : c ≤ t + 5) : Vt t' c = false := by
  refine Bool.eq_false_iff.mpr (fun e => ?_)
  unfold Vt at e
  simp only [Bool.and_eq_true, Nat.ble_eq] at e
  rcases tb_c ht with rfl | rfl | rfl <;> rcases tb_c ht' with rfl | rfl | rfl <;> omega
theorem wt_ne {t' : Nat} (hne : t ≠ t') : Wtb t' t 3 = false := by
  unfold Wtb
  cases hb : Nat.beq t t' with
  | false => rfl
  | true => exact absurd (Nat.eq_of_beq_eq_true hb) hne
theorem CT_t {Q : Int64 → Int32 → KY → Prop} {T : TB} {t' : Nat} (ht : t ∈ tbs) (ht' : t' ∈ tbs) (hne : t ≠ t') {V : Nat → Bool} (hV : ∀ c, V c = true → Vt t' c = true) (a : fz (Wtb t') V h h') (hC : CT Q t T h) : CT Q t T h' := CT_fz a (wt_ne hne) (fun c h1 h2 => by
  cases hv : V c with
  | false => rfl
  | true => exact absurd (hV c hv) (by rw [vt_ne ht ht' hne h1 h2]; decide)) hC
theorem CT_m {Q Q' : Int64 → Int32 → KY → Prop} {T : TB} (hQ : ∀ s q k, Q s q k → Q' s q k) (hC : CT Q t T h) : CT Q' t T h := ⟨hC.1, hC.2.1, fun i hi => ⟨hQ _ _ _ (hC.2.2.1 i hi).1, (hC.2.2.1 i hi).2⟩, hC.2.2.2⟩
theorem lay_ok (o : oS h) (s : Int64) (q : Int32) : ∃ h', fn_Chest_lay 47 s q h = some h' ∧ oS h' ∧ fz (Wc 47) V0 h h' ∧ gL h' 47 0 = s ∧ gI h' 47 1 = q := by
  unfold fn_Chest_lay
  rw [sb_i]
  have o1 : oS (wF h 47 0 (.long s)) := oS_wL (cs := chs) (ci := 0) rfl (by decide) o
  have g1 : gL (wF h 47 0 (.long s)) 47 0 = s := gL_wF (cs := chs) (ci := 0) rfl (by decide) o
  have f1 : fz (Wc 47) V0 h (wF h 47 0 (.long s)) := fz_wF rfl
  generalize wF h 47 0 (.long s) = h1 at o1 g1 f1 ⊢
  rw [sb_i]
  exact ⟨_, rfl, oS_wI (cs := chs) (ci := 0) rfl (by decide) o1, fz_tr f1 (fz_wF rfl), (gL_wF_ne (by decide)).trans g1, gI_wF (cs := chs) (ci := 0) rfl (by decide) o1⟩
/-- which table is which -/
def RF (a bb e : Nat) (h : px_H) : Prop := gR h 28 0 = a ∧ gR h 28 1 = bb ∧ gR h 28 2 = e
def D3 (a bb e : Nat) : Prop := a ∈ tbs ∧ bb ∈ tbs ∧ e ∈ tbs ∧ a ≠ bb ∧ a ≠ e ∧ bb ≠ e
theorem RF_fz {a bb e : Nat} {W : Nat → Nat → Bool} {V : Nat → Bool} (f : fz W V h h') (h1 : W 28 0 = false) (h2 : W 28 1 = false) (h3 : W 28 2 = false) (hR : RF a bb e h) : RF a bb e h' := ⟨(fz_gR f h1).trans hR.1, (fz_gR f h2).trans hR.2.1, (fz_gR f h3).trans hR.2.2⟩
theorem wt_28 (ht : t ∈ tbs) (k : Nat) : Wtb t 28 k = false := by
  unfold Wtb
  rcases tb_c ht with rfl | rfl | rfl <;> rfl
/-- what holds in a pass -/
def PX (z d ln b : Nat) (K S F kn : Nat → Int32) (ow aw dd : Int32) (h0 hs : px_H) (u : Int64) (w : Int32) (a bb e : Nat) (N E : TB) (h : px_H) : Prop := oS h ∧ CP z d ln b K S F kn ow aw dd h0 hs h ∧ RF a bb e h ∧ CT (QD u w) a N h ∧ CT (QE d u w) e E h
theorem PX_c {a bb e : Nat} {N E : TB} (g : D3 a bb e) (o' : oS h') (f : fz (Wc 47) V0 h h') (hP : PX z d ln b K S F kn ow aw dd h0 hs u w a bb e N E h) : PX z d ln b K S F kn ow aw dd h0 hs u w a bb e N E h' := ⟨o', CP_px hP.1 hP.2.1 (px_c f), RF_fz f rfl rfl rfl hP.2.2.1, CT_c g.1 f hP.2.2.2.1, CT_c g.2.2.1 f hP.2.2.2.2⟩
theorem PX_bb {a bb e : Nat} {N E : TB} (g : D3 a bb e) (o' : oS h') (f : fz (Wtb bb) (Vt bb) h h') (hP : PX z d ln b K S F kn ow aw dd h0 hs u w a bb e N E h) : PX z d ln b K S F kn ow aw dd h0 hs u w a bb e N E h' := ⟨o', CP_px hP.1 hP.2.1 (px_t g.2.1 (fun _ h => h) f), RF_fz f (wt_28 g.2.1 0) (wt_28 g.2.1 1) (wt_28 g.2.1 2) hP.2.2.1, CT_t g.1 g.2.1 g.2.2.2.1 (fun _ h => h) f hP.2.2.2.1, CT_t g.2.2.1 g.2.1 (fun x => g.2.2.2.2.2 x.symm) (fun _ h => h) f hP.2.2.2.2⟩
theorem PX_28 {a bb e : Nat} {N E : TB} {k : Nat} {v : Int64} (g : D3 a bb e) (hk : k = 4 ∨ k = 5) (hP : PX z d ln b K S F kn ow aw dd h0 hs u w a bb e N E h) : PX z d ln b K S F kn ow aw dd h0 hs u w a bb e N E (wF h 28 k (.long v)) := by
  have f : fz (fun c j => Nat.beq c 28 && (Nat.beq j 4 || Nat.beq j 5)) V0 h (wF h 28 k (.long v)) := fz_wF (by rcases hk with rfl | rfl <;> rfl)
  refine ⟨?_, CP_px hP.1 hP.2.1 (fz_mono f (fun c j e => ?_) (fun _ _ => rfl)), RF_fz f rfl rfl rfl hP.2.2.1, CT_28 g.1 hP.2.2.2.1, CT_28 g.2.2.1 hP.2.2.2.2⟩
  · rcases hk with rfl | rfl
    · exact oS_wL (cs := [28]) (ci := 7) rfl List.mem_cons_self hP.1
    · exact oS_wL (cs := [28]) (ci := 7) rfl List.mem_cons_self hP.1
  · unfold WPX at e
    simp only [Bool.or_eq_false_iff] at e
    rw [e.2.1]
    rfl
/-- all slips of an entry -/
theorem de_L {a bb e i : Nat} {N E : TB} {k : KY} {sh : Int64} {s0 : Int64} {q0 : Int32} (o0 : oS h0) (hN : EN z d ln r b K S F kn ow aw dd h0) (g : D3 a bb e) (hi : i < N.1) (n3 : N.1 ≤ 3000) (hq0 : QD u w s0 q0 k) (hk : kDR h0 z d b k) (hov : sOv h0 d b k = false) : ∀ (m p N' : Nat) (h : px_H) (B : TB) (vn : Int64), p + m = 10 → m < N' → PX z d ln b K S F kn ow aw dd h0 hs u w a bb e N E h → CT (QD u w) bb B h → aL h (a + 1) i = s0 → aI h (a + 2) i = q0 →
    (∀ p, p < 10 → (ib (gI h 21 11) p, ib (gI h 21 12) p, ib (gI h 21 13) p) = cf (fun j => ib (cB z d K S kn ow aw (pv k.1 5) q0 j) p) F 0 ln (ib (pv k.1 b) p && !ib dd p, false, false)) → gL h 28 5 = vn → pT (kDR h0 z d b) B →
    ∃ h', fn_Walk_drawEach_L83 (Int32.ofNat i) (pv k.1 b) sh N' (Int32.ofNat p) h = some (b01 (sDr h0 d b k sh m p (B, vn)).isSome, h') ∧ PX z d ln b K S F kn ow aw dd h0 hs u w a bb e N E h' ∧ gL h' 28 4 = gL h 28 4 ∧ ∃ Bx, CT (QD u w) bb Bx h' ∧ ∀ y, sDr h0 d b k sh m p (B, vn) = some y → Bx = y.1 ∧ gL h' 28 5 = y.2 ∧ pT (kDR h0 z d b) y.1 := by
  intro m
  induction m with
  | zero =>
    intro p N' h B vn hm hN' hP hB e1 e2 hF hv hp
    obtain ⟨N', rfl⟩ : ∃ k, N' = k + 1 := ⟨N' - 1, by omega⟩
    have : p = 10 := by omega
    subst this
    refine ⟨h, ?_, hP, rfl, B, hB, fun y hy => by cases hy; exact ⟨rfl, hv, hp⟩⟩
    show fb_Walk_drawEach_L83 (Int32.ofNat i) (pv k.1 b) sh (fn_Walk_drawEach_L83 (Int32.ofNat i) (pv k.1 b) sh N') (Int32.ofNat 10) h = _
    unfold fb_Walk_drawEach_L83
    rw [show px_cmp .ge (Int32.ofNat 10) (Int8.ofInt 10).toInt32 = true from by decide, cond_true]
    rfl
  | succ m ih =>
    intro p N' h B vn hm hN' hP hB e1 e2 hF hv hp
    obtain ⟨N', rfl⟩ : ∃ k, N' = k + 1 := ⟨N' - 1, by omega⟩
    have p10 : p < 10 := by omega
    show ∃ h', fb_Walk_drawEach_L83 (Int32.ofNat i) (pv k.1 b) sh (fn_Walk_drawEach_L83 (Int32.ofNat i) (pv k.1 b) sh N') (Int32.ofNat p) h = _ ∧ _
    unfold fb_Walk_drawEach_L83
    rw [ten, ge_nat (by omega) (by omega), decide_eq_false (show ¬ 10 ≤ p by omega), cond_false, hb_ne _ (show p < 32 by omega), inc1]
    unfold sDr
    cases hin : ib (pv k.1 b) p with
    | false =>
      rw [cond_false, if_neg (by decide)]
      exact ih (p + 1) N' h B vn (by omega) (by omega) hP hB e1 e2 hF hv hp
    | true =>
      have hP0 := hP
      obtain ⟨o, hC, ⟨r0, r1, r2⟩, hA, hE⟩ := hP
      rw [cond_true, if_pos rfl, nm_inR i 3000 (by omega) (by omega), cond_true, cond_true, nm_ofNat_clamp i (by omega), r0, (tb_ref g.1 o).1, (tb_ref g.1 o).2.1, e1, e2]
      obtain ⟨h1, l1, l2, l3, l4, l5⟩ := lay_ok o s0 q0
      rw [l1, Option.bind_some]
      have hP1 := PX_c g l2 l3 hP0
      obtain ⟨h2, t1, t2, t3, t4, t5, t6⟩ := cx_take o0 l2 hN hP1.2.1 (by rw [l4, l5]; exact hq0) hk hov p10 hin (by
        rw [l5, fz_gI l3 (show Wc 47 21 11 = false from rfl), fz_gI l3 (show Wc 47 21 12 = false from rfl), fz_gI l3 (show Wc 47 21 13 = false from rfl)]
        exact hF p p10)
      rw [t1, Option.bind_some, cmp_b01n]
      have hP2 := PX_c g t2 t3 hP1
      have hB2 : CT (QD u w) bb B h2 := CT_c g.2.1 t3 (CT_c g.2.1 l3 hB)
      have i12 : aL h2 (a + 1) i = s0 := by rw [(t3.2 _ rfl).2, (l3.2 _ rfl).2]; exact e1
      have i22 : aI h2 (a + 2) i = q0 := by rw [(t3.2 _ rfl).1, (l3.2 _ rfl).1]; exact e2
      have F2 : ∀ p, p < 10 → (ib (gI h2 21 11) p, ib (gI h2 21 12) p, ib (gI h2 21 13) p) = cf (fun j => ib (cB z d K S kn ow aw (pv k.1 5) q0 j) p) F 0 ln (ib (pv k.1 b) p && !ib dd p, false, false) := fun p hp => by
        rw [fz_gI t3 (show Wc 47 21 11 = false from rfl), fz_gI t3 (show Wc 47 21 12 = false from rfl), fz_gI t3 (show Wc 47 21 13 = false from rfl), fz_gI l3 (show Wc 47 21 11 = false from rfl), fz_gI l3 (show Wc 47 21 12 = false from rfl), fz_gI l3 (show Wc 47 21 13 = false from rfl)]
        exact hF p hp
      have v2 : gL h2 28 5 = vn := (fz_gL t3 rfl).trans ((fz_gL l3 rfl).trans hv)
      have d2 : gL h2 28 4 = gL h 28 4 := (fz_gL t3 rfl).trans (fz_gL l3 rfl)
      -- the addition
      have add : ∀ (h3 : px_H) (vn' : Int64), PX z d ln b K S F kn ow aw dd h0 hs u w a bb e N E h3 → CT (QD u w) bb B h3 → aL h3 (a + 1) i = s0 → aI h3 (a + 2) i = q0 → (∀ p, p < 10 → (ib (gI h3 21 11) p, ib (gI h3 21 12) p, ib (gI h3 21 13) p) = cf (fun j => ib (cB z d K S kn ow aw (pv k.1 5) q0 j) p) F 0 ln (ib (pv k.1 b) p && !ib dd p, false, false)) → gL h3 28 5 = vn' → gL h3 28 4 = gL h 28 4 → gL h3 47 0 = gL h2 47 0 → gI h3 47 1 = gI h2 47 1 →
          ∃ h', ((fn_Table_add (gR h3 28 1) (gL h3 47 0) (gI h3 47 1) sh h3).bind fun q61 => bif px_cmp .ne q61.1 0 then fn_Walk_drawEach_L83 (Int32.ofNat i) (pv k.1 b) sh N' (Int32.ofNat (p + 1)) q61.2 else some ((Int32.ofInt 0), q61.2)) = some (b01 ((adT B (sTk h0 d p k).2 sh).bind fun B => sDr h0 d b k sh m (p + 1) (B, vn')).isSome, h') ∧ PX z d ln b K S F kn ow aw dd h0 hs u w a bb e N E h' ∧ gL h' 28 4 = gL h 28 4 ∧ ∃ Bx, CT (QD u w) bb Bx h' ∧ ∀ y, ((adT B (sTk h0 d p k).2 sh).bind fun B => sDr h0 d b k sh m (p + 1) (B, vn')) = some y → Bx = y.1 ∧ gL h' 28 5 = y.2 ∧ pT (kDR h0 z d b) y.1 := by
        intro h3 vn' hP3 hB3 j1 j2 F3 v3 d3 w1 w2
        obtain ⟨h4, a1, a2, a3, a4⟩ := ca_add (Q := QD u w) (s := gL h2 47 0) (q := gI h2 47 1) (c := sh) QD_inj g.2.1 hP3.1 hB3 t4
        rw [hP3.2.2.1.2.1, w1, w2]
        rw [a1, Option.bind_some]
        simp only [cmp_b01n]
        have hP4 := PX_bb g a2 a3 hP3
        cases hA : adT B (sTk h0 d p k).2 sh with
        | none =>
          refine ⟨h4, rfl, hP4, (fz_gL a3 (wt_28 g.2.1 4)).trans d3, _, a4, fun y hy => by cases hy⟩
        | some B' =>
          have eB : adI B (sTk h0 d p k).2 sh = B' := by unfold adI; rw [hA]; rfl
          rw [eB] at a4
          have nv1 : Vt bb (a + 1) = false := vt_ne g.1 g.2.1 g.2.2.2.1 (by omega) (by omega)
          have nv2 : Vt bb (a + 2) = false := vt_ne g.1 g.2.1 g.2.2.2.1 (by omega) (by omega)
          have nw : ∀ k, Wtb bb 21 k = false := fun k => by unfold Wtb; rcases tb_c g.2.1 with x | x | x <;> (rw [x]; rfl)
          obtain ⟨h', b1, b2, b3, Bx, b4, b5⟩ := ih (p + 1) N' h4 B' vn' (by omega) (by omega) hP4 a4 (by rw [(a3.2 _ nv1).2]; exact j1) (by rw [(a3.2 _ nv2).1]; exact j2) (fun p hp => by rw [fz_gI a3 (nw 11), fz_gI a3 (nw 12), fz_gI a3 (nw 13)]; exact F3 p hp) ((fz_gL a3 (wt_28 g.2.1 5)).trans v3) (adT_p hp t5 hA)
          exact ⟨h', b1, b2, b3.trans ((fz_gL a3 (wt_28 g.2.1 4)).trans d3), Bx, b4, b5⟩
      cases ht : (sTk h0 d p k).1 with
      | true =>
        rw [cond_true]
        exact add h2 vn hP2 hB2 i12 i22 F2 v2 d2 rfl rfl
      | false =>
        rw [cond_false, sb_i]
        have f3 : fz (fun c j => Nat.beq c 28 && Nat.beq j 5) V0 h2 (wF h2 28 5 (.long (gL h2 28 5 + sh))) := fz_wF rfl
        refine add (wF h2 28 5 (.long (gL h2 28 5 + sh))) (vn + sh) (PX_28 g (Or.inr rfl) hP2) (CT_28 g.2.1 hB2) ?_ ?_ (fun p hp => ?_) ?_ ?_ ?_ ?_
        · rw [aL_wF]; exact i12
        · rw [aI_wF]; exact i22
        · rw [gI_wF_ne (by decide), gI_wF_ne (by decide), gI_wF_ne (by decide)]; exact F2 p hp
        · rw [gL_wF (cs := [28]) (ci := 7) rfl List.mem_cons_self hP2.1, v2]
        · exact (gL_wF_ne (by decide)).trans d2
        · exact gL_wF_ne (by decide)
        · exact gI_wF_ne (by decide)
theorem bc_64 {x : Int32} (hx : sm x) (h0 : px_cmp .eq x 0 = false) : px_cmp .le (nm_bc x) 0 = false ∧ decide ((nm_bc x).toInt64 = 0) = false := by
  have h1 := (sd_bc hx h0).1
  refine ⟨(bc_n0 h1).1, decide_eq_false (fun e => ?_)⟩
  have : (nm_bc x).toInt64.toInt = (0 : Int64).toInt := by rw [e]
  rw [Int32.toInt_toInt64, show (0 : Int64).toInt = 0 from by decide] at this
  omega
/-- .. of an entry that is not over -/
theorem de_ok {a bb e i : Nat} {N E B : TB} {dr vn : Int64} (o0 : oS h0) (hN : EN z d ln r b K S F kn ow aw dd h0) (g : D3 a bb e) (hi : i < N.1) (hP : PX z d ln b K S F kn ow aw dd h0 hs u w a bb e N E h) (hB : CT (QD u w) bb B h) (l4 : gL h 47 0 = aL h (a + 1) i) (l5 : gI h 47 1 = aI h (a + 2) i) (hk : kDR h0 z d b (N.2.1 i)) (hov : sOv h0 d b (N.2.1 i) = false) (hd : gL h 28 4 = dr) (hv : gL h 28 5 = vn) (hp : pT (kDR h0 z d b) B) :
    ∃ h', fn_Walk_drawEach (Int32.ofNat i) h = some (b01 (sDr h0 d b (N.2.1 i) (shr (N.2.1 i) b (N.2.2 i)) 10 0 (B, vn)).isSome, h') ∧ PX z d ln b K S F kn ow aw dd h0 hs u w a bb e N E h' ∧ gL h' 28 4 = dr + N.2.2 i ∧ ∃ Bx, CT (QD u w) bb Bx h' ∧ ∀ y, sDr h0 d b (N.2.1 i) (shr (N.2.1 i) b (N.2.2 i)) 10 0 (B, vn) = some y → Bx = y.1 ∧ gL h' 28 5 = y.2 ∧ pT (kDR h0 z d b) y.1 := by
  have hP0 := hP
  obtain ⟨o, hC, ⟨r0, r1, r2⟩, hA, hE⟩ := hP
  obtain ⟨hAn, n3, hAe, -⟩ := hA
  obtain ⟨hq, hc⟩ := hAe i hi
  have b2 := hN.2.2.2.2.1
  have hN9 := hN
  obtain ⟨z9, d6, l7, -⟩ := hN9
  have pb : pv (gL h 47 0) b = pv (N.2.1 i).1 b := by rw [l4]; exact hq.2.1 b (by omega)
  have p5 : pv (gL h 47 0) 5 = pv (N.2.1 i).1 5 := by rw [l4]; exact hq.2.1 5 (by omega)
  have ne0 : px_cmp .eq (pv (N.2.1 i).1 b) 0 = false := by
    unfold sOv at hov
    simp only [Bool.or_eq_false_iff] at hov
    exact hov.1
  obtain ⟨c1, c2⟩ := bc_64 (pv_sm _ _) ne0
  unfold fn_Walk_drawEach
  rw [hC.2.1, vl_part, Option.bind_some, pb, c1, cond_false, nm_inR i 3000 (by omega) (by omega), cond_true, c2, cond_false, cond_true, nm_ofNat_clamp i (by omega), r0, (tb_ref g.1 o).2.2.1, hc, hd, sb_i]
  have hP1 : PX z d ln b K S F kn ow aw dd h0 hs u w a bb e N E (wF h 28 4 (.long (dr + N.2.2 i))) := PX_28 g (Or.inl rfl) hP0
  have hB1 : CT (QD u w) bb B (wF h 28 4 (.long (dr + N.2.2 i))) := CT_28 g.2.1 hB
  have d1 : gL (wF h 28 4 (.long (dr + N.2.2 i))) 28 4 = dr + N.2.2 i := gL_wF (cs := [28]) (ci := 7) rfl List.mem_cons_self o
  have v1 : gL (wF h 28 4 (.long (dr + N.2.2 i))) 28 5 = vn := (gL_wF_ne (by decide)).trans hv
  have w1 : gL (wF h 28 4 (.long (dr + N.2.2 i))) 47 0 = gL h 47 0 := gL_wF_ne (by decide)
  have w2 : gI (wF h 28 4 (.long (dr + N.2.2 i))) 47 1 = gI h 47 1 := gI_wF_ne (by decide)
  have x1 : ∀ c, aL (wF h 28 4 (.long (dr + N.2.2 i))) c = aL h c := fun _ => aL_wF
  have x2 : ∀ c, aI (wF h 28 4 (.long (dr + N.2.2 i))) c = aI h c := fun _ => aI_wF
  generalize wF h 28 4 (.long (dr + N.2.2 i)) = h1 at hP1 hB1 d1 v1 w1 w2 x1 x2 ⊢
  rw [show fn_Chest_part 47 (Int32.ofInt 5) h1 = some (pv (gL h1 47 0) 5) from rfl, Option.bind_some, w1, p5, w2]
  obtain ⟨h2, t1, t2, t3, t4⟩ := vl_foretell hP1.1 hP1.2.1.1 z9 l7 (pv (N.2.1 i).1 b) (pv (N.2.1 i).1 5) (gI h 47 1)
  rw [t1, Option.bind_some]
  have hP2 : PX z d ln b K S F kn ow aw dd h0 hs u w a bb e N E h2 := ⟨t2, CP_px hP1.1 hP1.2.1 (px_3 t3), RF_fz t3 rfl rfl rfl hP1.2.2.1, CT_3 g.1 t3 hP1.2.2.2.1, CT_3 g.2.2.1 t3 hP1.2.2.2.2⟩
  obtain ⟨h', b1, b2', b3, Bx, b4, b5⟩ := de_L (sh := shr (N.2.1 i) b (N.2.2 i)) o0 hN g hi n3 hq hk hov 10 0 fu h2 B vn (by omega) (fu_lt (by omega)) hP2 (CT_3 g.2.1 t3 hB1) (by rw [(t3.2 _ rfl).2, x1]) (by rw [(t3.2 _ rfl).1, x2]) (fun p hp => by rw [t4 p hp, l5]) ((fz_gL t3 rfl).trans v1) hp
  exact ⟨h', b1, b2', b3.trans ((fz_gL t3 rfl).trans d1), Bx, b4, b5⟩
end tb_E
end mg_4
