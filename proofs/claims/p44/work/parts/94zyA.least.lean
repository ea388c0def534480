section mg_0
/-! the one that is told: down on one side, up on the other -/
theorem sp_mono (M : Nat → Bool) : ∀ (m i w w' : Nat), w < w' → w' < 2 ^ nbM M m i → sp M m i w < sp M m i w'
  | 0, i, w, w', h1, h2 => by
    have h2 : w' < 1 := h2
    omega
  | m + 1, i, w, w', h1, h2 => by
    have ih := sp_mono M m (i + 1)
    show (bif M i then w % 2 * 2 ^ i + sp M m (i + 1) (w / 2) else sp M m (i + 1) w) < (bif M i then w' % 2 * 2 ^ i + sp M m (i + 1) (w' / 2) else sp M m (i + 1) w')
    have h2 : w' < 2 ^ (nbM M m (i + 1) + (bif M i then 1 else 0)) := h2
    cases hM : M i with
    | false =>
      rw [hM, cond_false, Nat.add_zero] at h2
      rw [cond_false, cond_false]
      exact ih w w' h1 h2
    | true =>
      rw [hM, cond_true, Nat.pow_succ] at h2
      rw [cond_true, cond_true]
      have hp : 0 < 2 ^ i := Nat.pow_pos (by decide)
      obtain ⟨r, hr⟩ := sp_dvd M m (i + 1) (w / 2)
      obtain ⟨r', hr'⟩ := sp_dvd M m (i + 1) (w' / 2)
      have e2 : 2 ^ (i + 1) = 2 * 2 ^ i := by rw [Nat.pow_succ, Nat.mul_comm]
      by_cases e : w / 2 = w' / 2
      · rw [e]
        have a : w % 2 = 0 := by omega
        have b : w' % 2 = 1 := by omega
        rw [a, b, Nat.zero_mul, Nat.one_mul]
        omega
      · have hlt := ih (w / 2) (w' / 2) (by omega) (by omega)
        rw [hr, hr'] at hlt ⊢
        have hrr : r < r' := Nat.lt_of_mul_lt_mul_left hlt
        have h3 : 2 ^ (i + 1) * r + 2 ^ (i + 1) ≤ 2 ^ (i + 1) * r' := by
          rw [← Nat.mul_succ]
          exact Nat.mul_le_mul_left _ hrr
        have h4 : w % 2 * 2 ^ i ≤ 2 ^ i := by
          have : w % 2 ≤ 1 := by omega
          calc w % 2 * 2 ^ i ≤ 1 * 2 ^ i := Nat.mul_le_mul_right _ this
            _ = 2 ^ i := Nat.one_mul _
        have h5 : 0 ≤ w' % 2 * 2 ^ i := Nat.zero_le _
        omega
section tb_BA
variable {σ β : Nat → Int} {ht sub : Nat → Bool} {e : Nat → Nat} {T T' : Nat → Prop} {K : Nat}
/-- a is preferred, the places left aside -/
def Pf (σ β : Nat → Int) (a b : Nat) : Bool := decide (σ a < σ b) || (decide (σ a = σ b) && decide (β a < β b))
theorem Pf_t {a b : Nat} : Pf σ β a b = true ↔ (σ a < σ b ∨ (σ a = σ b ∧ β a < β b)) := by
  unfold Pf
  simp only [Bool.or_eq_true, Bool.and_eq_true, decide_eq_true_eq]
theorem Pf_f {a b : Nat} : Pf σ β a b = false ↔ ¬ (σ a < σ b ∨ (σ a = σ b ∧ β a < β b)) := by
  rw [← Pf_t]
  cases Pf σ β a b
  · exact ⟨fun _ x => (by cases x), fun _ => rfl⟩
  · exact ⟨fun x => (by cases x), fun x => absurd rfl x⟩
def bts (σ β : Nat → Int) (a b : Nat) : Prop := (σ a < σ b ∨ (σ a = σ b ∧ β a < β b)) ∨ (¬ (σ b < σ a ∨ (σ b = σ a ∧ β b < β a)) ∧ a < b)
def Rs (σ β : Nat → Int) (T : Nat → Prop) (s : Option Nat) : Prop := match s with
  | none => ∀ x, ¬ T x
  | some r => T r ∧ ∀ x, T x → x ≠ r → bts σ β r x
theorem Rs_cg {s : Option Nat} (h : ∀ x, T x ↔ T' x) (a : Rs σ β T s) : Rs σ β T' s := by
  cases s with
  | none => exact fun x y => a x ((h x).mpr y)
  | some r => exact ⟨(h r).mp a.1, fun x y => a.2 x ((h x).mpr y)⟩
theorem Rs_uq {s s' : Option Nat} (h : Rs σ β T s) (h' : Rs σ β T s') : s = s' := by
  cases s with
  | none =>
    cases s' with
    | none => rfl
    | some r => exact absurd h'.1 (h r)
  | some r =>
    cases s' with
    | none => exact absurd h.1 (h' r)
    | some r' =>
      by_cases x : r = r'
      · rw [x]
      · have a := h.2 r' h'.1 (fun y => x y.symm)
        have b := h'.2 r h.1 x
        unfold bts at a b
        exfalso
        omega
def stC (σ β : Nat → Int) (s : Option Nat) (x : Nat) : Option Nat := match s with
  | none => some x
  | some j => bif Pf σ β j x then some j else some x
def stM (σ β : Nat → Int) (s : Option Nat) (x : Nat) : Option Nat := match s with
  | none => some x
  | some j => bif Pf σ β x j then some x else some j
theorem stC_r {s : Option Nat} {k0 : Nat} (h : Rs σ β T s) (lt : ∀ x, T x → k0 < x) : Rs σ β (fun x => T x ∨ x = k0) (stC σ β s k0) := by
  cases s with
  | none => exact ⟨Or.inr rfl, fun x hx hn => by rcases hx with y | y; exact absurd y (h x); exact absurd y hn⟩
  | some j =>
    show Rs σ β _ (bif Pf σ β j k0 then some j else some k0)
    cases hP : Pf σ β j k0 with
    | true =>
      refine ⟨Or.inl h.1, fun x hx hn => ?_⟩
      rcases hx with y | y
      · exact h.2 x y hn
      · rw [y]
        exact Or.inl (Pf_t.mp hP)
    | false =>
      have hP := Pf_f.mp hP
      refine ⟨Or.inr rfl, fun x hx hn => ?_⟩
      rcases hx with y | y
      · have l1 := lt x y
        by_cases z : x = j
        · rw [z] at l1 ⊢
          exact Or.inr ⟨hP, l1⟩
        · have b := h.2 x y z
          unfold bts at b ⊢
          omega
      · exact absurd y hn
theorem stM_r {s : Option Nat} {v : Nat} (h : Rs σ β T s) (lt : ∀ x, T x → x < v) : Rs σ β (fun x => T x ∨ x = v) (stM σ β s v) := by
  cases s with
  | none => exact ⟨Or.inr rfl, fun x hx hn => by rcases hx with y | y; exact absurd y (h x); exact absurd y hn⟩
  | some j =>
    show Rs σ β _ (bif Pf σ β v j then some v else some j)
    cases hP : Pf σ β v j with
    | true =>
      have hP := Pf_t.mp hP
      refine ⟨Or.inr rfl, fun x hx hn => ?_⟩
      rcases hx with y | y
      · by_cases z : x = j
        · rw [z]
          exact Or.inl hP
        · have b := h.2 x y z
          unfold bts at b ⊢
          omega
      · exact absurd y hn
    | false =>
      have hP := Pf_f.mp hP
      refine ⟨Or.inl h.1, fun x hx hn => ?_⟩
      rcases hx with y | y
      · exact h.2 x y hn
      · rw [y]
        exact Or.inr ⟨hP, lt j h.1⟩
def dF (σ β : Nat → Int) (ht : Nat → Bool) (e : Nat → Nat) : Nat → Option Nat → Option Nat
  | 0, s => s
  | k + 1, s => dF σ β ht e k (bif ht (e k) then stC σ β s (e k) else s)
def aF (σ β : Nat → Int) (sub ht : Nat → Bool) : Nat → Nat → Option Nat → Option Nat
  | 0, _, s => s
  | m + 1, v, s => aF σ β sub ht m (v + 1) (bif sub v then (bif ht v then stM σ β s v else s) else s)
theorem dF_r (mo : ∀ w w', w < w' → w' < K → e w < e w') : ∀ (k : Nat) (s : Option Nat) (T : Nat → Prop), k ≤ K → Rs σ β T s → (∀ x, T x → ∃ w, k ≤ w ∧ w < K ∧ e w = x) → Rs σ β (fun x => T x ∨ ∃ w, w < k ∧ e w = x ∧ ht x = true) (dF σ β ht e k s)
  | 0, s, T, _, h, _ => Rs_cg (fun x => ⟨fun y => Or.inl y, fun y => by rcases y with y | ⟨w, y, -⟩; exact y; omega⟩) h
  | k + 1, s, T, hk, h, hT => by
    show Rs σ β _ (dF σ β ht e k (bif ht (e k) then stC σ β s (e k) else s))
    cases hh : ht (e k) with
    | false =>
      refine Rs_cg (fun x => ?_) (dF_r mo k s T (by omega) h (fun x y => by obtain ⟨w, a, b⟩ := hT x y; exact ⟨w, by omega, b⟩))
      refine ⟨fun y => ?_, fun y => ?_⟩
      · rcases y with y | ⟨w, a, b, c⟩
        · exact Or.inl y
        · exact Or.inr ⟨w, by omega, b, c⟩
      · rcases y with y | ⟨w, a, b, c⟩
        · exact Or.inl y
        · by_cases z : w = k
          · rw [z] at b
            rw [← b, hh] at c
            cases c
          · exact Or.inr ⟨w, by omega, b, c⟩
    | true =>
      have h1 := stC_r (k0 := e k) h (fun x y => by
        obtain ⟨w, a, b, c⟩ := hT x y
        rw [← c]
        exact mo k w (by omega) b)
      refine Rs_cg (fun x => ?_) (dF_r mo k (stC σ β s (e k)) _ (by omega) h1 (fun x y => by
        rcases y with y | y
        · obtain ⟨w, a, b⟩ := hT x y
          exact ⟨w, by omega, b⟩
        · exact ⟨k, Nat.le_refl k, by omega, y.symm⟩))
      refine ⟨fun y => ?_, fun y => ?_⟩
      · rcases y with (y | y) | ⟨w, a, b, c⟩
        · exact Or.inl y
        · exact Or.inr ⟨k, by omega, y.symm, by rw [y]; exact hh⟩
        · exact Or.inr ⟨w, by omega, b, c⟩
      · rcases y with y | ⟨w, a, b, c⟩
        · exact Or.inl (Or.inl y)
        · by_cases z : w = k
          · rw [z] at b
            exact Or.inl (Or.inr b.symm)
          · exact Or.inr ⟨w, by omega, b, c⟩
theorem aF_r : ∀ (m v : Nat) (s : Option Nat) (T : Nat → Prop), Rs σ β T s → (∀ x, T x → x < v) → Rs σ β (fun x => T x ∨ (v ≤ x ∧ x < v + m ∧ sub x = true ∧ ht x = true)) (aF σ β sub ht m v s)
  | 0, v, s, T, h, _ => Rs_cg (fun x => ⟨fun y => Or.inl y, fun y => by rcases y with y | ⟨a, b, -⟩; exact y; omega⟩) h
  | m + 1, v, s, T, h, hT => by
    show Rs σ β _ (aF σ β sub ht m (v + 1) (bif sub v then (bif ht v then stM σ β s v else s) else s))
    cases hh : (sub v && ht v) with
    | false =>
      have e1 : (bif sub v then (bif ht v then stM σ β s v else s) else s) = s := by
        cases hs : sub v with
        | false => rfl
        | true =>
          rw [hs, Bool.true_and] at hh
          rw [hh]
          rfl
      rw [e1]
      refine Rs_cg (fun x => ?_) (aF_r m (v + 1) s T h (fun x y => by have := hT x y; omega))
      refine ⟨fun y => ?_, fun y => ?_⟩
      · rcases y with y | ⟨a, b, c⟩
        · exact Or.inl y
        · exact Or.inr ⟨by omega, by omega, c⟩
      · rcases y with y | ⟨a, b, c, d⟩
        · exact Or.inl y
        · by_cases z : x = v
          · rw [z] at c d
            rw [c, d] at hh
            cases hh
          · exact Or.inr ⟨by omega, by omega, c, d⟩
    | true =>
      have hh := Bool.and_eq_true_iff.mp hh
      rw [hh.1, hh.2, cond_true, cond_true]
      refine Rs_cg (fun x => ?_) (aF_r m (v + 1) (stM σ β s v) _ (stM_r h hT) (fun x y => by
        rcases y with y | y
        · have := hT x y; omega
        · omega))
      refine ⟨fun y => ?_, fun y => ?_⟩
      · rcases y with (y | y) | ⟨a, b, c⟩
        · exact Or.inl y
        · exact Or.inr ⟨by omega, by omega, by rw [y]; exact hh.1, by rw [y]; exact hh.2⟩
        · exact Or.inr ⟨by omega, by omega, c⟩
      · rcases y with y | ⟨a, b, c⟩
        · exact Or.inl (Or.inl y)
        · by_cases z : x = v
          · exact Or.inl (Or.inr z)
          · exact Or.inr ⟨by omega, by omega, c⟩
/-- the ways are those that lie in A -/
theorem set_eq {A x : Nat} (hA : A < 1024) : (∃ w, w < 2 ^ nbM (ib (Int32.ofNat A)) 10 0 ∧ sp (ib (Int32.ofNat A)) 10 0 w = x) ↔ (x ≤ A ∧ sub_ (ib (Int32.ofNat A)) 10 0 x = true) := by
  have h := two_su hA (fun y => if y = x then 1 else 0)
  refine ⟨fun ⟨w, hw, e⟩ => Classical.byContradiction (fun hn => ?_), fun ⟨hx, hs⟩ => Classical.byContradiction (fun hn => ?_)⟩
  · have h0 : tf (fun v => bif sub_ (ib (Int32.ofNat A)) 10 0 v then (if v = x then 1 else 0) else 0) (A + 1) 0 = 0 := by
      rw [tf_su]
      refine su_0.mpr (fun j hj => ?_)
      rw [Nat.zero_add]
      cases hs : sub_ (ib (Int32.ofNat A)) 10 0 j with
      | false => rfl
      | true =>
        rw [cond_true, if_neg (fun y => hn ⟨by omega, by rw [← y]; exact hs⟩)]
    rw [h0] at h
    have := su_0.mp h w hw
    rw [if_pos e] at this
    cases this
  · have h0 : suN (fun w => if sp (ib (Int32.ofNat A)) 10 0 w = x then 1 else 0) (2 ^ nbM (ib (Int32.ofNat A)) 10 0) = 0 := su_0.mpr (fun j hj => if_neg (fun y => hn ⟨j, hj, y⟩))
    rw [h0, tf_su] at h
    have := su_0.mp h.symm x (by omega)
    rw [Nat.zero_add, hs, cond_true, if_pos rfl] at this
    cases this
theorem two_st {A : Nat} (hA : A < 1024) (σ β : Nat → Int) (ht : Nat → Bool) : dF σ β ht (sp (ib (Int32.ofNat A)) 10 0) (2 ^ nbM (ib (Int32.ofNat A)) 10 0) none = aF σ β (sub_ (ib (Int32.ofNat A)) 10 0) ht (A + 1) 0 none := by
  have h0 : Rs σ β (fun _ => False) none := fun _ h => h
  have a := dF_r (ht := ht) (σ := σ) (β := β) (e := sp (ib (Int32.ofNat A)) 10 0) (K := 2 ^ nbM (ib (Int32.ofNat A)) 10 0) (sp_mono (ib (Int32.ofNat A)) 10 0) _ none _ (Nat.le_refl _) h0 (fun _ h => h.elim)
  have b := aF_r (ht := ht) (sub := sub_ (ib (Int32.ofNat A)) 10 0) (σ := σ) (β := β) (A + 1) 0 none _ h0 (fun _ h => h.elim)
  refine Rs_uq (Rs_cg (fun x => ?_) a) b
  refine ⟨fun y => ?_, fun y => ?_⟩
  · rcases y with y | ⟨w, c, d, f⟩
    · exact y.elim
    · have := (set_eq hA).mp ⟨w, c, d⟩
      exact Or.inr ⟨Nat.zero_le _, by omega, this.2, f⟩
  · rcases y with y | ⟨-, c, d, f⟩
    · exact y.elim
    · obtain ⟨w, g, k⟩ := (set_eq hA).mpr ⟨by omega, d⟩
      exact Or.inr ⟨w, g, k, f⟩
end tb_BA
end mg_0

section mg_1
/-! how unlike: the same on both sides -/
theorem sS_nn {f : Nat → Bool} {C : Nat → Int64} : ∀ (m i : Nat) (acc : Int64), 0 ≤ acc.toInt → (∀ j, j < i + m → 0 ≤ (C j).toInt) → acc.toInt + (twN C (i + m) - twN C i) ≤ 4000000000000000000 → 0 ≤ (sS f C m i acc).toInt
  | 0, _, _, h, _, _ => h
  | m + 1, i, acc, h, hC, hl => by
    have hi := hC i (by omega)
    have e1 : twN C (i + 1) = twN C i + (C i).toInt := rfl
    have e2 : i + (m + 1) = i + 1 + m := by omega
    rw [e2] at hl
    have e3 := tw_mn (C := C) (i + 1) m (fun j hj => hC j (by omega))
    show 0 ≤ (sS f C m (i + 1) (bif f i then acc + C i else acc)).toInt
    cases f i with
    | true =>
      have e4 := i64_add h hi (by omega)
      exact sS_nn m (i + 1) (acc + C i) (by omega) (fun j hj => hC j (by omega)) (by omega)
    | false => exact sS_nn m (i + 1) acc h (fun j hj => hC j (by omega)) (by omega)
theorem sWk_w {h0 : px_H} : ∀ (m d : Nat) (x y : TB × Int64 × Int64), nn x.1 → tw x.1 ≤ 4000000000000000000 → sWk h0 m d x = some y → nn y.1 ∧ tw y.1 ≤ tw x.1
  | 0, d, x, y, nx, hl, h => by
    cases h
    exact ⟨nx, Int.le_refl _⟩
  | m + 1, d, x, y, nx, hl, h => by
    have h : (sPass h0 d (bgO h0 d) x.1).bind (fun y => sWk h0 m (d + 1) y) = some y := h
    obtain ⟨x1, h1, h⟩ := bd_e h
    obtain ⟨a1, a2⟩ := sPass_w nx hl h1
    obtain ⟨b1, b2⟩ := sWk_w m (d + 1) x1 y a1 (by omega) h
    exact ⟨b1, by omega⟩
theorem tS_w (k : KY) : nn (x0S k).1 ∧ tw (x0S k).1 = 1000000000000 :=
  ⟨fun i _ => (by decide : (0 : Int) ≤ (Int64.ofInt 1000000000000).toInt), by
    show (0 : Int) + (Int64.ofInt 1000000000000).toInt = _
    decide⟩
/-- chances as they are -/
def WN (y : TB × Int64 × Int64) : Prop := nn y.1 ∧ tw y.1 ≤ 1000000000000
theorem WN_k {h0 : px_H} {m d : Nat} {k : KY} {y : TB × Int64 × Int64} (h : sWk h0 m d (x0S k) = some y) : WN y := by
  obtain ⟨a, b⟩ := tS_w k
  obtain ⟨c, e⟩ := sWk_w m d (x0S k) y a (by omega) h
  exact ⟨c, by omega⟩
theorem WN_rs {b m : Nat} {hM : px_H} {s : Int32} {y : TB × Int64 × Int64} (h : rsM b hM m s = some y) : WN y := by
  unfold rsM at h
  obtain ⟨y2, h2, h⟩ := bd_e h
  exact WN_k h
theorem sAny_nn {z D : Nat} {y : TB × Int64 × Int64} (h : WN y) (a : Int32) : 0 ≤ (sAny z D y a).toInt := by
  have e0 : twN y.1.2.2 0 = 0 := rfl
  have e1 : twN y.1.2.2 (0 + y.1.1) = tw y.1 := by rw [Nat.zero_add]; rfl
  have e2 : (Int64.ofNat 0).toInt = 0 := by decide
  exact sS_nn y.1.1 0 (Int64.ofNat 0) (by omega) (fun j hj => h.1 j (by omega)) (by have := h.2; omega)
def uM (C : Nat → Int64) (f : Nat → Bool) : Nat → Nat → Int64 → Int64 → Int64
  | 0, _, lo, hi => hi - lo
  | m + 1, i, lo, hi => bif f i then uM C f m (i + 1) (bif px_cmp .ge (lg_cmp lo (Int64.ofNat 0)) 0 then (if C i < lo then C i else lo) else C i) (if C i < hi then hi else C i) else uM C f m (i + 1) lo hi
theorem uM_z {C : Nat → Int64} {f : Nat → Bool} (r : Nat) : ∀ (m i : Nat) (lo hi : Int64), (∀ j, i + m ≤ j → f j = false) → uM C f (m + r) i lo hi = uM C f m i lo hi
  | 0, i, lo, hi, h => by
    rw [Nat.zero_add]
    induction r generalizing i with
    | zero => rfl
    | succ r ih =>
      show (bif f i then _ else uM C f r (i + 1) lo hi) = _
      rw [h i (by omega), cond_false]
      exact ih (i + 1) (fun j hj => h j (by omega))
  | m + 1, i, lo, hi, h => by
    rw [show m + 1 + r = (m + r) + 1 from by omega]
    show (bif f i then uM C f (m + r) (i + 1) _ _ else uM C f (m + r) (i + 1) lo hi) = (bif f i then uM C f m (i + 1) _ _ else uM C f m (i + 1) lo hi)
    rw [uM_z r m (i + 1) _ _ (fun j hj => h j (by omega)), uM_z r m (i + 1) _ _ (fun j hj => h j (by omega))]
theorem uM_0 {C : Nat → Int64} {f : Nat → Bool} (hC : ∀ i, 0 ≤ (C i).toInt) : ∀ (m i : Nat) (lo : Int64), (∃ j, i ≤ j ∧ j < i + m ∧ f j = true) → uM C f m i lo (Int64.ofInt (-1)) = uM C f m i lo (Int64.ofNat 0)
  | 0, i, lo, ⟨j, h1, h2, _⟩ => by omega
  | m + 1, i, lo, ⟨j, h1, h2, h3⟩ => by
    show (bif f i then uM C f m (i + 1) _ (if C i < Int64.ofInt (-1) then Int64.ofInt (-1) else C i) else uM C f m (i + 1) lo (Int64.ofInt (-1))) = (bif f i then uM C f m (i + 1) _ (if C i < Int64.ofNat 0 then Int64.ofNat 0 else C i) else uM C f m (i + 1) lo (Int64.ofNat 0))
    have hc := hC i
    cases hf : f i with
    | true =>
      have e1 : ¬ C i < Int64.ofInt (-1) := fun x => by
        have := Int64.lt_iff_toInt_lt.mp x
        rw [show (Int64.ofInt (-1)).toInt = -1 from by decide] at this
        omega
      have e2 : ¬ C i < Int64.ofNat 0 := fun x => by
        have := Int64.lt_iff_toInt_lt.mp x
        rw [show (Int64.ofNat 0).toInt = 0 from by decide] at this
        omega
      rw [if_neg e1, if_neg e2]
      rfl
    | false =>
      rw [cond_false, cond_false]
      refine uM_0 hC m (i + 1) lo ⟨j, ?_, by omega, h3⟩
      by_cases e : j = i
      · rw [e, hf] at h3
        cases h3
      · omega
def huV (z D : Nat) (y : TB × Int64 × Int64) (a : Int32) : Int64 := uM (fun p => sAny z D y ((Int32.ofInt 1) <<< (Int32.ofNat p &&& 31))) (ib a) z 0 (Int64.ofInt (-1)) (Int64.ofNat 0)
section tb_BC
variable {hX hM : px_H} {z D : Nat} {u : Int64} {w : Int32} {y : TB × Int64 × Int64} {a : Int32}
theorem hu_MV (z9 : z ≤ 10) (zM : gI hM 69 3 = Int32.ofNat z) (hA : AQ z D u w y hX hM) : fn_M_unlike a hM = some (huV z D y a) := by
  have L : ∀ (m i N : Nat) (lo hi : Int64), i + m = z → m < N → fn_M_unlike_L10 a hM N lo hi (Int32.ofNat i) = some (uM (fun p => sAny z D y ((Int32.ofInt 1) <<< (Int32.ofNat p &&& 31))) (ib a) m i lo hi) := by
    intro m
    induction m with
    | zero =>
      intro i N lo hi h1 hN
      obtain ⟨N, rfl⟩ : ∃ k, N = k + 1 := ⟨N - 1, by omega⟩
      show fb_M_unlike_L10 a hM (fn_M_unlike_L10 a hM N) lo hi (Int32.ofNat i) = _
      unfold fb_M_unlike_L10
      rw [zM, show i = z from by omega, ge_t, cond_true]
      rfl
    | succ m ih =>
      intro i N lo hi h1 hN
      obtain ⟨N, rfl⟩ : ∃ k, N = k + 1 := ⟨N - 1, by omega⟩
      show fb_M_unlike_L10 a hM (fn_M_unlike_L10 a hM N) lo hi (Int32.ofNat i) = some (bif ib a i then uM _ (ib a) m (i + 1) (bif px_cmp .ge (lg_cmp lo (Int64.ofNat 0)) 0 then (if sAny z D y ((Int32.ofInt 1) <<< (Int32.ofNat i &&& 31)) < lo then sAny z D y ((Int32.ofInt 1) <<< (Int32.ofNat i &&& 31)) else lo) else sAny z D y ((Int32.ofInt 1) <<< (Int32.ofNat i &&& 31))) (if sAny z D y ((Int32.ofInt 1) <<< (Int32.ofNat i &&& 31)) < hi then hi else sAny z D y ((Int32.ofInt 1) <<< (Int32.ofNat i &&& 31))) else uM _ (ib a) m (i + 1) lo hi)
      unfold fb_M_unlike_L10
      rw [zM, ge_f (show i < z by omega) (by omega), cond_false, has_eq a (show i < 32 by omega), aq_anyM hA, Option.bind_some, inc1]
      cases ib a i with
      | false => exact ih (i + 1) N lo hi (by omega) (by omega)
      | true =>
        rw [Bool.not_true, cond_false, cond_true]
        cases px_cmp .ge (lg_cmp lo (Int64.ofNat 0)) 0 with
        | true => exact ih (i + 1) N _ _ (by omega) (by omega)
        | false => exact ih (i + 1) N _ _ (by omega) (by omega)
  unfold fn_M_unlike
  exact L z 0 fu _ _ (by omega) (fu_lt (by omega))
theorem hu_XV (z9 : z ≤ 10) (o : oS hX) (hA : AQ z D u w y hX hM) (hw : WN y) (h3 : sz z a) (n3 : ∃ i, i < z ∧ ib a i = true) : fn_Walk_howUnlike a hX = some (huV z D y a) := by
  have L : ∀ (m i N : Nat) (lo hi : Int64), i + m = 10 → m < N → fn_Walk_howUnlike_L12 a hX N hi lo (Int32.ofNat i) = some (uM (fun p => sAny z D y ((Int32.ofInt 1) <<< (Int32.ofNat p &&& 31))) (ib a) m i lo hi) := by
    intro m
    induction m with
    | zero =>
      intro i N lo hi h1 hN
      obtain ⟨N, rfl⟩ : ∃ k, N = k + 1 := ⟨N - 1, by omega⟩
      show fb_Walk_howUnlike_L12 a hX (fn_Walk_howUnlike_L12 a hX N) hi lo (Int32.ofNat i) = _
      unfold fb_Walk_howUnlike_L12
      rw [show i = 10 from by omega, show px_cmp .ge (Int32.ofNat 10) (Int8.ofInt 10).toInt32 = true from by decide, cond_true]
      rfl
    | succ m ih =>
      intro i N lo hi h1 hN
      obtain ⟨N, rfl⟩ : ∃ k, N = k + 1 := ⟨N - 1, by omega⟩
      show fb_Walk_howUnlike_L12 a hX (fn_Walk_howUnlike_L12 a hX N) hi lo (Int32.ofNat i) = some (bif ib a i then uM _ (ib a) m (i + 1) (bif px_cmp .ge (lg_cmp lo (Int64.ofNat 0)) 0 then (if sAny z D y ((Int32.ofInt 1) <<< (Int32.ofNat i &&& 31)) < lo then sAny z D y ((Int32.ofInt 1) <<< (Int32.ofNat i &&& 31)) else lo) else sAny z D y ((Int32.ofInt 1) <<< (Int32.ofNat i &&& 31))) (if sAny z D y ((Int32.ofInt 1) <<< (Int32.ofNat i &&& 31)) < hi then hi else sAny z D y ((Int32.ofInt 1) <<< (Int32.ofNat i &&& 31))) else uM _ (ib a) m (i + 1) lo hi)
      unfold fb_Walk_howUnlike_L12
      rw [show (Int8.ofInt 10).toInt32 = Int32.ofNat 10 from by decide, ge_f (show i < 10 by omega) (by omega), cond_false, hb_eq a (show i < 32 by omega), aq_anyX z9 o hA, Option.bind_some, inc1]
      cases ib a i with
      | false => exact ih (i + 1) N lo hi (by omega) (by omega)
      | true =>
        rw [Bool.not_true, cond_false, cond_true]
        cases px_cmp .ge (lg_cmp lo (Int64.ofNat 0)) 0 with
        | true => exact ih (i + 1) N _ _ (by omega) (by omega)
        | false => exact ih (i + 1) N _ _ (by omega) (by omega)
  have e := L 10 0 fu (Int64.ofInt (-1)) (Int64.ofInt (-1)) (by omega) (fu_lt (by omega))
  obtain ⟨i, i1, i2⟩ := n3
  rw [uM_0 (fun p => sAny_nn hw _) 10 0 _ ⟨i, Nat.zero_le _, by omega, i2⟩] at e
  obtain ⟨r, hr⟩ : ∃ r, 10 = z + r := ⟨10 - z, by omega⟩
  rw [show uM (fun p => sAny z D y ((Int32.ofInt 1) <<< (Int32.ofNat p &&& 31))) (ib a) 10 0 (Int64.ofInt (-1)) (Int64.ofNat 0) = huV z D y a from by
    rw [hr]
    exact uM_z r z 0 _ _ (fun j hj => h3 j (by omega))] at e
  exact e
theorem bit_of (h3 : sz z a) (z9 : z ≤ 10) (h : px_cmp .eq a 0 = false) : ∃ i, i < z ∧ ib a i = true := by
  refine Classical.byContradiction (fun hn => ?_)
  have : a = 0 := sm_ext (sz_sm z9 h3) sm_0 (fun i _ => by
    rw [ib_0]
    cases hb : ib a i with
    | false => rfl
    | true =>
      refine absurd ⟨i, ?_, hb⟩ hn
      refine Nat.lt_of_not_le (fun x => ?_)
      rw [h3 i x] at hb
      cases hb)
  rw [this] at h
  cases h
end tb_BC
end mg_1

section mg_2
/-! what is told, side by side -/
theorem bif_e3 {α : Type} {c : Bool} {A B : Option (α × px_H)} {v : α} {G : px_H → Prop} (hc : c = true) (h : ∃ h', A = some (v, h') ∧ G h') : ∃ h', (bif c then A else B) = some (v, h') ∧ G h' := by
  rw [hc]
  exact h
section tb_BB
variable {h hX hM hX' hM' hX0 hM0 : px_H} {z dn nx ln D b p A l : Nat} {q s a : Int32} {σ β : Nat → Int} {ch : Nat → Int64}
def RX (s : Nat) (f : Nat → Int64) (hX : px_H) : Prop := gI hX 48 1 = Int32.ofNat s ∧ ∀ i, i < s → aL hX 49 i = f i
def RY (s : Nat) (f : Nat → Int64) (hM : px_H) : Prop := gI hM 69 1 = Int32.ofNat s ∧ ∀ i, i < s → aL hM 70 i = f i
theorem RX_Y {s : Nat} {f : Nat → Int64} (s13 : s ≤ 13) (a : RX s f hX) (b : RY s f hM) : RWq l hX hM := ⟨s, s13, fun _ => ⟨a.1, b.1⟩, fun _ i hi => (a.2 i hi).trans (b.2 i hi).symm⟩
theorem tX {s : Nat} {f : Nat → Int64} (o : oS hX) (r : RX s f hX) (h13 : s < 13) (v : Int64) : ∃ h', fn_Row_tell v hX = some h' ∧ oS h' ∧ fz W48 V49 hX h' ∧ RX (s + 1) (fun i => if i = s then v else f i) h' := by
  obtain ⟨r1, r2⟩ := r
  have o1 : oS (uL hX 49 s v) := oS_uL (cs := [49]) (t := 5) (n := 13) rfl List.mem_cons_self o
  have a1 : aL (uL hX 49 s v) 49 = vp_updL (aL hX 49) s v := aL_uL (cs := [49]) (t := 5) (n := 13) rfl List.mem_cons_self o
  have g1 : gI (uL hX 49 s v) 48 1 = Int32.ofNat s := gI_uL.trans r1
  have f1 : fz W48 V49 hX (uL hX 49 s v) := fz_uL rfl
  refine ⟨wF (uL hX 49 s v) 48 1 (.int (Int32.ofNat (s + 1))), ?_, oS_wI (cs := [48]) (ci := 2) rfl List.mem_cons_self o1, fz_tr f1 (fz_wF rfl), gI_wF (cs := [48]) (ci := 2) rfl List.mem_cons_self o1, fun i hi => ?_⟩
  · unfold fn_Row_tell
    rw [r1, show (Int8.ofInt 13).toInt32 = Int32.ofNat 13 from by decide, ge_f h13 (by omega), cond_false, nm_inR s 13 h13 (by omega), cond_true, nm_ofNat_clamp s (by omega), sb_i, g1, inc1, sb_i]
  · rw [aL_wF, a1, vp_updL_eq]
    show (if i = s then v else aL hX 49 i) = if i = s then v else f i
    by_cases e : i = s
    · rw [if_pos e, if_pos e]
    · rw [if_neg e, if_neg e]
      exact r2 i (by omega)
theorem tY {s : Nat} {f : Nat → Int64} (o : oS hM) (r : RY s f hM) (h13 : s < 13) (v : Int64) : ∃ h', fn_M_enters v hM = some h' ∧ oS h' ∧ fz W691 V70 hM h' ∧ RY (s + 1) (fun i => if i = s then v else f i) h' := by
  obtain ⟨r1, r2⟩ := r
  have o2 : oS (uL hM 70 s v) := oS_uL (cs := [70]) (t := nr_row) (n := 64) rfl List.mem_cons_self o
  have a2 : aL (uL hM 70 s v) 70 = vp_updL (aL hM 70) s v := aL_uL (cs := [70]) (t := nr_row) (n := 64) rfl List.mem_cons_self o
  have g2 : gI (uL hM 70 s v) 69 1 = Int32.ofNat s := gI_uL.trans r1
  have f2 : fz W691 V70 hM (uL hM 70 s v) := fz_uL rfl
  refine ⟨wF (uL hM 70 s v) 69 1 (.int (Int32.ofNat (s + 1))), ?_, oS_wI (cs := [69]) (ci := 9) rfl List.mem_cons_self o2, fz_tr f2 (fz_wF rfl), gI_wF (cs := [69]) (ci := 9) rfl List.mem_cons_self o2, fun i hi => ?_⟩
  · unfold fn_M_enters
    rw [r1, nm_inR s 64 (by omega) (by omega), cond_true, nm_ofNat_clamp s (by omega), sb_i, g2, inc1, sb_i]
  · rw [aL_wF, a2, vp_updL_eq]
    show (if i = s then v else aL hM 70 i) = if i = s then v else f i
    by_cases e : i = s
    · rw [if_pos e, if_pos e]
    · rw [if_neg e, if_neg e]
      exact r2 i (by omega)
theorem cX (o : oS hX) : ∃ h', fn_Row_clear hX = some h' ∧ oS h' ∧ fz W48 V49 hX h' ∧ RX 0 (fun _ => 0) h' := ⟨wF hX 48 1 (.int (Int32.ofInt 0)), rfl, oS_wI (cs := [48]) (ci := 2) rfl List.mem_cons_self o, fz_wF rfl, gI_wF (cs := [48]) (ci := 2) rfl List.mem_cons_self o, fun i hi => by omega⟩
theorem cY (o : oS hM) : oS (wF hM 69 1 (.int (Int32.ofInt 0))) ∧ fz W691 V70 hM (wF hM 69 1 (.int (Int32.ofInt 0))) ∧ RY 0 (fun _ => 0) (wF hM 69 1 (.int (Int32.ofInt 0))) := ⟨oS_wI (cs := [69]) (ci := 9) rfl List.mem_cons_self o, fz_wF rfl, gI_wF (cs := [69]) (ci := 9) rfl List.mem_cons_self o, fun i hi => by omega⟩
def rw1 (v : Int64) : Nat → Int64 := fun i => if i = 0 then v else 0
def rw2 (v v' : Int64) : Nat → Int64 := fun i => if i = 1 then v' else rw1 v i
theorem one_X (o : oS hX) (gt : GT hX) (v : Int64) : ∃ x4, fn_Row_tellOne v hX = some x4 ∧ oS x4 ∧ GT x4 ∧ RX 1 (rw1 v) x4 := by
  obtain ⟨x2, r1, r2, r3, r4⟩ := cX o
  obtain ⟨x3, t1, t2, t3, t4⟩ := tX r2 r4 (by omega) v
  refine ⟨x3, ?_, t2, GT_w48 (fz_tr r3 t3) gt, t4⟩
  unfold fn_Row_tellOne
  rw [r1, Option.bind_some, t1]
  rfl
theorem two_X (o : oS hX) (gt : GT hX) (v v' : Int64) : ∃ x4 x5, fn_Row_tellOne v hX = some x4 ∧ fn_Row_tell v' x4 = some x5 ∧ GT x5 ∧ RX 2 (rw2 v v') x5 := by
  obtain ⟨x4, t1, t2, t3, t4⟩ := one_X o gt v
  obtain ⟨x5, r1, r2, r3, r4⟩ := tX t2 t4 (by omega) v'
  exact ⟨x4, x5, t1, r1, GT_w48 r3 t3, r4⟩
theorem one_Y (o : oS hM) (v : Int64) : ∃ y4, fn_M_enters v (wF hM 69 1 (.int (Int32.ofInt 0))) = some y4 ∧ oS y4 ∧ RY 1 (rw1 v) y4 := by
  obtain ⟨o1, -, r1⟩ := cY o
  obtain ⟨y4, t1, t2, t3, t4⟩ := tY o1 r1 (by omega) v
  exact ⟨y4, t1, t2, t4⟩
theorem two_Y (o : oS hM) (v v' : Int64) : ∃ y4 y5, fn_M_enters v (wF hM 69 1 (.int (Int32.ofInt 0))) = some y4 ∧ fn_M_enters v' y4 = some y5 ∧ RY 2 (rw2 v v') y5 := by
  obtain ⟨y4, t1, t2, t3⟩ := one_Y o v
  obtain ⟨y5, r1, r2, r3, r4⟩ := tY t2 t3 (by omega) v'
  exact ⟨y4, y5, t1, r1, r4⟩
/-- told if none failed, else as it was -/
def ZX (n s : Nat) (f : Nat → Int64) (hX0 hX' : px_H) : Prop := (n = 0 → RX s f hX') ∧ (n ≠ 0 → fz WSU VBY hX0 hX')
def ZY (n s : Nat) (f : Nat → Int64) (hM0 hM' : px_H) : Prop := (n = 0 → RY s f hM') ∧ (n ≠ 0 → fz WTR V98 hM0 hM')
theorem Z_q {n s : Nat} {f : Nat → Int64} (s13 : s ≤ 13) (hW : RWq l hX0 hM0) (a : ZX n s f hX0 hX') (b : ZY n s f hM0 hM') : RWq l hX' hM' := by
  by_cases e : n = 0
  · exact RX_Y s13 (a.1 e) (b.1 e)
  · exact RWq_k (a.2 e) (b.2 e) rfl rfl rfl rfl hW
theorem ZX_0 {s : Nat} {f : Nat → Int64} (r : RX s f hX') : ZX 0 s f hX0 hX' := ⟨fun _ => r, fun h => absurd rfl h⟩
theorem ZY_0 {s : Nat} {f : Nat → Int64} (r : RY s f hM') : ZY 0 s f hM0 hM' := ⟨fun _ => r, fun h => absurd rfl h⟩
theorem ZX_n {n s : Nat} {f : Nat → Int64} (r : fz WSU VBY hX0 hX') : ZX (n + 1) s f hX0 hX' := ⟨fun h => by omega, fun _ => r⟩
theorem ZY_n {n s : Nat} {f : Nat → Int64} (r : fz WTR V98 hM0 hM') : ZY (1 + n) s f hM0 hM' := ⟨fun h => by omega, fun _ => r⟩
/-- the state of a loop -/
def pO (q a : Int32) : Option Nat → Int32
  | none => Int32.ofInt (-1)
  | some v => pkS q a v
def cO (ch : Nat → Int64) : Option Nat → Int64
  | none => Int64.ofNat 0
  | some v => ch v
def βU (q a : Int32) (x : Nat) : Int := (nm_bc (pkS q a x)).toInt
def βD (q a : Int32) (x : Nat) : Int := -(nm_bc (pkS q a x)).toInt
theorem lgf (x y : Int64) : px_cmp .ge (lg_cmp x y) 0 = decide (y.toInt ≤ x.toInt) ∧ px_cmp .ne (lg_cmp x y) 0 = !decide (x.toInt = y.toInt) ∧ px_cmp .le (lg_cmp x y) 0 = decide (x.toInt ≤ y.toInt) ∧ px_cmp .lt (lg_cmp x y) 0 = decide (x.toInt < y.toInt) := by
  unfold lg_cmp
  by_cases h1 : y.toInt < x.toInt
  · rw [if_pos (Int64.lt_iff_toInt_lt.mpr h1), decide_eq_true (show y.toInt ≤ x.toInt by omega), decide_eq_false (show ¬ x.toInt = y.toInt by omega), decide_eq_false (show ¬ x.toInt ≤ y.toInt by omega), decide_eq_false (show ¬ x.toInt < y.toInt by omega)]
    decide
  · rw [if_neg (fun h => h1 (Int64.lt_iff_toInt_lt.mp h))]
    by_cases h2 : x = y
    · rw [if_pos h2, h2, decide_eq_true (show y.toInt ≤ y.toInt by omega), decide_eq_true (show y.toInt = y.toInt from rfl), decide_eq_false (show ¬ y.toInt < y.toInt by omega)]
      decide
    · have h3 : x.toInt ≠ y.toInt := fun h => h2 (Int64.toInt_inj.mp h)
      rw [if_neg h2, decide_eq_false (show ¬ y.toInt ≤ x.toInt by omega), decide_eq_false h3, decide_eq_true (show x.toInt ≤ y.toInt by omega), decide_eq_true (show x.toInt < y.toInt by omega)]
      decide
theorem pO_lt (z9 : z ≤ 10) {x : Int32} (h : sz z x) : px_cmp .lt x 0 = false := by
  have := (sm_le (sz_sm z9 h)).1
  rw [cmp_lt, show (0 : Int32).toInt = 0 from by decide]
  exact decide_eq_false (by omega)
/-- a state whose packing lies within the persons -/
def Sz (z : Nat) (q a : Int32) (s : Option Nat) : Prop := ∀ j, s = some j → sz z (pkS q a j)
theorem Sz_0 : Sz z q a none := fun j h => by cases h
theorem Sz_s {x : Nat} (h : sz z (pkS q a x)) : Sz z q a (some x) := fun j e => by cases e; exact h
theorem Sz_C {s : Option Nat} {x : Nat} (hs : Sz z q a s) (h : sz z (pkS q a x)) : Sz z q a (stC σ β s x) := by
  cases s with
  | none => exact Sz_s h
  | some j =>
    show Sz z q a (bif Pf σ β j x then some j else some x)
    cases Pf σ β j x with
    | true => exact hs
    | false => exact Sz_s h
theorem Sz_M {s : Option Nat} {x : Nat} (hs : Sz z q a s) (h : sz z (pkS q a x)) : Sz z q a (stM σ β s x) := by
  cases s with
  | none => exact Sz_s h
  | some j =>
    show Sz z q a (bif Pf σ β x j then some x else some j)
    cases Pf σ β x j with
    | true => exact Sz_s h
    | false => exact hs
/-! best: the class's choice, the model's -/
def bXt {α : Type} (c0 c1 c2 c3 c4 c5 : Bool) (n o : α) : α :=
  bif c0 then
    bif c1 then bif c2 then bif c5 then n else o else bif c4 then bif c5 then n else o else bif c5 then n else n
    else bif c2 then bif c5 then n else n else bif c4 then bif c5 then n else n else bif c5 then n else n
  else
    bif c3 then bif c2 then bif c5 then n else o else bif c4 then bif c5 then n else o else bif c5 then n else n
    else bif c2 then bif c5 then n else n else bif c4 then bif c5 then n else n else bif c5 then n else n
theorem bXt_e {α : Type} (c0 c1 c2 c3 c4 c5 : Bool) (n o : α) : bXt c0 c1 c2 c3 c4 c5 n o = bif (c5 || ((bif c0 then !c1 else !c3) || (!c2 && !c4))) then n else o := by
  cases c0 <;> cases c1 <;> cases c2 <;> cases c3 <;> cases c4 <;> cases c5 <;> rfl
def σB (a5 : Int32) (ch : Nat → Int64) (x : Nat) : Int := bif px_cmp .ne a5 0 then (ch x).toInt else -(ch x).toInt
theorem bXs {a5 : Int32} {s : Option Nat} {x : Nat} (z9 : z ≤ 10) (hs : Sz z q a s) : (px_cmp .lt (pO q a s) 0 || ((bif px_cmp .ne a5 0 then !px_cmp .ge (lg_cmp (ch x) (cO ch s)) 0 else !px_cmp .le (lg_cmp (ch x) (cO ch s)) 0) || (!px_cmp .ne (lg_cmp (ch x) (cO ch s)) 0 && !px_cmp .gt (nm_bc (pkS q a x)) (nm_bc (pO q a s))))) = true ∧ stC (σB a5 ch) (βU q a) s x = some x ∨ (px_cmp .lt (pO q a s) 0 || ((bif px_cmp .ne a5 0 then !px_cmp .ge (lg_cmp (ch x) (cO ch s)) 0 else !px_cmp .le (lg_cmp (ch x) (cO ch s)) 0) || (!px_cmp .ne (lg_cmp (ch x) (cO ch s)) 0 && !px_cmp .gt (nm_bc (pkS q a x)) (nm_bc (pO q a s))))) = false ∧ stC (σB a5 ch) (βU q a) s x = s := by
  cases s with
  | none => exact Or.inl ⟨rfl, rfl⟩
  | some j =>
    have e : (px_cmp .lt (pO q a (some j)) 0 || ((bif px_cmp .ne a5 0 then !px_cmp .ge (lg_cmp (ch x) (cO ch (some j))) 0 else !px_cmp .le (lg_cmp (ch x) (cO ch (some j))) 0) || (!px_cmp .ne (lg_cmp (ch x) (cO ch (some j))) 0 && !px_cmp .gt (nm_bc (pkS q a x)) (nm_bc (pO q a (some j)))))) = !Pf (σB a5 ch) (βU q a) j x := by
      rw [show px_cmp .lt (pO q a (some j)) 0 = false from pO_lt z9 (hs j rfl), Bool.false_or]
      show ((bif px_cmp .ne a5 0 then !px_cmp .ge (lg_cmp (ch x) (ch j)) 0 else !px_cmp .le (lg_cmp (ch x) (ch j)) 0) || (!px_cmp .ne (lg_cmp (ch x) (ch j)) 0 && !px_cmp .gt (nm_bc (pkS q a x)) (nm_bc (pkS q a j)))) = !Pf (σB a5 ch) (βU q a) j x
      obtain ⟨l1, l2, l3, -⟩ := lgf (ch x) (ch j)
      rw [l1, l2, l3, cmp_gt]
      unfold Pf σB βU
      rw [Bool.eq_iff_iff]
      cases px_cmp .ne a5 0
      · simp only [cond_false, Bool.or_eq_true, Bool.and_eq_true, Bool.not_eq_true', Bool.or_eq_false_iff, Bool.and_eq_false_iff, Bool.not_not, decide_eq_true_eq, decide_eq_false_iff_not]
        omega
      · simp only [cond_true, Bool.or_eq_true, Bool.and_eq_true, Bool.not_eq_true', Bool.or_eq_false_iff, Bool.and_eq_false_iff, Bool.not_not, decide_eq_true_eq, decide_eq_false_iff_not]
        omega
    rw [e]
    show _ ∧ (bif Pf (σB a5 ch) (βU q a) j x then some j else some x) = _ ∨ _ ∧ (bif Pf (σB a5 ch) (βU q a) j x then some j else some x) = _
    cases Pf (σB a5 ch) (βU q a) j x with
    | true => exact Or.inr ⟨rfl, rfl⟩
    | false => exact Or.inl ⟨rfl, rfl⟩
theorem bMs {a5 : Int32} {s : Option Nat} {x : Nat} (z9 : z ≤ 10) (hs : Sz z q a s) : (px_cmp .lt (pO q a s) 0 || ((bif px_cmp .ne a5 0 then !px_cmp .ge (lg_cmp (ch x) (cO ch s)) 0 else !px_cmp .le (lg_cmp (ch x) (cO ch s)) 0) || (!px_cmp .ne (lg_cmp (ch x) (cO ch s)) 0 && !px_cmp .ge (nm_bc (pkS q a x)) (nm_bc (pO q a s))))) = true ∧ stM (σB a5 ch) (βU q a) s x = some x ∨ (px_cmp .lt (pO q a s) 0 || ((bif px_cmp .ne a5 0 then !px_cmp .ge (lg_cmp (ch x) (cO ch s)) 0 else !px_cmp .le (lg_cmp (ch x) (cO ch s)) 0) || (!px_cmp .ne (lg_cmp (ch x) (cO ch s)) 0 && !px_cmp .ge (nm_bc (pkS q a x)) (nm_bc (pO q a s))))) = false ∧ stM (σB a5 ch) (βU q a) s x = s := by
  cases s with
  | none => exact Or.inl ⟨rfl, rfl⟩
  | some j =>
    have e : (px_cmp .lt (pO q a (some j)) 0 || ((bif px_cmp .ne a5 0 then !px_cmp .ge (lg_cmp (ch x) (cO ch (some j))) 0 else !px_cmp .le (lg_cmp (ch x) (cO ch (some j))) 0) || (!px_cmp .ne (lg_cmp (ch x) (cO ch (some j))) 0 && !px_cmp .ge (nm_bc (pkS q a x)) (nm_bc (pO q a (some j)))))) = Pf (σB a5 ch) (βU q a) x j := by
      rw [show px_cmp .lt (pO q a (some j)) 0 = false from pO_lt z9 (hs j rfl), Bool.false_or]
      show ((bif px_cmp .ne a5 0 then !px_cmp .ge (lg_cmp (ch x) (ch j)) 0 else !px_cmp .le (lg_cmp (ch x) (ch j)) 0) || (!px_cmp .ne (lg_cmp (ch x) (ch j)) 0 && !px_cmp .ge (nm_bc (pkS q a x)) (nm_bc (pkS q a j)))) = Pf (σB a5 ch) (βU q a) x j
      obtain ⟨l1, l2, l3, -⟩ := lgf (ch x) (ch j)
      rw [l1, l2, l3, cmp_ge]
      unfold Pf σB βU
      rw [Bool.eq_iff_iff]
      cases px_cmp .ne a5 0
      · simp only [cond_false, Bool.or_eq_true, Bool.and_eq_true, Bool.not_eq_true', Bool.or_eq_false_iff, Bool.and_eq_false_iff, Bool.not_not, decide_eq_true_eq, decide_eq_false_iff_not]
        omega
      · simp only [cond_true, Bool.or_eq_true, Bool.and_eq_true, Bool.not_eq_true', Bool.or_eq_false_iff, Bool.and_eq_false_iff, Bool.not_not, decide_eq_true_eq, decide_eq_false_iff_not]
        omega
    rw [e]
    show _ ∧ (bif Pf (σB a5 ch) (βU q a) x j then some x else some j) = _ ∨ _ ∧ (bif Pf (σB a5 ch) (βU q a) x j then some x else some j) = _
    cases Pf (σB a5 ch) (βU q a) x j with
    | true => exact Or.inl ⟨rfl, rfl⟩
    | false => exact Or.inr ⟨rfl, rfl⟩
/-- the chance by a packing -/
noncomputable def chB (b : Nat) (hM0 : px_H) (z D : Nat) (q a : Int32) (p : Nat) (x : Nat) : Int64 := match rsM b hM0 (D + 1) (pkS q a x) with
  | none => 0
  | some y => sAny z D y ((Int32.ofInt 1) <<< (Int32.ofNat p &&& 31))
theorem bestX2 (oX0 : oS hX0) (oM0 : oS hM0) (rp : RPt z dn ln hX0 hM0) (b2 : b < 2) (hz : sz z (Int32.ofNat A)) (hD : D < dn) {a5 : Int32} : ∀ (k N : Nat) (s : Option Nat) (x : px_H), Sz z (aI hM0 76 b) (Int32.ofNat A) s → k ≤ 64 → k < N → oS x → fz WSU VBY hX0 x → GT x → ∃ hX', fn_X_best_L59 (Int32.ofNat b) (Int32.ofNat A) (Int32.ofNat p) (Int32.ofNat D) a5 N (pO (aI hM0 76 b) (Int32.ofNat A) s) (cO (chB b hM0 z D (aI hM0 76 b) (Int32.ofNat A) p) s) (wy k) x = some (ansF (suN (fun w => okF b hM0 D (aI hM0 76 b) (Int32.ofNat A) (sp (ib (Int32.ofNat A)) 10 0 w)) k) (Int32.ofInt 0), hX') ∧ (GT hX' ∧ ZX (suN (fun w => okF b hM0 D (aI hM0 76 b) (Int32.ofNat A) (sp (ib (Int32.ofNat A)) 10 0 w)) k) 2 (rw2 (pO (aI hM0 76 b) (Int32.ofNat A) (dF (σB a5 (chB b hM0 z D (aI hM0 76 b) (Int32.ofNat A) p)) (βU (aI hM0 76 b) (Int32.ofNat A)) (fun _ => true) (sp (ib (Int32.ofNat A)) 10 0) k s)).toInt64 (cO (chB b hM0 z D (aI hM0 76 b) (Int32.ofNat A) p) (dF (σB a5 (chB b hM0 z D (aI hM0 76 b) (Int32.ofNat A) p)) (βU (aI hM0 76 b) (Int32.ofNat A)) (fun _ => true) (sp (ib (Int32.ofNat A)) 10 0) k s))) hX0 hX') := by
  intro k
  induction k with
  | zero =>
    intro N s x hs _ hN ox f gt
    obtain ⟨N, rfl⟩ : ∃ k, N = k + 1 := ⟨N - 1, by omega⟩
    obtain ⟨x4, x5, t1, t2, t3, t4⟩ := two_X ox gt (pO (aI hM0 76 b) (Int32.ofNat A) s).toInt64 (cO (chB b hM0 z D (aI hM0 76 b) (Int32.ofNat A) p) s)
    refine ⟨x5, ?_, t3, ZX_0 t4⟩
    show fb_X_best_L59 (Int32.ofNat b) (Int32.ofNat A) (Int32.ofNat p) (Int32.ofNat D) a5 (fn_X_best_L59 (Int32.ofNat b) (Int32.ofNat A) (Int32.ofNat p) (Int32.ofNat D) a5 N) (pO (aI hM0 76 b) (Int32.ofNat A) s) (cO (chB b hM0 z D (aI hM0 76 b) (Int32.ofNat A) p) s) (Int32.ofInt (-1)) x = _
    unfold fb_X_best_L59
    rw [show px_cmp .lt (Int32.ofInt (-1)) 0 = true from by decide, cond_true, t1, Option.bind_some, t2, Option.bind_some]
    exact ans_0
  | succ k ih =>
    intro N s x hs hk hN ox f gt
    obtain ⟨N, rfl⟩ : ∃ k, N = k + 1 := ⟨N - 1, by omega⟩
    have z9 := rp.1.1
    have hs' : sz z (pkS (aI hM0 76 b) (Int32.ofNat A) (sp (ib (Int32.ofNat A)) 10 0 k)) := spk_sz (z76 oX0 oM0 rp b2 hz hD) hz
    obtain ⟨x3, q1, q2, q3, q4, q5⟩ := itX oX0 oM0 rp b2 hs' hD ox f gt
    show ∃ hX', fb_X_best_L59 (Int32.ofNat b) (Int32.ofNat A) (Int32.ofNat p) (Int32.ofNat D) a5 (fn_X_best_L59 (Int32.ofNat b) (Int32.ofNat A) (Int32.ofNat p) (Int32.ofNat D) a5 N) (pO (aI hM0 76 b) (Int32.ofNat A) s) (cO (chB b hM0 z D (aI hM0 76 b) (Int32.ofNat A) p) s) (Int32.ofNat k) x = _ ∧ _
    unfold fb_X_best_L59
    rw [(wy_s (show k ≤ 1024 by omega)).2.2, cond_false, pk_X b2 (show k < 64 by omega), Option.bind_some, e76 oX0 oM0 rp b2 hz hD f, q1, Option.bind_some, (wy_s (show k ≤ 1024 by omega)).1, cmp_b01n]
    show ∃ hX', _ = some (ansF (suN (fun w => okF b hM0 D (aI hM0 76 b) (Int32.ofNat A) (sp (ib (Int32.ofNat A)) 10 0 w)) k + okF b hM0 D (aI hM0 76 b) (Int32.ofNat A) (sp (ib (Int32.ofNat A)) 10 0 k)) (Int32.ofInt 0), hX') ∧ (GT hX' ∧ ZX (suN (fun w => okF b hM0 D (aI hM0 76 b) (Int32.ofNat A) (sp (ib (Int32.ofNat A)) 10 0 w)) k + okF b hM0 D (aI hM0 76 b) (Int32.ofNat A) (sp (ib (Int32.ofNat A)) 10 0 k)) 2 (rw2 (pO (aI hM0 76 b) (Int32.ofNat A) (dF (σB a5 (chB b hM0 z D (aI hM0 76 b) (Int32.ofNat A) p)) (βU (aI hM0 76 b) (Int32.ofNat A)) (fun _ => true) (sp (ib (Int32.ofNat A)) 10 0) (k + 1) s)).toInt64 (cO (chB b hM0 z D (aI hM0 76 b) (Int32.ofNat A) p) (dF (σB a5 (chB b hM0 z D (aI hM0 76 b) (Int32.ofNat A) p)) (βU (aI hM0 76 b) (Int32.ofNat A)) (fun _ => true) (sp (ib (Int32.ofNat A)) 10 0) (k + 1) s))) hX0 hX')
    cases hr : rsM b hM0 (D + 1) (pkS (aI hM0 76 b) (Int32.ofNat A) (sp (ib (Int32.ofNat A)) 10 0 k)) with
    | none =>
      have eo : okF b hM0 D (aI hM0 76 b) (Int32.ofNat A) (sp (ib (Int32.ofNat A)) 10 0 k) = 1 := by unfold okF; rw [hr]; rfl
      rw [eo]
      exact ⟨x3, ans_X, q4, ZX_n q3⟩
    | some y =>
      have eo : okF b hM0 D (aI hM0 76 b) (Int32.ofNat A) (sp (ib (Int32.ofNat A)) 10 0 k) = 0 := by unfold okF; rw [hr]; rfl
      rw [eo]
      obtain ⟨u, w, y7, hA'⟩ := q5 y hr
      have hc : (chB b hM0 z D (aI hM0 76 b) (Int32.ofNat A) p) (sp (ib (Int32.ofNat A)) 10 0 k) = sAny z D y ((Int32.ofInt 1) <<< (Int32.ofNat p &&& 31)) := by unfold chB; rw [hr]
      have key : ∀ s, Sz z (aI hM0 76 b) (Int32.ofNat A) s → ∃ hX', fn_X_best_L59 (Int32.ofNat b) (Int32.ofNat A) (Int32.ofNat p) (Int32.ofNat D) a5 N (pO (aI hM0 76 b) (Int32.ofNat A) s) (cO (chB b hM0 z D (aI hM0 76 b) (Int32.ofNat A) p) s) (wy k) x3 = some (ansF (suN (fun w => okF b hM0 D (aI hM0 76 b) (Int32.ofNat A) (sp (ib (Int32.ofNat A)) 10 0 w)) k + 0) (Int32.ofInt 0), hX') ∧ (GT hX' ∧ ZX (suN (fun w => okF b hM0 D (aI hM0 76 b) (Int32.ofNat A) (sp (ib (Int32.ofNat A)) 10 0 w)) k + 0) 2 (rw2 (pO (aI hM0 76 b) (Int32.ofNat A) (dF (σB a5 (chB b hM0 z D (aI hM0 76 b) (Int32.ofNat A) p)) (βU (aI hM0 76 b) (Int32.ofNat A)) (fun _ => true) (sp (ib (Int32.ofNat A)) 10 0) k s)).toInt64 (cO (chB b hM0 z D (aI hM0 76 b) (Int32.ofNat A) p) (dF (σB a5 (chB b hM0 z D (aI hM0 76 b) (Int32.ofNat A) p)) (βU (aI hM0 76 b) (Int32.ofNat A)) (fun _ => true) (sp (ib (Int32.ofNat A)) 10 0) k s))) hX0 hX') := fun s hs => ih N s x3 hs (by omega) (by omega) q2 q3 q4
      show ∃ hX', (fn_Walk_chanceOfAny ((Int32.ofInt 1) <<< (Int32.ofNat p &&& 31)) x3).bind _ = _ ∧ _
      rw [aq_anyX z9 q2 hA', Option.bind_some, ← hc]
      show ∃ hX', bXt (px_cmp .ne a5 0) (px_cmp .ge (lg_cmp ((chB b hM0 z D (aI hM0 76 b) (Int32.ofNat A) p) (sp (ib (Int32.ofNat A)) 10 0 k)) (cO (chB b hM0 z D (aI hM0 76 b) (Int32.ofNat A) p) s)) 0) (px_cmp .ne (lg_cmp ((chB b hM0 z D (aI hM0 76 b) (Int32.ofNat A) p) (sp (ib (Int32.ofNat A)) 10 0 k)) (cO (chB b hM0 z D (aI hM0 76 b) (Int32.ofNat A) p) s)) 0) (px_cmp .le (lg_cmp ((chB b hM0 z D (aI hM0 76 b) (Int32.ofNat A) p) (sp (ib (Int32.ofNat A)) 10 0 k)) (cO (chB b hM0 z D (aI hM0 76 b) (Int32.ofNat A) p) s)) 0) (px_cmp .gt (nm_bc (pkS (aI hM0 76 b) (Int32.ofNat A) (sp (ib (Int32.ofNat A)) 10 0 k))) (nm_bc (pO (aI hM0 76 b) (Int32.ofNat A) s))) (px_cmp .lt (pO (aI hM0 76 b) (Int32.ofNat A) s) 0) (fn_X_best_L59 (Int32.ofNat b) (Int32.ofNat A) (Int32.ofNat p) (Int32.ofNat D) a5 N (pkS (aI hM0 76 b) (Int32.ofNat A) (sp (ib (Int32.ofNat A)) 10 0 k)) ((chB b hM0 z D (aI hM0 76 b) (Int32.ofNat A) p) (sp (ib (Int32.ofNat A)) 10 0 k)) (wy k) x3) (fn_X_best_L59 (Int32.ofNat b) (Int32.ofNat A) (Int32.ofNat p) (Int32.ofNat D) a5 N (pO (aI hM0 76 b) (Int32.ofNat A) s) (cO (chB b hM0 z D (aI hM0 76 b) (Int32.ofNat A) p) s) (wy k) x3) = _ ∧ _
      rw [bXt_e]
      rcases bXs (a5 := a5) (z := z) (q := (aI hM0 76 b)) (a := (Int32.ofNat A)) (ch := (chB b hM0 z D (aI hM0 76 b) (Int32.ofNat A) p)) (s := s) (x := sp (ib (Int32.ofNat A)) 10 0 k) z9 hs with ⟨g1, g2⟩ | ⟨g1, g2⟩
      · rw [g1, cond_true]
        show ∃ hX', _ ∧ (GT hX' ∧ ZX _ 2 (rw2 (pO (aI hM0 76 b) (Int32.ofNat A) (dF (σB a5 (chB b hM0 z D (aI hM0 76 b) (Int32.ofNat A) p)) (βU (aI hM0 76 b) (Int32.ofNat A)) (fun _ => true) (sp (ib (Int32.ofNat A)) 10 0) k (stC (σB a5 (chB b hM0 z D (aI hM0 76 b) (Int32.ofNat A) p)) (βU (aI hM0 76 b) (Int32.ofNat A)) s (sp (ib (Int32.ofNat A)) 10 0 k)))).toInt64 (cO (chB b hM0 z D (aI hM0 76 b) (Int32.ofNat A) p) (dF (σB a5 (chB b hM0 z D (aI hM0 76 b) (Int32.ofNat A) p)) (βU (aI hM0 76 b) (Int32.ofNat A)) (fun _ => true) (sp (ib (Int32.ofNat A)) 10 0) k (stC (σB a5 (chB b hM0 z D (aI hM0 76 b) (Int32.ofNat A) p)) (βU (aI hM0 76 b) (Int32.ofNat A)) s (sp (ib (Int32.ofNat A)) 10 0 k))))) hX0 hX')
        rw [g2]
        exact key (some (sp (ib (Int32.ofNat A)) 10 0 k)) (Sz_s hs')
      · rw [g1, cond_false]
        show ∃ hX', _ ∧ (GT hX' ∧ ZX _ 2 (rw2 (pO (aI hM0 76 b) (Int32.ofNat A) (dF (σB a5 (chB b hM0 z D (aI hM0 76 b) (Int32.ofNat A) p)) (βU (aI hM0 76 b) (Int32.ofNat A)) (fun _ => true) (sp (ib (Int32.ofNat A)) 10 0) k (stC (σB a5 (chB b hM0 z D (aI hM0 76 b) (Int32.ofNat A) p)) (βU (aI hM0 76 b) (Int32.ofNat A)) s (sp (ib (Int32.ofNat A)) 10 0 k)))).toInt64 (cO (chB b hM0 z D (aI hM0 76 b) (Int32.ofNat A) p) (dF (σB a5 (chB b hM0 z D (aI hM0 76 b) (Int32.ofNat A) p)) (βU (aI hM0 76 b) (Int32.ofNat A)) (fun _ => true) (sp (ib (Int32.ofNat A)) 10 0) k (stC (σB a5 (chB b hM0 z D (aI hM0 76 b) (Int32.ofNat A) p)) (βU (aI hM0 76 b) (Int32.ofNat A)) s (sp (ib (Int32.ofNat A)) 10 0 k))))) hX0 hX')
        rw [g2]
        exact key s hs
theorem bestM2 (oX0 : oS hX0) (oM0 : oS hM0) (rp : RPt z dn ln hX0 hM0) (b2 : b < 2) (hz : sz z (Int32.ofNat A)) (hD : D < dn) (gt0 : GT hX0) (hA : A < 1024) {a5 : Int32} : ∀ (k v N : Nat) (s : Option Nat) (y : px_H), Sz z (aI hM0 76 b) (Int32.ofNat A) s → v + k = A + 1 → k < N → oS y → fz WTR V98 hM0 y → SM hM0 y → ∃ hM', fn_M_best_L46 (Int32.ofNat b) (Int32.ofNat A) (Int32.ofNat p) (Int32.ofNat D) a5 N (pO (aI hM0 76 b) (Int32.ofNat A) s) (cO (chB b hM0 z D (aI hM0 76 b) (Int32.ofNat A) p) s) (Int32.ofNat v) y = some (ansF (tf (fun v => bif sub_ (ib (Int32.ofNat A)) 10 0 v then okF b hM0 D (aI hM0 76 b) (Int32.ofNat A) v else 0) k v) (Int32.ofInt 0), hM') ∧ ZY (tf (fun v => bif sub_ (ib (Int32.ofNat A)) 10 0 v then okF b hM0 D (aI hM0 76 b) (Int32.ofNat A) v else 0) k v) 2 (rw2 (pO (aI hM0 76 b) (Int32.ofNat A) (aF (σB a5 (chB b hM0 z D (aI hM0 76 b) (Int32.ofNat A) p)) (βU (aI hM0 76 b) (Int32.ofNat A)) (sub_ (ib (Int32.ofNat A)) 10 0) (fun _ => true) k v s)).toInt64 (cO (chB b hM0 z D (aI hM0 76 b) (Int32.ofNat A) p) (aF (σB a5 (chB b hM0 z D (aI hM0 76 b) (Int32.ofNat A) p)) (βU (aI hM0 76 b) (Int32.ofNat A)) (sub_ (ib (Int32.ofNat A)) 10 0) (fun _ => true) k v s))) hM0 hM' := by
  intro k
  induction k with
  | zero =>
    intro v N s y hs hv hN oy f sm'
    obtain ⟨N, rfl⟩ : ∃ k, N = k + 1 := ⟨N - 1, by omega⟩
    obtain ⟨y4, y5, t1, t2, t3⟩ := two_Y oy (pO (aI hM0 76 b) (Int32.ofNat A) s).toInt64 (cO (chB b hM0 z D (aI hM0 76 b) (Int32.ofNat A) p) s)
    refine ⟨y5, ?_, ZY_0 t3⟩
    show fb_M_best_L46 (Int32.ofNat b) (Int32.ofNat A) (Int32.ofNat p) (Int32.ofNat D) a5 (fn_M_best_L46 (Int32.ofNat b) (Int32.ofNat A) (Int32.ofNat p) (Int32.ofNat D) a5 N) (pO (aI hM0 76 b) (Int32.ofNat A) s) (cO (chB b hM0 z D (aI hM0 76 b) (Int32.ofNat A) p) s) (Int32.ofNat v) y = _
    unfold fb_M_best_L46
    rw [show v = A + 1 from by omega, gt_t (by omega), cond_true, sb_i, t1, Option.bind_some, t2, Option.bind_some]
    exact ans_0
  | succ k ih =>
    intro v N s y hs hv hN oy f sm'
    obtain ⟨N, rfl⟩ : ∃ k, N = k + 1 := ⟨N - 1, by omega⟩
    have z9 := rp.1.1
    show ∃ hM', fb_M_best_L46 (Int32.ofNat b) (Int32.ofNat A) (Int32.ofNat p) (Int32.ofNat D) a5 (fn_M_best_L46 (Int32.ofNat b) (Int32.ofNat A) (Int32.ofNat p) (Int32.ofNat D) a5 N) (pO (aI hM0 76 b) (Int32.ofNat A) s) (cO (chB b hM0 z D (aI hM0 76 b) (Int32.ofNat A) p) s) (Int32.ofNat v) y = _ ∧ _
    unfold fb_M_best_L46
    rw [gt_f (show v ≤ A by omega) (by omega), cond_false, sub_M (show v < 1024 by omega), inc1]
    show ∃ hM', _ = some (ansF ((bif sub_ (ib (Int32.ofNat A)) 10 0 v then okF b hM0 D (aI hM0 76 b) (Int32.ofNat A) v else 0) + tf (fun v => bif sub_ (ib (Int32.ofNat A)) 10 0 v then okF b hM0 D (aI hM0 76 b) (Int32.ofNat A) v else 0) k (v + 1)) (Int32.ofInt 0), hM') ∧ ZY ((bif sub_ (ib (Int32.ofNat A)) 10 0 v then okF b hM0 D (aI hM0 76 b) (Int32.ofNat A) v else 0) + tf (fun v => bif sub_ (ib (Int32.ofNat A)) 10 0 v then okF b hM0 D (aI hM0 76 b) (Int32.ofNat A) v else 0) k (v + 1)) 2 (rw2 (pO (aI hM0 76 b) (Int32.ofNat A) (aF (σB a5 (chB b hM0 z D (aI hM0 76 b) (Int32.ofNat A) p)) (βU (aI hM0 76 b) (Int32.ofNat A)) (sub_ (ib (Int32.ofNat A)) 10 0) (fun _ => true) k (v + 1) (bif sub_ (ib (Int32.ofNat A)) 10 0 v then stM (σB a5 (chB b hM0 z D (aI hM0 76 b) (Int32.ofNat A) p)) (βU (aI hM0 76 b) (Int32.ofNat A)) s v else s))).toInt64 (cO (chB b hM0 z D (aI hM0 76 b) (Int32.ofNat A) p) (aF (σB a5 (chB b hM0 z D (aI hM0 76 b) (Int32.ofNat A) p)) (βU (aI hM0 76 b) (Int32.ofNat A)) (sub_ (ib (Int32.ofNat A)) 10 0) (fun _ => true) k (v + 1) (bif sub_ (ib (Int32.ofNat A)) 10 0 v then stM (σB a5 (chB b hM0 z D (aI hM0 76 b) (Int32.ofNat A) p)) (βU (aI hM0 76 b) (Int32.ofNat A)) s v else s)))) hM0 hM'
    cases hsub : sub_ (ib (Int32.ofNat A)) 10 0 v with
    | false =>
      rw [cond_false, cond_false, cond_false, Nat.zero_add]
      exact ih (v + 1) N s y hs (by omega) (by omega) oy f sm'
    | true =>
      have hs' : sz z (pkS (aI hM0 76 b) (Int32.ofNat A) v) := pk_sz rp.1.1 (z76 oX0 oM0 rp b2 hz hD) hz (by omega) hsub
      obtain ⟨y7, q1, q2, q3, q4, q5⟩ := itM oX0 oM0 gt0 rp b2 hs' hD oy f sm'
      rw [cond_true, cond_true, cond_true, pk_M b2 v, Option.bind_some, (f.2 76 rfl).1, q1, Option.bind_some, cmp_b01n]
      cases hr : rsM b hM0 (D + 1) (pkS (aI hM0 76 b) (Int32.ofNat A) v) with
      | none =>
        have eo : okF b hM0 D (aI hM0 76 b) (Int32.ofNat A) v = 1 := by unfold okF; rw [hr]; rfl
        rw [eo]
        exact ⟨y7, ans_M, ZY_n q3⟩
      | some r =>
        have eo : okF b hM0 D (aI hM0 76 b) (Int32.ofNat A) v = 0 := by unfold okF; rw [hr]; rfl
        rw [eo]
        obtain ⟨u, w, x3, hA'⟩ := q5 r hr
        have hc : (chB b hM0 z D (aI hM0 76 b) (Int32.ofNat A) p) v = sAny z D r ((Int32.ofInt 1) <<< (Int32.ofNat p &&& 31)) := by unfold chB; rw [hr]
        have key : ∀ s, Sz z (aI hM0 76 b) (Int32.ofNat A) s → ∃ hM', fn_M_best_L46 (Int32.ofNat b) (Int32.ofNat A) (Int32.ofNat p) (Int32.ofNat D) a5 N (pO (aI hM0 76 b) (Int32.ofNat A) s) (cO (chB b hM0 z D (aI hM0 76 b) (Int32.ofNat A) p) s) (Int32.ofNat (v + 1)) y7 = some (ansF (0 + tf (fun v => bif sub_ (ib (Int32.ofNat A)) 10 0 v then okF b hM0 D (aI hM0 76 b) (Int32.ofNat A) v else 0) k (v + 1)) (Int32.ofInt 0), hM') ∧ ZY (0 + tf (fun v => bif sub_ (ib (Int32.ofNat A)) 10 0 v then okF b hM0 D (aI hM0 76 b) (Int32.ofNat A) v else 0) k (v + 1)) 2 (rw2 (pO (aI hM0 76 b) (Int32.ofNat A) (aF (σB a5 (chB b hM0 z D (aI hM0 76 b) (Int32.ofNat A) p)) (βU (aI hM0 76 b) (Int32.ofNat A)) (sub_ (ib (Int32.ofNat A)) 10 0) (fun _ => true) k (v + 1) s)).toInt64 (cO (chB b hM0 z D (aI hM0 76 b) (Int32.ofNat A) p) (aF (σB a5 (chB b hM0 z D (aI hM0 76 b) (Int32.ofNat A) p)) (βU (aI hM0 76 b) (Int32.ofNat A)) (sub_ (ib (Int32.ofNat A)) 10 0) (fun _ => true) k (v + 1) s))) hM0 hM' := fun s hs => by
          rw [Nat.zero_add]
          exact ih (v + 1) N s y7 hs (by omega) (by omega) q2 q3 q4
        show ∃ hM', (fn_M_anyOf ((Int32.ofInt 1) <<< (Int32.ofNat p &&& 31)) y7).bind _ = _ ∧ _
        rw [aq_anyM hA', Option.bind_some, ← hc]
        show ∃ hM', bXt (px_cmp .ne a5 0) (px_cmp .ge (lg_cmp ((chB b hM0 z D (aI hM0 76 b) (Int32.ofNat A) p) v) (cO (chB b hM0 z D (aI hM0 76 b) (Int32.ofNat A) p) s)) 0) (px_cmp .ne (lg_cmp ((chB b hM0 z D (aI hM0 76 b) (Int32.ofNat A) p) v) (cO (chB b hM0 z D (aI hM0 76 b) (Int32.ofNat A) p) s)) 0) (px_cmp .le (lg_cmp ((chB b hM0 z D (aI hM0 76 b) (Int32.ofNat A) p) v) (cO (chB b hM0 z D (aI hM0 76 b) (Int32.ofNat A) p) s)) 0) (px_cmp .ge (nm_bc (pkS (aI hM0 76 b) (Int32.ofNat A) v)) (nm_bc (pO (aI hM0 76 b) (Int32.ofNat A) s))) (px_cmp .lt (pO (aI hM0 76 b) (Int32.ofNat A) s) 0) (fn_M_best_L46 (Int32.ofNat b) (Int32.ofNat A) (Int32.ofNat p) (Int32.ofNat D) a5 N (pkS (aI hM0 76 b) (Int32.ofNat A) v) ((chB b hM0 z D (aI hM0 76 b) (Int32.ofNat A) p) v) (Int32.ofNat (v + 1)) y7) (fn_M_best_L46 (Int32.ofNat b) (Int32.ofNat A) (Int32.ofNat p) (Int32.ofNat D) a5 N (pO (aI hM0 76 b) (Int32.ofNat A) s) (cO (chB b hM0 z D (aI hM0 76 b) (Int32.ofNat A) p) s) (Int32.ofNat (v + 1)) y7) = _ ∧ ZY _ 2 (rw2 (pO (aI hM0 76 b) (Int32.ofNat A) (aF (σB a5 (chB b hM0 z D (aI hM0 76 b) (Int32.ofNat A) p)) (βU (aI hM0 76 b) (Int32.ofNat A)) (sub_ (ib (Int32.ofNat A)) 10 0) (fun _ => true) k (v + 1) (stM (σB a5 (chB b hM0 z D (aI hM0 76 b) (Int32.ofNat A) p)) (βU (aI hM0 76 b) (Int32.ofNat A)) s v))).toInt64 (cO (chB b hM0 z D (aI hM0 76 b) (Int32.ofNat A) p) (aF (σB a5 (chB b hM0 z D (aI hM0 76 b) (Int32.ofNat A) p)) (βU (aI hM0 76 b) (Int32.ofNat A)) (sub_ (ib (Int32.ofNat A)) 10 0) (fun _ => true) k (v + 1) (stM (σB a5 (chB b hM0 z D (aI hM0 76 b) (Int32.ofNat A) p)) (βU (aI hM0 76 b) (Int32.ofNat A)) s v)))) hM0 hM'
        rw [bXt_e]
        rcases bMs (a5 := a5) (z := z) (q := (aI hM0 76 b)) (a := (Int32.ofNat A)) (ch := (chB b hM0 z D (aI hM0 76 b) (Int32.ofNat A) p)) (s := s) (x := v) z9 hs with ⟨g1, g2⟩ | ⟨g1, g2⟩
        · rw [g1, cond_true, g2]
          exact key (some v) (Sz_s hs')
        · rw [g1, cond_false, g2]
          exact key s hs
/-! even -/
def eXt {α : Type} (c2 c4 c5 c6 : Bool) (n o : α) : α :=
  bif c2 then bif c5 then n else bif c6 then n else o else bif c4 then bif c5 then n else bif c6 then n else o else bif c5 then n else bif c6 then n else n
theorem eXt_e {α : Type} (c2 c4 c5 c6 : Bool) (n o : α) : eXt c2 c4 c5 c6 n o = bif (c5 || (c6 || (!c2 && !c4))) then n else o := by
  cases c2 <;> cases c4 <;> cases c5 <;> cases c6 <;> rfl
def eMt {α : Type} (c2 c4 c5 c6 : Bool) (n o : α) : α := bif c5 then n else bif c6 then n else bif c2 then o else bif c4 then o else n
theorem eMt_e {α : Type} (c2 c4 c5 c6 : Bool) (n o : α) : eMt c2 c4 c5 c6 n o = bif (c5 || (c6 || (!c2 && !c4))) then n else o := by
  cases c2 <;> cases c4 <;> cases c5 <;> cases c6 <;> rfl
def σE (ch : Nat → Int64) (x : Nat) : Int := (ch x).toInt
theorem eXs {s : Option Nat} {x : Nat} (z9 : z ≤ 10) (hs : Sz z q a s) : (px_cmp .lt (pO q a s) 0 || (px_cmp .lt (lg_cmp (ch x) (cO ch s)) 0 || (!px_cmp .ne (lg_cmp (ch x) (cO ch s)) 0 && !px_cmp .lt (nm_bc (pkS q a x)) (nm_bc (pO q a s))))) = true ∧ stC (σE ch) (βD q a) s x = some x ∨ (px_cmp .lt (pO q a s) 0 || (px_cmp .lt (lg_cmp (ch x) (cO ch s)) 0 || (!px_cmp .ne (lg_cmp (ch x) (cO ch s)) 0 && !px_cmp .lt (nm_bc (pkS q a x)) (nm_bc (pO q a s))))) = false ∧ stC (σE ch) (βD q a) s x = s := by
  cases s with
  | none => exact Or.inl ⟨rfl, rfl⟩
  | some j =>
    have e : (px_cmp .lt (pO q a (some j)) 0 || (px_cmp .lt (lg_cmp (ch x) (cO ch (some j))) 0 || (!px_cmp .ne (lg_cmp (ch x) (cO ch (some j))) 0 && !px_cmp .lt (nm_bc (pkS q a x)) (nm_bc (pO q a (some j)))))) = !Pf (σE ch) (βD q a) j x := by
      rw [show px_cmp .lt (pO q a (some j)) 0 = false from pO_lt z9 (hs j rfl), Bool.false_or]
      show (px_cmp .lt (lg_cmp (ch x) (ch j)) 0 || (!px_cmp .ne (lg_cmp (ch x) (ch j)) 0 && !px_cmp .lt (nm_bc (pkS q a x)) (nm_bc (pkS q a j)))) = !Pf (σE ch) (βD q a) j x
      obtain ⟨-, l2, -, l4⟩ := lgf (ch x) (ch j)
      rw [l2, l4, cmp_lt]
      unfold Pf σE βD
      rw [Bool.eq_iff_iff]
      simp only [Bool.or_eq_true, Bool.and_eq_true, Bool.not_eq_true', Bool.or_eq_false_iff, Bool.and_eq_false_iff, Bool.not_not, decide_eq_true_eq, decide_eq_false_iff_not]
      omega
    rw [e]
    show _ ∧ (bif Pf (σE ch) (βD q a) j x then some j else some x) = _ ∨ _ ∧ (bif Pf (σE ch) (βD q a) j x then some j else some x) = _
    cases Pf (σE ch) (βD q a) j x with
    | true => exact Or.inr ⟨rfl, rfl⟩
    | false => exact Or.inl ⟨rfl, rfl⟩
theorem eMs {s : Option Nat} {x : Nat} (z9 : z ≤ 10) (hs : Sz z q a s) : (px_cmp .lt (pO q a s) 0 || (px_cmp .lt (lg_cmp (ch x) (cO ch s)) 0 || (!px_cmp .ne (lg_cmp (ch x) (cO ch s)) 0 && !px_cmp .le (nm_bc (pkS q a x)) (nm_bc (pO q a s))))) = true ∧ stM (σE ch) (βD q a) s x = some x ∨ (px_cmp .lt (pO q a s) 0 || (px_cmp .lt (lg_cmp (ch x) (cO ch s)) 0 || (!px_cmp .ne (lg_cmp (ch x) (cO ch s)) 0 && !px_cmp .le (nm_bc (pkS q a x)) (nm_bc (pO q a s))))) = false ∧ stM (σE ch) (βD q a) s x = s := by
  cases s with
  | none => exact Or.inl ⟨rfl, rfl⟩
  | some j =>
    have e : (px_cmp .lt (pO q a (some j)) 0 || (px_cmp .lt (lg_cmp (ch x) (cO ch (some j))) 0 || (!px_cmp .ne (lg_cmp (ch x) (cO ch (some j))) 0 && !px_cmp .le (nm_bc (pkS q a x)) (nm_bc (pO q a (some j)))))) = Pf (σE ch) (βD q a) x j := by
      rw [show px_cmp .lt (pO q a (some j)) 0 = false from pO_lt z9 (hs j rfl), Bool.false_or]
      show (px_cmp .lt (lg_cmp (ch x) (ch j)) 0 || (!px_cmp .ne (lg_cmp (ch x) (ch j)) 0 && !px_cmp .le (nm_bc (pkS q a x)) (nm_bc (pkS q a j)))) = Pf (σE ch) (βD q a) x j
      obtain ⟨-, l2, -, l4⟩ := lgf (ch x) (ch j)
      rw [l2, l4, cmp_le]
      unfold Pf σE βD
      rw [Bool.eq_iff_iff]
      simp only [Bool.or_eq_true, Bool.and_eq_true, Bool.not_eq_true', Bool.or_eq_false_iff, Bool.and_eq_false_iff, Bool.not_not, decide_eq_true_eq, decide_eq_false_iff_not]
      omega
    rw [e]
    show _ ∧ (bif Pf (σE ch) (βD q a) x j then some x else some j) = _ ∨ _ ∧ (bif Pf (σE ch) (βD q a) x j then some x else some j) = _
    cases Pf (σE ch) (βD q a) x j with
    | true => exact Or.inl ⟨rfl, rfl⟩
    | false => exact Or.inr ⟨rfl, rfl⟩
/-- how unlike by a packing -/
noncomputable def chE (b : Nat) (hM0 : px_H) (z D : Nat) (q a who : Int32) (x : Nat) : Int64 := match rsM b hM0 (D + 1) (pkS q a x) with
  | none => 0
  | some y => huV z D y who
theorem evenX2 (oX0 : oS hX0) (oM0 : oS hM0) (rp : RPt z dn ln hX0 hM0) (b2 : b < 2) (hz : sz z (Int32.ofNat A)) (hD : D < dn) {a3 : Int32} (h3 : sz z a3) (n3 : ∃ i, i < z ∧ ib a3 i = true) : ∀ (k N : Nat) (s : Option Nat) (x : px_H), Sz z (aI hM0 76 b) (Int32.ofNat A) s → k ≤ 64 → k < N → oS x → fz WSU VBY hX0 x → GT x → ∃ hX', fn_X_even_L50 (Int32.ofNat b) (Int32.ofNat A) a3 (Int32.ofNat D) N (pO (aI hM0 76 b) (Int32.ofNat A) s) (cO (chE b hM0 z D (aI hM0 76 b) (Int32.ofNat A) a3) s) (wy k) x = some (ansF (suN (fun w => okF b hM0 D (aI hM0 76 b) (Int32.ofNat A) (sp (ib (Int32.ofNat A)) 10 0 w)) k) (Int32.ofInt 0), hX') ∧ (GT hX' ∧ ZX (suN (fun w => okF b hM0 D (aI hM0 76 b) (Int32.ofNat A) (sp (ib (Int32.ofNat A)) 10 0 w)) k) 2 (rw2 (pO (aI hM0 76 b) (Int32.ofNat A) (dF (σE (chE b hM0 z D (aI hM0 76 b) (Int32.ofNat A) a3)) (βD (aI hM0 76 b) (Int32.ofNat A)) (fun _ => true) (sp (ib (Int32.ofNat A)) 10 0) k s)).toInt64 (cO (chE b hM0 z D (aI hM0 76 b) (Int32.ofNat A) a3) (dF (σE (chE b hM0 z D (aI hM0 76 b) (Int32.ofNat A) a3)) (βD (aI hM0 76 b) (Int32.ofNat A)) (fun _ => true) (sp (ib (Int32.ofNat A)) 10 0) k s))) hX0 hX') := by
  intro k
  induction k with
  | zero =>
    intro N s x hs _ hN ox f gt
    obtain ⟨N, rfl⟩ : ∃ k, N = k + 1 := ⟨N - 1, by omega⟩
    obtain ⟨x4, x5, t1, t2, t3, t4⟩ := two_X ox gt (pO (aI hM0 76 b) (Int32.ofNat A) s).toInt64 (cO (chE b hM0 z D (aI hM0 76 b) (Int32.ofNat A) a3) s)
    refine ⟨x5, ?_, t3, ZX_0 t4⟩
    show fb_X_even_L50 (Int32.ofNat b) (Int32.ofNat A) a3 (Int32.ofNat D) (fn_X_even_L50 (Int32.ofNat b) (Int32.ofNat A) a3 (Int32.ofNat D) N) (pO (aI hM0 76 b) (Int32.ofNat A) s) (cO (chE b hM0 z D (aI hM0 76 b) (Int32.ofNat A) a3) s) (Int32.ofInt (-1)) x = _
    unfold fb_X_even_L50
    rw [show px_cmp .lt (Int32.ofInt (-1)) 0 = true from by decide, cond_true, t1, Option.bind_some, t2, Option.bind_some]
    exact ans_0
  | succ k ih =>
    intro N s x hs hk hN ox f gt
    obtain ⟨N, rfl⟩ : ∃ k, N = k + 1 := ⟨N - 1, by omega⟩
    have z9 := rp.1.1
    have hs' : sz z (pkS (aI hM0 76 b) (Int32.ofNat A) (sp (ib (Int32.ofNat A)) 10 0 k)) := spk_sz (z76 oX0 oM0 rp b2 hz hD) hz
    obtain ⟨x3, q1, q2, q3, q4, q5⟩ := itX oX0 oM0 rp b2 hs' hD ox f gt
    show ∃ hX', fb_X_even_L50 (Int32.ofNat b) (Int32.ofNat A) a3 (Int32.ofNat D) (fn_X_even_L50 (Int32.ofNat b) (Int32.ofNat A) a3 (Int32.ofNat D) N) (pO (aI hM0 76 b) (Int32.ofNat A) s) (cO (chE b hM0 z D (aI hM0 76 b) (Int32.ofNat A) a3) s) (Int32.ofNat k) x = _ ∧ _
    unfold fb_X_even_L50
    rw [(wy_s (show k ≤ 1024 by omega)).2.2, cond_false, pk_X b2 (show k < 64 by omega), Option.bind_some, e76 oX0 oM0 rp b2 hz hD f, q1, Option.bind_some, (wy_s (show k ≤ 1024 by omega)).1, cmp_b01n]
    show ∃ hX', _ = some (ansF (suN (fun w => okF b hM0 D (aI hM0 76 b) (Int32.ofNat A) (sp (ib (Int32.ofNat A)) 10 0 w)) k + okF b hM0 D (aI hM0 76 b) (Int32.ofNat A) (sp (ib (Int32.ofNat A)) 10 0 k)) (Int32.ofInt 0), hX') ∧ (GT hX' ∧ ZX (suN (fun w => okF b hM0 D (aI hM0 76 b) (Int32.ofNat A) (sp (ib (Int32.ofNat A)) 10 0 w)) k + okF b hM0 D (aI hM0 76 b) (Int32.ofNat A) (sp (ib (Int32.ofNat A)) 10 0 k)) 2 (rw2 (pO (aI hM0 76 b) (Int32.ofNat A) (dF (σE (chE b hM0 z D (aI hM0 76 b) (Int32.ofNat A) a3)) (βD (aI hM0 76 b) (Int32.ofNat A)) (fun _ => true) (sp (ib (Int32.ofNat A)) 10 0) (k + 1) s)).toInt64 (cO (chE b hM0 z D (aI hM0 76 b) (Int32.ofNat A) a3) (dF (σE (chE b hM0 z D (aI hM0 76 b) (Int32.ofNat A) a3)) (βD (aI hM0 76 b) (Int32.ofNat A)) (fun _ => true) (sp (ib (Int32.ofNat A)) 10 0) (k + 1) s))) hX0 hX')
    cases hr : rsM b hM0 (D + 1) (pkS (aI hM0 76 b) (Int32.ofNat A) (sp (ib (Int32.ofNat A)) 10 0 k)) with
    | none =>
      have eo : okF b hM0 D (aI hM0 76 b) (Int32.ofNat A) (sp (ib (Int32.ofNat A)) 10 0 k) = 1 := by unfold okF; rw [hr]; rfl
      rw [eo]
      exact ⟨x3, ans_X, q4, ZX_n q3⟩
    | some y =>
      have eo : okF b hM0 D (aI hM0 76 b) (Int32.ofNat A) (sp (ib (Int32.ofNat A)) 10 0 k) = 0 := by unfold okF; rw [hr]; rfl
      rw [eo]
      obtain ⟨u, w, y7, hA'⟩ := q5 y hr
      have hc : (chE b hM0 z D (aI hM0 76 b) (Int32.ofNat A) a3) (sp (ib (Int32.ofNat A)) 10 0 k) = huV z D y a3 := by unfold chE; rw [hr]
      have key : ∀ s, Sz z (aI hM0 76 b) (Int32.ofNat A) s → ∃ hX', fn_X_even_L50 (Int32.ofNat b) (Int32.ofNat A) a3 (Int32.ofNat D) N (pO (aI hM0 76 b) (Int32.ofNat A) s) (cO (chE b hM0 z D (aI hM0 76 b) (Int32.ofNat A) a3) s) (wy k) x3 = some (ansF (suN (fun w => okF b hM0 D (aI hM0 76 b) (Int32.ofNat A) (sp (ib (Int32.ofNat A)) 10 0 w)) k + 0) (Int32.ofInt 0), hX') ∧ (GT hX' ∧ ZX (suN (fun w => okF b hM0 D (aI hM0 76 b) (Int32.ofNat A) (sp (ib (Int32.ofNat A)) 10 0 w)) k + 0) 2 (rw2 (pO (aI hM0 76 b) (Int32.ofNat A) (dF (σE (chE b hM0 z D (aI hM0 76 b) (Int32.ofNat A) a3)) (βD (aI hM0 76 b) (Int32.ofNat A)) (fun _ => true) (sp (ib (Int32.ofNat A)) 10 0) k s)).toInt64 (cO (chE b hM0 z D (aI hM0 76 b) (Int32.ofNat A) a3) (dF (σE (chE b hM0 z D (aI hM0 76 b) (Int32.ofNat A) a3)) (βD (aI hM0 76 b) (Int32.ofNat A)) (fun _ => true) (sp (ib (Int32.ofNat A)) 10 0) k s))) hX0 hX') := fun s hs => ih N s x3 hs (by omega) (by omega) q2 q3 q4
      show ∃ hX', (fn_Walk_howUnlike a3 x3).bind _ = _ ∧ _
      rw [hu_XV z9 q2 hA' (WN_rs hr) h3 n3, Option.bind_some, ← hc]
      show ∃ hX', eXt (px_cmp .ne (lg_cmp ((chE b hM0 z D (aI hM0 76 b) (Int32.ofNat A) a3) (sp (ib (Int32.ofNat A)) 10 0 k)) (cO (chE b hM0 z D (aI hM0 76 b) (Int32.ofNat A) a3) s)) 0) (px_cmp .lt (nm_bc (pkS (aI hM0 76 b) (Int32.ofNat A) (sp (ib (Int32.ofNat A)) 10 0 k))) (nm_bc (pO (aI hM0 76 b) (Int32.ofNat A) s))) (px_cmp .lt (pO (aI hM0 76 b) (Int32.ofNat A) s) 0) (px_cmp .lt (lg_cmp ((chE b hM0 z D (aI hM0 76 b) (Int32.ofNat A) a3) (sp (ib (Int32.ofNat A)) 10 0 k)) (cO (chE b hM0 z D (aI hM0 76 b) (Int32.ofNat A) a3) s)) 0) (fn_X_even_L50 (Int32.ofNat b) (Int32.ofNat A) a3 (Int32.ofNat D) N (pkS (aI hM0 76 b) (Int32.ofNat A) (sp (ib (Int32.ofNat A)) 10 0 k)) ((chE b hM0 z D (aI hM0 76 b) (Int32.ofNat A) a3) (sp (ib (Int32.ofNat A)) 10 0 k)) (wy k) x3) (fn_X_even_L50 (Int32.ofNat b) (Int32.ofNat A) a3 (Int32.ofNat D) N (pO (aI hM0 76 b) (Int32.ofNat A) s) (cO (chE b hM0 z D (aI hM0 76 b) (Int32.ofNat A) a3) s) (wy k) x3) = _ ∧ _
      rw [eXt_e]
      rcases eXs (z := z) (q := (aI hM0 76 b)) (a := (Int32.ofNat A)) (ch := (chE b hM0 z D (aI hM0 76 b) (Int32.ofNat A) a3)) (s := s) (x := sp (ib (Int32.ofNat A)) 10 0 k) z9 hs with ⟨g1, g2⟩ | ⟨g1, g2⟩
      · rw [g1, cond_true]
        show ∃ hX', _ ∧ (GT hX' ∧ ZX _ 2 (rw2 (pO (aI hM0 76 b) (Int32.ofNat A) (dF (σE (chE b hM0 z D (aI hM0 76 b) (Int32.ofNat A) a3)) (βD (aI hM0 76 b) (Int32.ofNat A)) (fun _ => true) (sp (ib (Int32.ofNat A)) 10 0) k (stC (σE (chE b hM0 z D (aI hM0 76 b) (Int32.ofNat A) a3)) (βD (aI hM0 76 b) (Int32.ofNat A)) s (sp (ib (Int32.ofNat A)) 10 0 k)))).toInt64 (cO (chE b hM0 z D (aI hM0 76 b) (Int32.ofNat A) a3) (dF (σE (chE b hM0 z D (aI hM0 76 b) (Int32.ofNat A) a3)) (βD (aI hM0 76 b) (Int32.ofNat A)) (fun _ => true) (sp (ib (Int32.ofNat A)) 10 0) k (stC (σE (chE b hM0 z D (aI hM0 76 b) (Int32.ofNat A) a3)) (βD (aI hM0 76 b) (Int32.ofNat A)) s (sp (ib (Int32.ofNat A)) 10 0 k))))) hX0 hX')
        rw [g2]
        exact key (some (sp (ib (Int32.ofNat A)) 10 0 k)) (Sz_s hs')
      · rw [g1, cond_false]
        show ∃ hX', _ ∧ (GT hX' ∧ ZX _ 2 (rw2 (pO (aI hM0 76 b) (Int32.ofNat A) (dF (σE (chE b hM0 z D (aI hM0 76 b) (Int32.ofNat A) a3)) (βD (aI hM0 76 b) (Int32.ofNat A)) (fun _ => true) (sp (ib (Int32.ofNat A)) 10 0) k (stC (σE (chE b hM0 z D (aI hM0 76 b) (Int32.ofNat A) a3)) (βD (aI hM0 76 b) (Int32.ofNat A)) s (sp (ib (Int32.ofNat A)) 10 0 k)))).toInt64 (cO (chE b hM0 z D (aI hM0 76 b) (Int32.ofNat A) a3) (dF (σE (chE b hM0 z D (aI hM0 76 b) (Int32.ofNat A) a3)) (βD (aI hM0 76 b) (Int32.ofNat A)) (fun _ => true) (sp (ib (Int32.ofNat A)) 10 0) k (stC (σE (chE b hM0 z D (aI hM0 76 b) (Int32.ofNat A) a3)) (βD (aI hM0 76 b) (Int32.ofNat A)) s (sp (ib (Int32.ofNat A)) 10 0 k))))) hX0 hX')
        rw [g2]
        exact key s hs
theorem evenM2 (oX0 : oS hX0) (oM0 : oS hM0) (rp : RPt z dn ln hX0 hM0) (b2 : b < 2) (hz : sz z (Int32.ofNat A)) (hD : D < dn) (gt0 : GT hX0) (hA : A < 1024) {a3 : Int32} (h3 : sz z a3) (n3 : ∃ i, i < z ∧ ib a3 i = true) : ∀ (k v N : Nat) (s : Option Nat) (y : px_H), Sz z (aI hM0 76 b) (Int32.ofNat A) s → v + k = A + 1 → k < N → oS y → fz WTR V98 hM0 y → SM hM0 y → ∃ hM', fn_M_even_L39 (Int32.ofNat b) (Int32.ofNat A) a3 (Int32.ofNat D) N (pO (aI hM0 76 b) (Int32.ofNat A) s) (cO (chE b hM0 z D (aI hM0 76 b) (Int32.ofNat A) a3) s) (Int32.ofNat v) y = some (ansF (tf (fun v => bif sub_ (ib (Int32.ofNat A)) 10 0 v then okF b hM0 D (aI hM0 76 b) (Int32.ofNat A) v else 0) k v) (Int32.ofInt 0), hM') ∧ ZY (tf (fun v => bif sub_ (ib (Int32.ofNat A)) 10 0 v then okF b hM0 D (aI hM0 76 b) (Int32.ofNat A) v else 0) k v) 2 (rw2 (pO (aI hM0 76 b) (Int32.ofNat A) (aF (σE (chE b hM0 z D (aI hM0 76 b) (Int32.ofNat A) a3)) (βD (aI hM0 76 b) (Int32.ofNat A)) (sub_ (ib (Int32.ofNat A)) 10 0) (fun _ => true) k v s)).toInt64 (cO (chE b hM0 z D (aI hM0 76 b) (Int32.ofNat A) a3) (aF (σE (chE b hM0 z D (aI hM0 76 b) (Int32.ofNat A) a3)) (βD (aI hM0 76 b) (Int32.ofNat A)) (sub_ (ib (Int32.ofNat A)) 10 0) (fun _ => true) k v s))) hM0 hM' := by
  intro k
  induction k with
  | zero =>
    intro v N s y hs hv hN oy f sm'
    obtain ⟨N, rfl⟩ : ∃ k, N = k + 1 := ⟨N - 1, by omega⟩
    obtain ⟨y4, y5, t1, t2, t3⟩ := two_Y oy (pO (aI hM0 76 b) (Int32.ofNat A) s).toInt64 (cO (chE b hM0 z D (aI hM0 76 b) (Int32.ofNat A) a3) s)
    refine ⟨y5, ?_, ZY_0 t3⟩
    show fb_M_even_L39 (Int32.ofNat b) (Int32.ofNat A) a3 (Int32.ofNat D) (fn_M_even_L39 (Int32.ofNat b) (Int32.ofNat A) a3 (Int32.ofNat D) N) (pO (aI hM0 76 b) (Int32.ofNat A) s) (cO (chE b hM0 z D (aI hM0 76 b) (Int32.ofNat A) a3) s) (Int32.ofNat v) y = _
    unfold fb_M_even_L39
    rw [show v = A + 1 from by omega, gt_t (by omega), cond_true, sb_i, t1, Option.bind_some, t2, Option.bind_some]
    exact ans_0
  | succ k ih =>
    intro v N s y hs hv hN oy f sm'
    obtain ⟨N, rfl⟩ : ∃ k, N = k + 1 := ⟨N - 1, by omega⟩
    have z9 := rp.1.1
    show ∃ hM', fb_M_even_L39 (Int32.ofNat b) (Int32.ofNat A) a3 (Int32.ofNat D) (fn_M_even_L39 (Int32.ofNat b) (Int32.ofNat A) a3 (Int32.ofNat D) N) (pO (aI hM0 76 b) (Int32.ofNat A) s) (cO (chE b hM0 z D (aI hM0 76 b) (Int32.ofNat A) a3) s) (Int32.ofNat v) y = _ ∧ _
    unfold fb_M_even_L39
    rw [gt_f (show v ≤ A by omega) (by omega), cond_false, sub_M (show v < 1024 by omega), inc1]
    show ∃ hM', _ = some (ansF ((bif sub_ (ib (Int32.ofNat A)) 10 0 v then okF b hM0 D (aI hM0 76 b) (Int32.ofNat A) v else 0) + tf (fun v => bif sub_ (ib (Int32.ofNat A)) 10 0 v then okF b hM0 D (aI hM0 76 b) (Int32.ofNat A) v else 0) k (v + 1)) (Int32.ofInt 0), hM') ∧ ZY ((bif sub_ (ib (Int32.ofNat A)) 10 0 v then okF b hM0 D (aI hM0 76 b) (Int32.ofNat A) v else 0) + tf (fun v => bif sub_ (ib (Int32.ofNat A)) 10 0 v then okF b hM0 D (aI hM0 76 b) (Int32.ofNat A) v else 0) k (v + 1)) 2 (rw2 (pO (aI hM0 76 b) (Int32.ofNat A) (aF (σE (chE b hM0 z D (aI hM0 76 b) (Int32.ofNat A) a3)) (βD (aI hM0 76 b) (Int32.ofNat A)) (sub_ (ib (Int32.ofNat A)) 10 0) (fun _ => true) k (v + 1) (bif sub_ (ib (Int32.ofNat A)) 10 0 v then stM (σE (chE b hM0 z D (aI hM0 76 b) (Int32.ofNat A) a3)) (βD (aI hM0 76 b) (Int32.ofNat A)) s v else s))).toInt64 (cO (chE b hM0 z D (aI hM0 76 b) (Int32.ofNat A) a3) (aF (σE (chE b hM0 z D (aI hM0 76 b) (Int32.ofNat A) a3)) (βD (aI hM0 76 b) (Int32.ofNat A)) (sub_ (ib (Int32.ofNat A)) 10 0) (fun _ => true) k (v + 1) (bif sub_ (ib (Int32.ofNat A)) 10 0 v then stM (σE (chE b hM0 z D (aI hM0 76 b) (Int32.ofNat A) a3)) (βD (aI hM0 76 b) (Int32.ofNat A)) s v else s)))) hM0 hM'
    cases hsub : sub_ (ib (Int32.ofNat A)) 10 0 v with
    | false =>
      rw [cond_false, cond_false, cond_false, Nat.zero_add]
      exact ih (v + 1) N s y hs (by omega) (by omega) oy f sm'
    | true =>
      have hs' : sz z (pkS (aI hM0 76 b) (Int32.ofNat A) v) := pk_sz rp.1.1 (z76 oX0 oM0 rp b2 hz hD) hz (by omega) hsub
      obtain ⟨y7, q1, q2, q3, q4, q5⟩ := itM oX0 oM0 gt0 rp b2 hs' hD oy f sm'
      rw [cond_true, cond_true, cond_true, pk_M b2 v, Option.bind_some, (f.2 76 rfl).1, q1, Option.bind_some, cmp_b01n]
      cases hr : rsM b hM0 (D + 1) (pkS (aI hM0 76 b) (Int32.ofNat A) v) with
      | none =>
        have eo : okF b hM0 D (aI hM0 76 b) (Int32.ofNat A) v = 1 := by unfold okF; rw [hr]; rfl
        rw [eo]
        exact ⟨y7, ans_M, ZY_n q3⟩
      | some r =>
        have eo : okF b hM0 D (aI hM0 76 b) (Int32.ofNat A) v = 0 := by unfold okF; rw [hr]; rfl
        rw [eo]
        obtain ⟨u, w, x3, hA'⟩ := q5 r hr
        have hc : (chE b hM0 z D (aI hM0 76 b) (Int32.ofNat A) a3) v = huV z D r a3 := by unfold chE; rw [hr]
        have key : ∀ s, Sz z (aI hM0 76 b) (Int32.ofNat A) s → ∃ hM', fn_M_even_L39 (Int32.ofNat b) (Int32.ofNat A) a3 (Int32.ofNat D) N (pO (aI hM0 76 b) (Int32.ofNat A) s) (cO (chE b hM0 z D (aI hM0 76 b) (Int32.ofNat A) a3) s) (Int32.ofNat (v + 1)) y7 = some (ansF (0 + tf (fun v => bif sub_ (ib (Int32.ofNat A)) 10 0 v then okF b hM0 D (aI hM0 76 b) (Int32.ofNat A) v else 0) k (v + 1)) (Int32.ofInt 0), hM') ∧ ZY (0 + tf (fun v => bif sub_ (ib (Int32.ofNat A)) 10 0 v then okF b hM0 D (aI hM0 76 b) (Int32.ofNat A) v else 0) k (v + 1)) 2 (rw2 (pO (aI hM0 76 b) (Int32.ofNat A) (aF (σE (chE b hM0 z D (aI hM0 76 b) (Int32.ofNat A) a3)) (βD (aI hM0 76 b) (Int32.ofNat A)) (sub_ (ib (Int32.ofNat A)) 10 0) (fun _ => true) k (v + 1) s)).toInt64 (cO (chE b hM0 z D (aI hM0 76 b) (Int32.ofNat A) a3) (aF (σE (chE b hM0 z D (aI hM0 76 b) (Int32.ofNat A) a3)) (βD (aI hM0 76 b) (Int32.ofNat A)) (sub_ (ib (Int32.ofNat A)) 10 0) (fun _ => true) k (v + 1) s))) hM0 hM' := fun s hs => by
          rw [Nat.zero_add]
          exact ih (v + 1) N s y7 hs (by omega) (by omega) q2 q3 q4
        show ∃ hM', (fn_M_unlike a3 y7).bind _ = _ ∧ _
        rw [hu_MV z9 ((fz_gI q3 rfl).trans rp.1.2.2.2.1) hA', Option.bind_some, ← hc]
        show ∃ hM', eMt (px_cmp .ne (lg_cmp ((chE b hM0 z D (aI hM0 76 b) (Int32.ofNat A) a3) v) (cO (chE b hM0 z D (aI hM0 76 b) (Int32.ofNat A) a3) s)) 0) (px_cmp .le (nm_bc (pkS (aI hM0 76 b) (Int32.ofNat A) v)) (nm_bc (pO (aI hM0 76 b) (Int32.ofNat A) s))) (px_cmp .lt (pO (aI hM0 76 b) (Int32.ofNat A) s) 0) (px_cmp .lt (lg_cmp ((chE b hM0 z D (aI hM0 76 b) (Int32.ofNat A) a3) v) (cO (chE b hM0 z D (aI hM0 76 b) (Int32.ofNat A) a3) s)) 0) (fn_M_even_L39 (Int32.ofNat b) (Int32.ofNat A) a3 (Int32.ofNat D) N (pkS (aI hM0 76 b) (Int32.ofNat A) v) ((chE b hM0 z D (aI hM0 76 b) (Int32.ofNat A) a3) v) (Int32.ofNat (v + 1)) y7) (fn_M_even_L39 (Int32.ofNat b) (Int32.ofNat A) a3 (Int32.ofNat D) N (pO (aI hM0 76 b) (Int32.ofNat A) s) (cO (chE b hM0 z D (aI hM0 76 b) (Int32.ofNat A) a3) s) (Int32.ofNat (v + 1)) y7) = _ ∧ ZY _ 2 (rw2 (pO (aI hM0 76 b) (Int32.ofNat A) (aF (σE (chE b hM0 z D (aI hM0 76 b) (Int32.ofNat A) a3)) (βD (aI hM0 76 b) (Int32.ofNat A)) (sub_ (ib (Int32.ofNat A)) 10 0) (fun _ => true) k (v + 1) (stM (σE (chE b hM0 z D (aI hM0 76 b) (Int32.ofNat A) a3)) (βD (aI hM0 76 b) (Int32.ofNat A)) s v))).toInt64 (cO (chE b hM0 z D (aI hM0 76 b) (Int32.ofNat A) a3) (aF (σE (chE b hM0 z D (aI hM0 76 b) (Int32.ofNat A) a3)) (βD (aI hM0 76 b) (Int32.ofNat A)) (sub_ (ib (Int32.ofNat A)) 10 0) (fun _ => true) k (v + 1) (stM (σE (chE b hM0 z D (aI hM0 76 b) (Int32.ofNat A) a3)) (βD (aI hM0 76 b) (Int32.ofNat A)) s v)))) hM0 hM'
        rw [eMt_e]
        rcases eMs (z := z) (q := (aI hM0 76 b)) (a := (Int32.ofNat A)) (ch := (chE b hM0 z D (aI hM0 76 b) (Int32.ofNat A) a3)) (s := s) (x := v) z9 hs with ⟨g1, g2⟩ | ⟨g1, g2⟩
        · rw [g1, cond_true, g2]
          exact key (some v) (Sz_s hs')
        · rw [g1, cond_false, g2]
          exact key s hs
theorem sim_best2 (oX : oS hX) (oM : oS hM) (hR : RLz z dn nx ln hX hM) (gt : GT hX) (hW : RWq l hX hM) (a1 a2 a3 a4 a5 : Int32) : ∃ (v : Int32) (hX' hM' : px_H), fn_X_best a1 a2 a3 a4 a5 hX = some (v, hX') ∧ fn_M_best a1 a2 a3 a4 a5 hM = some (v, hM') ∧ QR l hX' hM' := by
  obtain ⟨hR1, o1, hW1⟩ := RLz_thr' hR oM
  have hW1 := hW1 hW
  unfold fn_X_best fn_M_best
  rw [sb_i]
  generalize wF hM 69 0 (.int (Int32.ofInt 0)) = m1 at hR1 o1 hW1 ⊢
  have hT := hR1.1
  have z9 := hT.1
  have d6 := hT.2.1
  rw [gd_canPack hT.2.2.1 z9, gd_isPacking hT.2.2.2.1 z9 hT.2.2.2.2.2.1 d6, gd_hasPerson hT.2.2.1 z9, gd_isPerson hT.2.2.2.1 z9, gd_drw hT.2.2.2.2.1 d6, Option.bind_some, Option.bind_some, Option.bind_some, Option.bind_some, cmp_b01, cmp_b01, cmp_b01, Option.bind_some, cmp_b01n, (gd_bit a5).2]
  have g := (gd_bit a5).1
  cases hc : cP a1 a2 z with
  | false => exact ⟨_, hX, m1, rfl, rfl, gt, hW1⟩
  | true =>
    cases hd : inN a4 dn with
    | false =>
      rw [Bool.not_true, cond_false, Bool.and_false, Bool.not_false, cond_true]
      cases inN a3 z with
      | false => exact ⟨_, hX, m1, rfl, rfl, gt, hW1⟩
      | true => exact ⟨_, hX, m1, rfl, rfl, gt, hW1⟩
    | true =>
      rw [Bool.not_true, cond_false, Bool.and_true, Bool.not_true, cond_false]
      cases hp : inN a3 z with
      | false => exact ⟨_, hX, m1, rfl, rfl, gt, hW1⟩
      | true =>
        rw [cond_true, cmp_b01, Bool.not_true, cond_false]
        cases h1 : px_cmp .lt a5 0 with
        | true =>
          rw [h1, cond_true] at g
          rw [← g, cond_true, cond_false]
          exact ⟨_, hX, m1, rfl, rfl, gt, hW1⟩
        | false =>
          rw [h1, cond_false] at g
          rw [g, cond_false]
          cases h5 : inN a5 2 with
          | false => exact ⟨_, hX, m1, rfl, rfl, gt, hW1⟩
          | true =>
            rw [cond_true, cond_true]
            obtain ⟨b, A, b2, hA, rfl, rfl, hz, n6⟩ := cP_t z9 hc
            obtain ⟨D, hD, rfl⟩ := inN_t hd
            obtain ⟨p, hp', rfl⟩ := inN_t hp
            have rp := rp_of oX hR1
            have h64 : 2 ^ nbM (ib (Int32.ofNat A)) 10 0 ≤ 64 := Nat.pow_le_pow_right (n := 2) (by decide) n6
            obtain ⟨x9, e1, e2, e4⟩ := bestX2 (p := p) (a5 := a5) oX o1 rp b2 hz hD _ fu none hX Sz_0 h64 (fu_lt (by omega)) oX fz_rf gt
            obtain ⟨y9, e3, e5⟩ := bestM2 (p := p) (a5 := a5) oX o1 rp b2 hz hD gt hA (A + 1) 0 fu none m1 Sz_0 (by omega) (fu_lt (by omega)) o1 fz_rf SM_rf
            rw [two_su hA (okF b m1 D (aI m1 76 b) (Int32.ofNat A))] at e1 e4
            rw [two_st hA] at e4
            refine ⟨_, x9, y9, ?_, e3, e2, Z_q (by omega) hW1 e4 e5⟩
            rw [fw_ok (sz_sm z9 hz), Option.bind_some]
            exact e1
theorem sim_even2 (oX : oS hX) (oM : oS hM) (hR : RLz z dn nx ln hX hM) (gt : GT hX) (hW : RWq l hX hM) (a1 a2 a3 a4 : Int32) : ∃ (v : Int32) (hX' hM' : px_H), fn_X_even a1 a2 a3 a4 hX = some (v, hX') ∧ fn_M_even a1 a2 a3 a4 hM = some (v, hM') ∧ QR l hX' hM' := by
  obtain ⟨hR1, o1, hW1⟩ := RLz_thr' hR oM
  have hW1 := hW1 hW
  unfold fn_X_even fn_M_even
  rw [sb_i]
  generalize wF hM 69 0 (.int (Int32.ofInt 0)) = m1 at hR1 o1 hW1 ⊢
  have hT := hR1.1
  have z9 := hT.1
  have d6 := hT.2.1
  rw [gd_canPack hT.2.2.1 z9, gd_isPacking hT.2.2.2.1 z9 hT.2.2.2.2.2.1 d6, gd_drw hT.2.2.2.2.1 d6, gd_hasAll hT.2.2.1 z9, gd_isSet hT.2.2.2.1 z9, Option.bind_some, Option.bind_some, Option.bind_some, Option.bind_some, Option.bind_some, cmp_b01, cmp_b01, cmp_b01, cmp_b01n, cmp_ne a3 0, ← cmp_eq a3 0]
  cases hc : cP a1 a2 z with
  | false => exact ⟨_, hX, m1, rfl, rfl, gt, hW1⟩
  | true =>
    cases hs : inS a3 z with
    | false => cases inN a4 dn <;> exact ⟨_, hX, m1, rfl, rfl, gt, hW1⟩
    | true =>
      cases h0 : px_cmp .eq a3 0 with
      | true => cases inN a4 dn <;> exact ⟨_, hX, m1, rfl, rfl, gt, hW1⟩
      | false =>
        cases hd : inN a4 dn with
        | false => exact ⟨_, hX, m1, rfl, rfl, gt, hW1⟩
        | true =>
          obtain ⟨b, A, b2, hA, rfl, rfl, hz, n6⟩ := cP_t z9 hc
          obtain ⟨D, hD, rfl⟩ := inN_t hd
          have rp := rp_of oX hR1
          have h3 : sz z a3 := inS_sz hs
          have n3 := bit_of h3 z9 h0
          have h64 : 2 ^ nbM (ib (Int32.ofNat A)) 10 0 ≤ 64 := Nat.pow_le_pow_right (n := 2) (by decide) n6
          obtain ⟨x9, e1, e2, e4⟩ := evenX2 (a3 := a3) oX o1 rp b2 hz hD h3 n3 _ fu none hX Sz_0 h64 (fu_lt (by omega)) oX fz_rf gt
          obtain ⟨y9, e3, e5⟩ := evenM2 (a3 := a3) oX o1 rp b2 hz hD gt hA h3 n3 (A + 1) 0 fu none m1 Sz_0 (by omega) (fu_lt (by omega)) o1 fz_rf SM_rf
          rw [two_su hA (okF b m1 D (aI m1 76 b) (Int32.ofNat A))] at e1 e4
          rw [two_st hA] at e4
          refine ⟨_, x9, y9, ?_, e3, e2, Z_q (by omega) hW1 e4 e5⟩
          rw [Bool.not_true, cond_false, cond_false, cond_false, cond_true, fw_ok (sz_sm z9 hz), Option.bind_some]
          exact e1
end tb_BB
end mg_2

section mg_3
/-! never, with what it tells -/
section tb_BD
variable {h hX hM hX' hM' hX0 hM0 : px_H} {z dn nx ln D b p A l L : Nat} {q s a : Int32} {ch : Nat → Int64} {u : Int64} {w : Int32} {y : TB × Int64 × Int64} {ls : Nat → Int32}
def σ0 (_ : Nat) : Int := 0
/-- one number told, or none -/
def RXo (q a : Int32) (st : Option Nat) (hX' : px_H) : Prop := match st with
  | none => RX 0 (fun _ => 0) hX'
  | some v => RX 1 (rw1 (pkS q a v).toInt64) hX'
def RYo (q a : Int32) (st : Option Nat) (hM' : px_H) : Prop := match st with
  | none => RY 0 (fun _ => 0) hM'
  | some v => RY 1 (rw1 (pkS q a v).toInt64) hM'
theorem RXo_Y {st : Option Nat} (x : RXo q a st hX') (y : RYo q a st hM') : RWq l hX' hM' := by
  cases st with
  | none => exact RX_Y (by omega) x y
  | some v => exact RX_Y (by omega) x y
theorem P0 {x j : Nat} : Pf σ0 (βD q a) j x = decide ((nm_bc (pkS q a x)).toInt < (nm_bc (pkS q a j)).toInt) := by
  show (decide ((0 : Int) < 0) || (decide ((0 : Int) = 0) && decide (-(nm_bc (pkS q a j)).toInt < -(nm_bc (pkS q a x)).toInt))) = _
  rw [decide_eq_false (show ¬ (0 : Int) < 0 by omega), decide_eq_true (show (0 : Int) = 0 from rfl), Bool.false_or, Bool.true_and]
  simp only [decide_eq_decide]
  omega
theorem nXs {s : Option Nat} {x : Nat} (z9 : z ≤ 10) (hs : Sz z q a s) : (px_cmp .lt (pO q a s) 0 || !px_cmp .lt (nm_bc (pkS q a x)) (nm_bc (pO q a s))) = true ∧ stC σ0 (βD q a) s x = some x ∨ (px_cmp .lt (pO q a s) 0 || !px_cmp .lt (nm_bc (pkS q a x)) (nm_bc (pO q a s))) = false ∧ stC σ0 (βD q a) s x = s := by
  cases s with
  | none => exact Or.inl ⟨rfl, rfl⟩
  | some j =>
    have e : (px_cmp .lt (pO q a (some j)) 0 || !px_cmp .lt (nm_bc (pkS q a x)) (nm_bc (pO q a (some j)))) = !Pf σ0 (βD q a) j x := by
      rw [show px_cmp .lt (pO q a (some j)) 0 = false from pO_lt z9 (hs j rfl), Bool.false_or]
      show (!px_cmp .lt (nm_bc (pkS q a x)) (nm_bc (pkS q a j))) = !Pf σ0 (βD q a) j x
      rw [cmp_lt, P0]
    rw [e]
    show _ ∧ (bif Pf σ0 (βD q a) j x then some j else some x) = _ ∨ _ ∧ (bif Pf σ0 (βD q a) j x then some j else some x) = _
    cases Pf σ0 (βD q a) j x with
    | true => exact Or.inr ⟨rfl, rfl⟩
    | false => exact Or.inl ⟨rfl, rfl⟩
theorem nMs {s : Option Nat} {x : Nat} (z9 : z ≤ 10) (hs : Sz z q a s) : (px_cmp .lt (pO q a s) 0 || !px_cmp .le (nm_bc (pkS q a x)) (nm_bc (pO q a s))) = true ∧ stM σ0 (βD q a) s x = some x ∨ (px_cmp .lt (pO q a s) 0 || !px_cmp .le (nm_bc (pkS q a x)) (nm_bc (pO q a s))) = false ∧ stM σ0 (βD q a) s x = s := by
  cases s with
  | none => exact Or.inl ⟨rfl, rfl⟩
  | some j =>
    have e : (px_cmp .lt (pO q a (some j)) 0 || !px_cmp .le (nm_bc (pkS q a x)) (nm_bc (pO q a (some j)))) = Pf σ0 (βD q a) x j := by
      rw [show px_cmp .lt (pO q a (some j)) 0 = false from pO_lt z9 (hs j rfl), Bool.false_or]
      show (!px_cmp .le (nm_bc (pkS q a x)) (nm_bc (pkS q a j))) = Pf σ0 (βD q a) x j
      rw [cmp_le, P0, Bool.eq_iff_iff]
      simp only [Bool.not_eq_true', decide_eq_false_iff_not, decide_eq_true_eq]
      omega
    rw [e]
    show _ ∧ (bif Pf σ0 (βD q a) x j then some x else some j) = _ ∨ _ ∧ (bif Pf σ0 (βD q a) x j then some x else some j) = _
    cases Pf σ0 (βD q a) x j with
    | true => exact Or.inl ⟨rfl, rfl⟩
    | false => exact Or.inr ⟨rfl, rfl⟩
theorem nv_M2 {a1 a2 a3 kin : Int32} {kc : Int32 → Int32 → Int32 → px_H → Option (Int32 × px_H)} (z9 : z ≤ 10) (d6 : D < 6) (zM : gI hM 69 3 = Int32.ofNat z) (hs : aI hM 80 D = s) (hk : kin = bg (fun p => !px_cmp .ne (aI hM 71 p) a3) z) (hA : AQ z D u w y hX hM) (v5 v6 v7 v8 : Int32) : ∀ (m i N : Nat) (t : Bool), i + m = y.1.1 → m < N → fn_M_never_L88 a1 a2 a3 (Int32.ofNat D) kc N v5 v6 v7 v8 (b01 t) (Int32.ofNat i) hM = bif !px_cmp .ne (sMay z D y &&& kin) 0 && sAy (fun i => !px_cmp .ne (nm_bc (sB z D (y.1.2.1 i))) s) m i t then kc (bif px_cmp .lt v5 0 || !px_cmp .le (nm_bc v8) (nm_bc v5) then v8 else v5) (v6 + Int32.ofInt 1) (v7 + Int32.ofInt 1) hM else kc v5 v6 (v7 + Int32.ofInt 1) hM := by
  intro m
  induction m with
  | zero =>
    intro i N t hi hN
    obtain ⟨N, rfl⟩ : ∃ k, N = k + 1 := ⟨N - 1, by omega⟩
    show fb_M_never_L88 a1 a2 a3 (Int32.ofNat D) kc (fn_M_never_L88 a1 a2 a3 (Int32.ofNat D) kc N) v5 v6 v7 v8 (b01 t) (Int32.ofNat i) hM = bif !px_cmp .ne (sMay z D y &&& kin) 0 && t then kc (bif px_cmp .lt v5 0 || !px_cmp .le (nm_bc v8) (nm_bc v5) then v8 else v5) (v6 + Int32.ofInt 1) (v7 + Int32.ofInt 1) hM else kc v5 v6 (v7 + Int32.ofInt 1) hM
    unfold fb_M_never_L88
    rw [show (Int32.ofInt 2).toNatClampNeg = 2 from rfl, hA.1.2.1.1, show i = y.1.1 from by omega, ge_t, cond_true, cmp_b01]
    cases t with
    | false =>
      rw [Bool.and_false]
      rfl
    | true =>
      rw [Bool.not_true, cond_false, aq_mayM hA, Option.bind_some, vl_housed zM z9 a3, Option.bind_some, ← hk, Bool.and_true]
      cases px_cmp .ne (sMay z D y &&& kin) 0 with
      | true => rfl
      | false =>
        rw [cond_false, Bool.not_false, cond_true]
        cases px_cmp .lt v5 0 <;> cases px_cmp .le (nm_bc v8) (nm_bc v5) <;> rfl
  | succ m ih =>
    intro i N t hi hN
    obtain ⟨N, rfl⟩ : ∃ k, N = k + 1 := ⟨N - 1, by omega⟩
    have n3 := hA.1.2.1.2.1
    have hiE : i < y.1.1 := by omega
    show fb_M_never_L88 a1 a2 a3 (Int32.ofNat D) kc (fn_M_never_L88 a1 a2 a3 (Int32.ofNat D) kc N) v5 v6 v7 v8 (b01 t) (Int32.ofNat i) hM = bif !px_cmp .ne (sMay z D y &&& kin) 0 && sAy (fun i => !px_cmp .ne (nm_bc (sB z D (y.1.2.1 i))) s) m (i + 1) (t || !px_cmp .ne (nm_bc (sB z D (y.1.2.1 i))) s) then kc (bif px_cmp .lt v5 0 || !px_cmp .le (nm_bc v8) (nm_bc v5) then v8 else v5) (v6 + Int32.ofInt 1) (v7 + Int32.ofInt 1) hM else kc v5 v6 (v7 + Int32.ofInt 1) hM
    unfold fb_M_never_L88
    rw [show (Int32.ofInt 2).toNatClampNeg = 2 from rfl, hA.1.2.1.1, ge_f hiE (by omega), cond_false, cmp_b01n, inc1 i]
    cases t with
    | true =>
      rw [cond_true, Bool.true_or]
      exact ih (i + 1) N true (by omega) (by omega)
    | false =>
      rw [cond_false, Bool.false_or, nm_inR i 3001 (by omega) (by omega), cond_true, nm_inR D 6 d6 (by omega), cond_true, nm_ofNat_clamp i (by omega), nm_ofNat_clamp D (by omega), hA.2 i hiE, hs]
      cases px_cmp .ne (nm_bc (sB z D (y.1.2.1 i))) s with
      | true => exact ih (i + 1) N false (by omega) (by omega)
      | false => exact ih (i + 1) N true (by omega) (by omega)
noncomputable def htB (z b : Nat) (hM0 : px_H) (D : Nat) (q a kin s : Int32) (x : Nat) : Bool := match rsM b hM0 (D + 1) (pkS q a x) with
  | none => false
  | some y => hit z D y kin s
theorem neverX2 (oX0 : oS hX0) (oM0 : oS hM0) (rp : RPt z dn ln hX0 hM0) (b2 : b < 2) (hz : sz z (Int32.ofNat A)) (hD : D < dn) {kin : Int32} : ∀ (k N c : Nat) (st : Option Nat) (x : px_H), Sz z (aI hM0 76 b) (Int32.ofNat A) st → (st = none ↔ c = 0) → c + k < 1000 → k ≤ 64 → k < N → oS x → fz WSU VBY hX0 x → GT x → ∃ hX', fn_X_never_L67 (Int32.ofNat b) (Int32.ofNat A) (Int32.ofNat D) kin s N (Int32.ofNat c) (pO (aI hM0 76 b) (Int32.ofNat A) st) (wy k) x = some (ansF (suN (fun w => okF b hM0 D (aI hM0 76 b) (Int32.ofNat A) (sp (ib (Int32.ofNat A)) 10 0 w)) k) (Int32.ofNat (c + suN (fun w => htF z b hM0 D (aI hM0 76 b) (Int32.ofNat A) kin s (sp (ib (Int32.ofNat A)) 10 0 w)) k)), hX') ∧ (GT hX' ∧ ((suN (fun w => okF b hM0 D (aI hM0 76 b) (Int32.ofNat A) (sp (ib (Int32.ofNat A)) 10 0 w)) k = 0 → RXo (aI hM0 76 b) (Int32.ofNat A) (dF σ0 (βD (aI hM0 76 b) (Int32.ofNat A)) (htB z b hM0 D (aI hM0 76 b) (Int32.ofNat A) kin s) (sp (ib (Int32.ofNat A)) 10 0) k st) hX') ∧ (suN (fun w => okF b hM0 D (aI hM0 76 b) (Int32.ofNat A) (sp (ib (Int32.ofNat A)) 10 0 w)) k ≠ 0 → fz WSU VBY hX0 hX'))) := by
  intro k
  induction k with
  | zero =>
    intro N c st x hs hc hc9 _ hN ox f gt
    obtain ⟨N, rfl⟩ : ∃ k, N = k + 1 := ⟨N - 1, by omega⟩
    obtain ⟨x4, r1, r2, r3, r4⟩ := cX ox
    show ∃ hX', fb_X_never_L67 (Int32.ofNat b) (Int32.ofNat A) (Int32.ofNat D) kin s (fn_X_never_L67 (Int32.ofNat b) (Int32.ofNat A) (Int32.ofNat D) kin s N) (Int32.ofNat c) (pO (aI hM0 76 b) (Int32.ofNat A) st) (Int32.ofInt (-1)) x = some (ansF 0 (Int32.ofNat (c + 0)), hX') ∧ (GT hX' ∧ ((0 = 0 → RXo (aI hM0 76 b) (Int32.ofNat A) st hX') ∧ (0 ≠ 0 → fz WSU VBY hX0 hX')))
    unfold fb_X_never_L67
    rw [show px_cmp .lt (Int32.ofInt (-1)) 0 = true from by decide, cond_true, r1, Option.bind_some, cmp_le, nm_ofNat_toInt c (by omega), show (0 : Int32).toInt = 0 from by decide, Nat.add_zero]
    cases st with
    | none =>
      rw [decide_eq_true (show (c : Int) ≤ 0 by have := hc.mp rfl; omega), cond_true]
      exact ⟨x4, ans_0, GT_w48 r3 gt, fun _ => r4, fun h => absurd rfl h⟩
    | some v =>
      obtain ⟨x5, t1, t2, t3, t4⟩ := tX r2 r4 (by omega) (pkS (aI hM0 76 b) (Int32.ofNat A) v).toInt64
      rw [decide_eq_false (show ¬ (c : Int) ≤ 0 by
        have : c ≠ 0 := fun h => by cases hc.mpr h
        omega), cond_false]
      refine ⟨x5, ?_, GT_w48 (fz_tr r3 t3) gt, fun _ => t4, fun h => absurd rfl h⟩
      show (fn_Row_tell (pkS (aI hM0 76 b) (Int32.ofNat A) v).toInt64 x4).bind _ = _
      rw [t1]
      exact ans_0
  | succ k ih =>
    intro N c st x hs hc hc9 hk hN ox f gt
    obtain ⟨N, rfl⟩ : ∃ k, N = k + 1 := ⟨N - 1, by omega⟩
    have z9 := rp.1.1
    have hs' : sz z (pkS (aI hM0 76 b) (Int32.ofNat A) (sp (ib (Int32.ofNat A)) 10 0 k)) := spk_sz (z76 oX0 oM0 rp b2 hz hD) hz
    obtain ⟨x3, q1, q2, q3, q4, q5⟩ := itX oX0 oM0 rp b2 hs' hD ox f gt
    show ∃ hX', fb_X_never_L67 (Int32.ofNat b) (Int32.ofNat A) (Int32.ofNat D) kin s (fn_X_never_L67 (Int32.ofNat b) (Int32.ofNat A) (Int32.ofNat D) kin s N) (Int32.ofNat c) (pO (aI hM0 76 b) (Int32.ofNat A) st) (Int32.ofNat k) x = _ ∧ _
    unfold fb_X_never_L67
    rw [(wy_s (show k ≤ 1024 by omega)).2.2, cond_false, pk_X b2 (show k < 64 by omega), Option.bind_some, e76 oX0 oM0 rp b2 hz hD f, q1, Option.bind_some, (wy_s (show k ≤ 1024 by omega)).1, cmp_b01n]
    show ∃ hX', _ = some (ansF (suN (fun w => okF b hM0 D (aI hM0 76 b) (Int32.ofNat A) (sp (ib (Int32.ofNat A)) 10 0 w)) k + okF b hM0 D (aI hM0 76 b) (Int32.ofNat A) (sp (ib (Int32.ofNat A)) 10 0 k)) (Int32.ofNat (c + (suN (fun w => htF z b hM0 D (aI hM0 76 b) (Int32.ofNat A) kin s (sp (ib (Int32.ofNat A)) 10 0 w)) k + htF z b hM0 D (aI hM0 76 b) (Int32.ofNat A) kin s (sp (ib (Int32.ofNat A)) 10 0 k)))), hX') ∧ (GT hX' ∧ ((suN (fun w => okF b hM0 D (aI hM0 76 b) (Int32.ofNat A) (sp (ib (Int32.ofNat A)) 10 0 w)) k + okF b hM0 D (aI hM0 76 b) (Int32.ofNat A) (sp (ib (Int32.ofNat A)) 10 0 k) = 0 → RXo (aI hM0 76 b) (Int32.ofNat A) (dF σ0 (βD (aI hM0 76 b) (Int32.ofNat A)) (htB z b hM0 D (aI hM0 76 b) (Int32.ofNat A) kin s) (sp (ib (Int32.ofNat A)) 10 0) k (bif htB z b hM0 D (aI hM0 76 b) (Int32.ofNat A) kin s (sp (ib (Int32.ofNat A)) 10 0 k) then stC σ0 (βD (aI hM0 76 b) (Int32.ofNat A)) st (sp (ib (Int32.ofNat A)) 10 0 k) else st)) hX') ∧ (suN (fun w => okF b hM0 D (aI hM0 76 b) (Int32.ofNat A) (sp (ib (Int32.ofNat A)) 10 0 w)) k + okF b hM0 D (aI hM0 76 b) (Int32.ofNat A) (sp (ib (Int32.ofNat A)) 10 0 k) ≠ 0 → fz WSU VBY hX0 hX')))
    cases hr : rsM b hM0 (D + 1) (pkS (aI hM0 76 b) (Int32.ofNat A) (sp (ib (Int32.ofNat A)) 10 0 k)) with
    | none =>
      have eo : okF b hM0 D (aI hM0 76 b) (Int32.ofNat A) (sp (ib (Int32.ofNat A)) 10 0 k) = 1 := by unfold okF; rw [hr]; rfl
      rw [eo]
      exact ⟨x3, ans_X, q4, fun h => by omega, fun _ => q3⟩
    | some y =>
      have eo : okF b hM0 D (aI hM0 76 b) (Int32.ofNat A) (sp (ib (Int32.ofNat A)) 10 0 k) = 0 := by unfold okF; rw [hr]; rfl
      have eh : htF z b hM0 D (aI hM0 76 b) (Int32.ofNat A) kin s (sp (ib (Int32.ofNat A)) 10 0 k) = bif hit z D y kin s then 1 else 0 := by unfold htF; rw [hr]
      have eb : htB z b hM0 D (aI hM0 76 b) (Int32.ofNat A) kin s (sp (ib (Int32.ofNat A)) 10 0 k) = hit z D y kin s := by unfold htB; rw [hr]
      rw [eo, eh, eb]
      obtain ⟨u, w, y7, hA'⟩ := q5 y hr
      have key : ∀ c st, Sz z (aI hM0 76 b) (Int32.ofNat A) st → (st = none ↔ c = 0) → c + k < 1000 → ∃ hX', fn_X_never_L67 (Int32.ofNat b) (Int32.ofNat A) (Int32.ofNat D) kin s N (Int32.ofNat c) (pO (aI hM0 76 b) (Int32.ofNat A) st) (wy k) x3 = some (ansF (suN (fun w => okF b hM0 D (aI hM0 76 b) (Int32.ofNat A) (sp (ib (Int32.ofNat A)) 10 0 w)) k + 0) (Int32.ofNat (c + suN (fun w => htF z b hM0 D (aI hM0 76 b) (Int32.ofNat A) kin s (sp (ib (Int32.ofNat A)) 10 0 w)) k)), hX') ∧ (GT hX' ∧ ((suN (fun w => okF b hM0 D (aI hM0 76 b) (Int32.ofNat A) (sp (ib (Int32.ofNat A)) 10 0 w)) k + 0 = 0 → RXo (aI hM0 76 b) (Int32.ofNat A) (dF σ0 (βD (aI hM0 76 b) (Int32.ofNat A)) (htB z b hM0 D (aI hM0 76 b) (Int32.ofNat A) kin s) (sp (ib (Int32.ofNat A)) 10 0) k st) hX') ∧ (suN (fun w => okF b hM0 D (aI hM0 76 b) (Int32.ofNat A) (sp (ib (Int32.ofNat A)) 10 0 w)) k + 0 ≠ 0 → fz WSU VBY hX0 hX'))) := fun c st hs hc hc9 => ih N c st x3 hs hc hc9 (by omega) (by omega) q2 q3 q4
      show ∃ hX', (fn_Walk_whoMaySit x3).bind _ = _ ∧ _
      rw [aq_mayX z9 q2 hA', Option.bind_some, mf_X z9 q2 hA', inc1]
      unfold hit
      cases px_cmp .ne (sMay z D y &&& kin) 0 with
      | true => exact key c st hs hc (by omega)
      | false =>
        rw [cond_false, Option.bind_some, cmp_b01, Bool.not_false, Bool.true_and]
        cases sFl z D y s with
        | false => exact key c st hs hc (by omega)
        | true =>
          rw [Bool.not_true, cond_false, cond_true]
          have key1 : ∀ st, Sz z (aI hM0 76 b) (Int32.ofNat A) st → st ≠ none → _ := fun st h1 h2 => key (c + 1) st h1 ⟨fun h => absurd h h2, fun h => by omega⟩ (by omega)
          rw [show ∀ t, c + 1 + t = c + (t + 1) from fun t => by omega] at key1
          rw [cond_true]
          have hn : ∀ st', stC σ0 (βD (aI hM0 76 b) (Int32.ofNat A)) st (sp (ib (Int32.ofNat A)) 10 0 k) = st' → st' ≠ none := fun st' e => by
            rw [← e]
            cases st with
            | none => exact fun h => by cases h
            | some j =>
              show (bif Pf _ _ j _ then some j else some _) ≠ none
              cases Pf σ0 (βD (aI hM0 76 b) (Int32.ofNat A)) j (sp (ib (Int32.ofNat A)) 10 0 k) <;> exact fun h => by cases h
          have et : ∀ (F : Int32 → Option (Int32 × px_H)) (c5 c4 : Bool) (n o : Int32), (bif c5 then F n else bif c4 then F o else F n) = bif (c5 || !c4) then F n else F o := fun F c5 c4 n o => by cases c5 <;> cases c4 <;> rfl
          have e9 := et (fun v => fn_X_never_L67 (Int32.ofNat b) (Int32.ofNat A) (Int32.ofNat D) kin s N (Int32.ofNat (c + 1)) v (wy k) x3) (px_cmp .lt (pO (aI hM0 76 b) (Int32.ofNat A) st) 0) (px_cmp .lt (nm_bc (pkS (aI hM0 76 b) (Int32.ofNat A) (sp (ib (Int32.ofNat A)) 10 0 k))) (nm_bc (pO (aI hM0 76 b) (Int32.ofNat A) st))) (pkS (aI hM0 76 b) (Int32.ofNat A) (sp (ib (Int32.ofNat A)) 10 0 k)) (pO (aI hM0 76 b) (Int32.ofNat A) st)
          show ∃ hX', (bif px_cmp .lt (pO (aI hM0 76 b) (Int32.ofNat A) st) 0 then (fun v => fn_X_never_L67 (Int32.ofNat b) (Int32.ofNat A) (Int32.ofNat D) kin s N (Int32.ofNat (c + 1)) v (wy k) x3) (pkS (aI hM0 76 b) (Int32.ofNat A) (sp (ib (Int32.ofNat A)) 10 0 k)) else bif px_cmp .lt (nm_bc (pkS (aI hM0 76 b) (Int32.ofNat A) (sp (ib (Int32.ofNat A)) 10 0 k))) (nm_bc (pO (aI hM0 76 b) (Int32.ofNat A) st)) then (fun v => fn_X_never_L67 (Int32.ofNat b) (Int32.ofNat A) (Int32.ofNat D) kin s N (Int32.ofNat (c + 1)) v (wy k) x3) (pO (aI hM0 76 b) (Int32.ofNat A) st) else (fun v => fn_X_never_L67 (Int32.ofNat b) (Int32.ofNat A) (Int32.ofNat D) kin s N (Int32.ofNat (c + 1)) v (wy k) x3) (pkS (aI hM0 76 b) (Int32.ofNat A) (sp (ib (Int32.ofNat A)) 10 0 k))) = _ ∧ _
          rw [e9]
          rcases nXs (z := z) (q := aI hM0 76 b) (a := Int32.ofNat A) (s := st) (x := sp (ib (Int32.ofNat A)) 10 0 k) z9 hs with ⟨g1, g2⟩ | ⟨g1, g2⟩
          · rw [g1, cond_true, g2]
            exact key1 (some (sp (ib (Int32.ofNat A)) 10 0 k)) (Sz_s hs') (hn _ g2)
          · rw [g1, cond_false, g2]
            exact key1 st hs (hn _ g2)
end tb_BD
end mg_3
