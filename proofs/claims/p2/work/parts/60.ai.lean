/-! AN ABSTRACT INTERPRETER of the pure machine: bounds, cells, where a value lies. -/
/-- kind (0 int, 1 long, 2 reference, 3 script), least, greatest, cells -/
abbrev ab_F : Type := Nat × Int × Int × List Nat
/-- a place: (0, local, _), (1, cell, field), (2, of the script, _) -/
abbrev ab_L : Type := Nat × Nat × Nat
abbrev ab_V : Type := ab_F × Option ab_L
abbrev ab_C : Type := (Nat × List ab_F) ⊕ (Nat × Nat × ab_F)
/-- locals, stack, heap, script -/
abbrev ab_S : Type := List (Nat × ab_V) × List ab_V × List ab_C × List (Int × Int)
def ab_f (f : ab_F) (v : Value) : Prop :=
  match v with
  | .int x => f.1 = 0 ∧ f.2.1 ≤ x.toInt ∧ x.toInt ≤ f.2.2.1
  | .long x => f.1 = 1 ∧ f.2.1 ≤ x.toInt ∧ x.toInt ≤ f.2.2.1
  | .ref k => f.1 = 2 ∧ k ∈ f.2.2.2
  | .retAddr _ => f.1 = 3
  | _ => False
def ab_num : Value → Option Int
  | .int x => some x.toInt
  | .long x => some x.toInt
  | _ => none
def ab_at (xs : Nat → Int32) (lv : List (Nat × Value)) (hp : px_H) (l : ab_L) : Option Value :=
  match l with
  | (0, j, _) => px_find j lv
  | (1, c, k) => match hp[c]? with
    | some (.inr (_, fs)) => fs[k]?
    | _ => none
  | (2, j, _) => some (.int (xs j))
  | _ => none
def ab_o (xs : Nat → Int32) (lv : List (Nat × Value)) (hp : px_H) (o : Option ab_L) (v : Value) : Prop :=
  ∀ l, o = some l → ∃ w, ab_at xs lv hp l = some w ∧ ab_num w = ab_num v
def ab_v (xs : Nat → Int32) (lv : List (Nat × Value)) (hp : px_H) (a : ab_V) (v : Value) : Prop := ab_f a.1 v ∧ ab_o xs lv hp a.2 v
def ab_c (a : ab_C) (x : px_E) : Prop :=
  match a, x with
  | .inr (t, n, f), .inl (t', n', cont) => t = t' ∧ n = n' ∧ ∀ j, j < n → match cont with
    | .inl g => ab_f f (.int (g j))
    | .inr (.inl g) => ab_f f (.long (g j))
    | .inr (.inr (.inr (.inr g))) => ∃ q, g j = some q ∧ ab_f f (.ref q)
    | _ => False
  | .inl (ci, fs), .inr (ci', vs) => ci = ci' ∧ fs.length = vs.length ∧ ∀ (k : Nat) (f : ab_F) (v : Value), fs[k]? = some f → vs[k]? = some v → ab_f f v
  | _, _ => False
def ab_h (ah : List ab_C) (hp : px_H) : Prop := ah.length = hp.length ∧ ∀ (k : Nat) (a : ab_C) (x : px_E), ah[k]? = some a → hp[k]? = some x → ab_c a x
def ab_st (xs : Nat → Int32) (lv : List (Nat × Value)) (hp : px_H) : List ab_V → List Value → Prop
  | [], [] => True
  | a :: r, v :: s => ab_v xs lv hp a v ∧ ab_st xs lv hp r s
  | _, _ => False
def ab_lv (xs : Nat → Int32) (hp : px_H) (al : List (Nat × ab_V)) (lv : List (Nat × Value)) : Prop := ∀ (j : Nat) (a : ab_V), (j, a) ∈ al → ∃ v, px_find j lv = some v ∧ ab_v xs lv hp a v
def ab_x (sc : List (Int × Int)) (xs : Nat → Int32) : Prop := ∀ (j : Nat) (q : Int × Int), sc[j]? = some q → q.1 ≤ (xs j).toInt ∧ (xs j).toInt ≤ q.2
/-- the abstract state holds -/
def ab_s (xs : Nat → Int32) (A : ab_S) (lv : List (Nat × Value)) (st : List Value) (hp : px_H) : Prop := ab_lv xs hp A.1 lv ∧ ab_st xs lv hp A.2.1 st ∧ ab_h A.2.2.1 hp ∧ ab_x A.2.2.2 xs
/-! bounds -/
abbrev ab_B : Type := Int × Int
def ab_topi : ab_B := (-2147483648, 2147483647)
def ab_topl : ab_B := (-9223372036854775808, 9223372036854775807)
def ab_in (q : ab_B) (x : Int) : Prop := q.1 ≤ x ∧ x ≤ q.2
/-- an int's operation: exact where both are known, else by its rule -/
def ab_bi (f : Int32 → Int32 → Int32) (rule : ab_B → ab_B → ab_B) (a b : ab_B) : ab_B :=
  if a.1 = a.2 ∧ b.1 = b.2 then ((f (Int32.ofInt a.1) (Int32.ofInt b.1)).toInt, (f (Int32.ofInt a.1) (Int32.ofInt b.1)).toInt) else rule a b
def ab_bl (f : Int64 → Int64 → Int64) (rule : ab_B → ab_B → ab_B) (a b : ab_B) : ab_B :=
  if a.1 = a.2 ∧ b.1 = b.2 then ((f (Int64.ofInt a.1) (Int64.ofInt b.1)).toInt, (f (Int64.ofInt a.1) (Int64.ofInt b.1)).toInt) else rule a b
def ab_bs (f : Int64 → Int32 → Int64) (rule : ab_B → ab_B → ab_B) (a b : ab_B) : ab_B :=
  if a.1 = a.2 ∧ b.1 = b.2 then ((f (Int64.ofInt a.1) (Int32.ofInt b.1)).toInt, (f (Int64.ofInt a.1) (Int32.ofInt b.1)).toInt) else rule a b
def ab_fit (top q : ab_B) : ab_B := if top.1 ≤ q.1 ∧ q.2 ≤ top.2 then q else top
def ab_radd (top : ab_B) (a b : ab_B) : ab_B := ab_fit top (a.1 + b.1, a.2 + b.2)
def ab_rsub (top : ab_B) (a b : ab_B) : ab_B := ab_fit top (a.1 - b.2, a.2 - b.1)
def ab_rtop (top : ab_B) (_ _ : ab_B) : ab_B := top
/-- 'and': at most the one that isn't negative -/
def ab_rand (top : ab_B) (a b : ab_B) : ab_B := if 0 ≤ a.1 ∧ (b.1 < 0 ∨ a.2 ≤ b.2) then (0, a.2) else if 0 ≤ b.1 then (0, b.2) else top
/-- to the right: at most what it was -/
def ab_rshr (top : ab_B) (a _ : ab_B) : ab_B := if 0 ≤ a.1 then (0, a.2) else top
/-- to the left: nothing stays nothing -/
def ab_rshl (top : ab_B) (a _ : ab_B) : ab_B := if a = (0, 0) then (0, 0) else top
theorem ab_i32 (x : Int32) : ab_in ab_topi x.toInt := ⟨Int32.minValue_le_toInt x, Int32.toInt_le x⟩
theorem ab_i64 (x : Int64) : ab_in ab_topl x.toInt := ⟨Int64.minValue_le_toInt x, Int64.toInt_le x⟩
theorem ab_bi_ok {f : Int32 → Int32 → Int32} {rule : ab_B → ab_B → ab_B} (hr : ∀ (a b : ab_B) (x y : Int32), ab_in a x.toInt → ab_in b y.toInt → ab_in (rule a b) (f x y).toInt) {a b : ab_B} {x y : Int32} (ha : ab_in a x.toInt) (hb : ab_in b y.toInt) : ab_in (ab_bi f rule a b) (f x y).toInt := by
  unfold ab_bi
  split
  · rename_i h
    have e1 : Int32.ofInt a.1 = x := by rw [show a.1 = x.toInt by have := ha.1; have := ha.2; omega]; exact Int32.ofInt_toInt x
    have e2 : Int32.ofInt b.1 = y := by rw [show b.1 = y.toInt by have := hb.1; have := hb.2; omega]; exact Int32.ofInt_toInt y
    rw [e1, e2]
    exact ⟨Int.le_refl _, Int.le_refl _⟩
  · exact hr a b x y ha hb
theorem ab_bl_ok {f : Int64 → Int64 → Int64} {rule : ab_B → ab_B → ab_B} (hr : ∀ (a b : ab_B) (x y : Int64), ab_in a x.toInt → ab_in b y.toInt → ab_in (rule a b) (f x y).toInt) {a b : ab_B} {x y : Int64} (ha : ab_in a x.toInt) (hb : ab_in b y.toInt) : ab_in (ab_bl f rule a b) (f x y).toInt := by
  unfold ab_bl
  split
  · rename_i h
    have e1 : Int64.ofInt a.1 = x := by rw [show a.1 = x.toInt by have := ha.1; have := ha.2; omega]; exact Int64.ofInt_toInt x
    have e2 : Int64.ofInt b.1 = y := by rw [show b.1 = y.toInt by have := hb.1; have := hb.2; omega]; exact Int64.ofInt_toInt y
    rw [e1, e2]
    exact ⟨Int.le_refl _, Int.le_refl _⟩
  · exact hr a b x y ha hb
theorem ab_bs_ok {f : Int64 → Int32 → Int64} {rule : ab_B → ab_B → ab_B} (hr : ∀ (a b : ab_B) (x : Int64) (y : Int32), ab_in a x.toInt → ab_in b y.toInt → ab_in (rule a b) (f x y).toInt) {a b : ab_B} {x : Int64} {y : Int32} (ha : ab_in a x.toInt) (hb : ab_in b y.toInt) : ab_in (ab_bs f rule a b) (f x y).toInt := by
  unfold ab_bs
  split
  · rename_i h
    have e1 : Int64.ofInt a.1 = x := by rw [show a.1 = x.toInt by have := ha.1; have := ha.2; omega]; exact Int64.ofInt_toInt x
    have e2 : Int32.ofInt b.1 = y := by rw [show b.1 = y.toInt by have := hb.1; have := hb.2; omega]; exact Int32.ofInt_toInt y
    rw [e1, e2]
    exact ⟨Int.le_refl _, Int.le_refl _⟩
  · exact hr a b x y ha hb
theorem ab_bmod32 {z : Int} (h1 : -2147483648 ≤ z) (h2 : z ≤ 2147483647) : z.bmod (2 ^ 32) = z := by
  apply Int.bmod_eq_of_le <;> omega
theorem ab_add_ok (a b : ab_B) (x y : Int32) (ha : ab_in a x.toInt) (hb : ab_in b y.toInt) : ab_in (ab_radd ab_topi a b) (x + y).toInt := by
  unfold ab_radd ab_fit
  split
  · rename_i h
    simp only [ab_topi] at h
    have h1 := ha.1; have h2 := ha.2; have h3 := hb.1; have h4 := hb.2
    rw [Int32.toInt_add, ab_bmod32 (by omega) (by omega)]
    exact ⟨by simp only; omega, by simp only; omega⟩
  · exact ab_i32 _
theorem ab_sub_ok (a b : ab_B) (x y : Int32) (ha : ab_in a x.toInt) (hb : ab_in b y.toInt) : ab_in (ab_rsub ab_topi a b) (x - y).toInt := by
  unfold ab_rsub ab_fit
  split
  · rename_i h
    simp only [ab_topi] at h
    have h1 := ha.1; have h2 := ha.2; have h3 := hb.1; have h4 := hb.2
    rw [Int32.toInt_sub, ab_bmod32 (by omega) (by omega)]
    exact ⟨by simp only; omega, by simp only; omega⟩
  · exact ab_i32 _
theorem ab_rtop_i (f : Int32 → Int32 → Int32) (a b : ab_B) (x y : Int32) (_ : ab_in a x.toInt) (_ : ab_in b y.toInt) : ab_in (ab_rtop ab_topi a b) (f x y).toInt := ab_i32 _
theorem ab_rtop_l (f : Int64 → Int64 → Int64) (a b : ab_B) (x y : Int64) (_ : ab_in a x.toInt) (_ : ab_in b y.toInt) : ab_in (ab_rtop ab_topl a b) (f x y).toInt := ab_i64 _
theorem ab_rtop_s (f : Int64 → Int32 → Int64) (a b : ab_B) (x : Int64) (y : Int32) (_ : ab_in a x.toInt) (_ : ab_in b y.toInt) : ab_in (ab_rtop ab_topl a b) (f x y).toInt := ab_i64 _
theorem ab_n32 (x : Int32) (h : 0 ≤ x.toInt) : x.toInt = x.toBitVec.toNat ∧ x.toBitVec.toNat < 2147483648 := by
  have h1 : x.toInt = x.toBitVec.toInt := rfl
  rw [h1, BitVec.toInt_eq_toNat_cond] at h ⊢
  have := x.toBitVec.isLt
  split at h <;> rename_i h2
  · rw [if_pos h2]; omega
  · omega
theorem ab_b32 (x : Int32) (h : x.toBitVec.toNat < 2147483648) : x.toInt = x.toBitVec.toNat := by
  have h1 : x.toInt = x.toBitVec.toInt := rfl
  rw [h1, BitVec.toInt_eq_toNat_cond, if_pos (by omega)]
theorem ab_n64 (x : Int64) (h : 0 ≤ x.toInt) : x.toInt = x.toBitVec.toNat ∧ x.toBitVec.toNat < 9223372036854775808 := by
  have h1 : x.toInt = x.toBitVec.toInt := rfl
  rw [h1, BitVec.toInt_eq_toNat_cond] at h ⊢
  have := x.toBitVec.isLt
  split at h <;> rename_i h2
  · rw [if_pos h2]; omega
  · omega
theorem ab_b64 (x : Int64) (h : x.toBitVec.toNat < 9223372036854775808) : x.toInt = x.toBitVec.toNat := by
  have h1 : x.toInt = x.toBitVec.toInt := rfl
  rw [h1, BitVec.toInt_eq_toNat_cond, if_pos (by omega)]
theorem ab_and32 (x y : Int32) (h : 0 ≤ x.toInt) : 0 ≤ (x &&& y).toInt ∧ (x &&& y).toInt ≤ x.toInt := by
  obtain ⟨h1, h2⟩ := ab_n32 x h
  have h3 : (x &&& y).toBitVec.toNat ≤ x.toBitVec.toNat := by
    rw [Int32.toBitVec_and, BitVec.toNat_and]
    exact Nat.and_le_left
  have h4 := ab_b32 (x &&& y) (by omega)
  omega
theorem ab_and64 (x y : Int64) (h : 0 ≤ x.toInt) : 0 ≤ (x &&& y).toInt ∧ (x &&& y).toInt ≤ x.toInt := by
  obtain ⟨h1, h2⟩ := ab_n64 x h
  have h3 : (x &&& y).toBitVec.toNat ≤ x.toBitVec.toNat := by
    rw [Int64.toBitVec_and, BitVec.toNat_and]
    exact Nat.and_le_left
  have h4 := ab_b64 (x &&& y) (by omega)
  omega
theorem ab_rand_i (a b : ab_B) (x y : Int32) (ha : ab_in a x.toInt) (hb : ab_in b y.toInt) : ab_in (ab_rand ab_topi a b) (x &&& y).toInt := by
  have h1 := ha.1; have h2 := ha.2; have h3 := hb.1; have h4 := hb.2
  unfold ab_rand
  split
  · rename_i h
    have := ab_and32 x y (by omega)
    exact ⟨by simp only; omega, by simp only; omega⟩
  · split
    · have := ab_and32 y x (by omega)
      rw [Int32.and_comm]
      exact ⟨by simp only; omega, by simp only; omega⟩
    · exact ab_i32 _
theorem ab_rand_l (a b : ab_B) (x y : Int64) (ha : ab_in a x.toInt) (hb : ab_in b y.toInt) : ab_in (ab_rand ab_topl a b) (x &&& y).toInt := by
  have h1 := ha.1; have h2 := ha.2; have h3 := hb.1; have h4 := hb.2
  unfold ab_rand
  split
  · rename_i h
    have := ab_and64 x y (by omega)
    exact ⟨by simp only; omega, by simp only; omega⟩
  · split
    · have := ab_and64 y x (by omega)
      rw [Int64.and_comm]
      exact ⟨by simp only; omega, by simp only; omega⟩
    · exact ab_i64 _
theorem ab_shr_z (z : Int) (k : Nat) (h : 0 ≤ z) : 0 ≤ z >>> k ∧ z >>> k ≤ z := by
  rw [Int.shiftRight_eq_div_pow]
  have h2 : (0 : Int) < ((2 ^ k : Nat) : Int) := by exact_mod_cast Nat.pow_pos (by decide)
  exact ⟨Int.ediv_nonneg h (Int.le_of_lt h2), Int.ediv_le_self _ h⟩
theorem ab_rshr_i (a b : ab_B) (x y : Int32) (ha : ab_in a x.toInt) (_ : ab_in b y.toInt) : ab_in (ab_rshr ab_topi a b) (x >>> (y &&& 31)).toInt := by
  have h1 := ha.1; have h2 := ha.2
  unfold ab_rshr
  split
  · rw [pk_shr x (y &&& 31) _ rfl]
    have := ab_shr_z x.toInt ((y &&& 31).toBitVec.smod 32).toNat (by omega)
    exact ⟨by simp only; omega, by simp only; omega⟩
  · exact ab_i32 _
theorem ab_rush_i (a b : ab_B) (x y : Int32) (ha : ab_in a x.toInt) (_ : ab_in b y.toInt) : ab_in (ab_rshr ab_topi a b) ((x.toUInt32 >>> (y.toUInt32 &&& Int32.toUInt32 31)).toInt32).toInt := by
  have h1 := ha.1; have h2 := ha.2
  unfold ab_rshr
  split
  · obtain ⟨e1, e2⟩ := ab_n32 x (by omega)
    have e3 := pk_ushr x y _ rfl
    have e4 : x.toBitVec.toNat / 2 ^ ((y.toUInt32 &&& Int32.toUInt32 31).toBitVec % 32).toNat ≤ x.toBitVec.toNat := Nat.div_le_self _ _
    have e5 := ab_b32 ((x.toUInt32 >>> (y.toUInt32 &&& Int32.toUInt32 31)).toInt32) (by omega)
    exact ⟨by simp only; omega, by simp only; omega⟩
  · exact ab_i32 _
theorem ab_rush_l (a b : ab_B) (x : Int64) (y : Int32) (ha : ab_in a x.toInt) (_ : ab_in b y.toInt) : ab_in (ab_rshr ab_topl a b) ((x.toUInt64 >>> (y.toInt64.toUInt64 &&& Int64.toUInt64 63)).toInt64).toInt := by
  have h1 := ha.1; have h2 := ha.2
  unfold ab_rshr
  split
  · obtain ⟨e1, e2⟩ := ab_n64 x (by omega)
    have e3 : (x.toUInt64 >>> (y.toInt64.toUInt64 &&& Int64.toUInt64 63)).toInt64.toBitVec.toNat ≤ x.toBitVec.toNat := by
      show (x.toUInt64 >>> (y.toInt64.toUInt64 &&& Int64.toUInt64 63)).toBitVec.toNat ≤ x.toBitVec.toNat
      rw [UInt64.toBitVec_shiftRight, BitVec.ushiftRight_eq', BitVec.toNat_ushiftRight, Nat.shiftRight_eq_div_pow]
      exact Nat.div_le_self _ _
    have e5 := ab_b64 ((x.toUInt64 >>> (y.toInt64.toUInt64 &&& Int64.toUInt64 63)).toInt64) (by omega)
    exact ⟨by simp only; omega, by simp only; omega⟩
  · exact ab_i64 _
theorem ab_rshl_i (a b : ab_B) (x y : Int32) (ha : ab_in a x.toInt) (_ : ab_in b y.toInt) : ab_in (ab_rshl ab_topi a b) (x <<< (y &&& 31)).toInt := by
  unfold ab_rshl
  split
  · rename_i h
    subst h
    have h1 := ha.1; have h2 := ha.2
    simp only at h1 h2
    have hx : x = 0 := by rw [← Int32.toInt_inj]; simp only [Int32.toInt_zero]; omega
    subst hx
    rw [Int32.zero_shiftLeft]
    exact ⟨Int.le_refl _, Int.le_refl _⟩
  · exact ab_i32 _
theorem ab_rshl_l (a b : ab_B) (x : Int64) (y : Int32) (ha : ab_in a x.toInt) (_ : ab_in b y.toInt) : ab_in (ab_rshl ab_topl a b) (x <<< (y.toInt64 &&& 63)).toInt := by
  unfold ab_rshl
  split
  · rename_i h
    subst h
    have h1 := ha.1; have h2 := ha.2
    simp only at h1 h2
    have hx : x = 0 := by rw [← Int64.toInt_inj]; simp only [Int64.toInt_zero]; omega
    subst hx
    rw [Int64.zero_shiftLeft]
    exact ⟨Int.le_refl _, Int.le_refl _⟩
  · exact ab_i64 _
/-! what touches the stack alone -/
def ab_ii (f : Int32 → Int32 → Int32) (rule : ab_B → ab_B → ab_B) : List ab_V → Option (List ab_V)
  | ((0, b1, b2, _), _) :: ((0, a1, a2, _), _) :: r => some (((0, (ab_bi f rule (a1, a2) (b1, b2)).1, (ab_bi f rule (a1, a2) (b1, b2)).2, []), none) :: r)
  | _ => none
def ab_ll (f : Int64 → Int64 → Int64) (rule : ab_B → ab_B → ab_B) : List ab_V → Option (List ab_V)
  | ((1, b1, b2, _), _) :: ((1, a1, a2, _), _) :: r => some (((1, (ab_bl f rule (a1, a2) (b1, b2)).1, (ab_bl f rule (a1, a2) (b1, b2)).2, []), none) :: r)
  | _ => none
def ab_li (f : Int64 → Int32 → Int64) (rule : ab_B → ab_B → ab_B) : List ab_V → Option (List ab_V)
  | ((0, b1, b2, _), _) :: ((1, a1, a2, _), _) :: r => some (((1, (ab_bs f rule (a1, a2) (b1, b2)).1, (ab_bs f rule (a1, a2) (b1, b2)).2, []), none) :: r)
  | _ => none
def ab_i2l : List ab_V → Option (List ab_V)
  | ((0, a1, a2, _), o) :: r => some (((1, a1, a2, []), o) :: r)
  | _ => none
def ab_l2i : List ab_V → Option (List ab_V)
  | ((1, a1, a2, _), _) :: r => some (((0, (ab_fit ab_topi (a1, a2)).1, (ab_fit ab_topi (a1, a2)).2, []), none) :: r)
  | _ => none
def ab_itop : List ab_V → Option (List ab_V)
  | ((0, _, _, _), _) :: r => some (((0, ab_topi.1, ab_topi.2, []), none) :: r)
  | _ => none
def ab_k1 (a : ab_V) : Bool := Nat.beq a.1.1 0 || Nat.beq a.1.1 2 || Nat.beq a.1.1 3
def ab_dup : List ab_V → Option (List ab_V)
  | a :: r => if ab_k1 a then some (a :: a :: r) else none
  | _ => none
def ab_dup_x1 : List ab_V → Option (List ab_V)
  | a :: b :: r => if ab_k1 a && ab_k1 b then some (a :: b :: a :: r) else none
  | _ => none
def ab_dup_x2 : List ab_V → Option (List ab_V)
  | a :: b :: d :: r => if ab_k1 a && ab_k1 b && ab_k1 d then some (a :: b :: d :: a :: r) else none
  | _ => none
def ab_dup2 : List ab_V → Option (List ab_V)
  | a :: b :: r => if ab_k1 a && ab_k1 b then some (a :: b :: a :: b :: r) else if Nat.beq a.1.1 1 then some (a :: a :: b :: r) else none
  | a :: r => if Nat.beq a.1.1 1 then some (a :: a :: r) else none
  | _ => none
def ab_dup2_x1 : List ab_V → Option (List ab_V)
  | a :: b :: r => if Nat.beq a.1.1 1 && ab_k1 b then some (a :: b :: a :: r) else none
  | _ => none
def ab_dup2_x2 : List ab_V → Option (List ab_V)
  | a :: b :: d :: r => if Nat.beq a.1.1 1 && ab_k1 b && ab_k1 d then some (a :: b :: d :: a :: r) else none
  | _ => none
def ab_pop : List ab_V → Option (List ab_V)
  | a :: r => if ab_k1 a then some r else none
  | _ => none
def ab_pop2 : List ab_V → Option (List ab_V)
  | a :: r => if Nat.beq a.1.1 1 then some r else none
  | _ => none
def ab_alu (i : Instr) (st : List ab_V) : Option (List ab_V) :=
  match i with
  | .iconst n => some (((0, (Int32.ofInt n).toInt, (Int32.ofInt n).toInt, []), none) :: st)
  | .bipush n => some (((0, ((Int8.ofInt n).toInt32).toInt, ((Int8.ofInt n).toInt32).toInt, []), none) :: st)
  | .sipush n => some (((0, ((Int16.ofInt n).toInt32).toInt, ((Int16.ofInt n).toInt32).toInt, []), none) :: st)
  | .lconst n => some (((1, (Int64.ofNat (n : Nat)).toInt, (Int64.ofNat (n : Nat)).toInt, []), none) :: st)
  | .iadd => ab_ii (fun x y => x + y) (ab_radd ab_topi) st
  | .isub => ab_ii (fun x y => x - y) (ab_rsub ab_topi) st
  | .imul => ab_ii (fun x y => x * y) (ab_rtop ab_topi) st
  | .iand => ab_ii (fun x y => x &&& y) (ab_rand ab_topi) st
  | .ior => ab_ii (fun x y => x ||| y) (ab_rtop ab_topi) st
  | .ixor => ab_ii (fun x y => x ^^^ y) (ab_rtop ab_topi) st
  | .ishl => ab_ii (fun x y => x <<< (y &&& 31)) (ab_rshl ab_topi) st
  | .ishr => ab_ii (fun x y => x >>> (y &&& 31)) (ab_rshr ab_topi) st
  | .iushr => ab_ii (fun x y => (x.toUInt32 >>> (y.toUInt32 &&& Int32.toUInt32 31)).toInt32) (ab_rshr ab_topi) st
  | .ladd => ab_ll (fun x y => x + y) (ab_rtop ab_topl) st
  | .lsub => ab_ll (fun x y => x - y) (ab_rtop ab_topl) st
  | .lmul => ab_ll (fun x y => x * y) (ab_rtop ab_topl) st
  | .land => ab_ll (fun x y => x &&& y) (ab_rand ab_topl) st
  | .lor => ab_ll (fun x y => x ||| y) (ab_rtop ab_topl) st
  | .lxor => ab_ll (fun x y => x ^^^ y) (ab_rtop ab_topl) st
  | .lshl => ab_li (fun x y => x <<< (y.toInt64 &&& 63)) (ab_rshl ab_topl) st
  | .lshr => ab_li (fun x y => x >>> (y.toInt64 &&& 63)) (ab_rtop ab_topl) st
  | .lushr => ab_li (fun x y => (x.toUInt64 >>> (y.toInt64.toUInt64 &&& Int64.toUInt64 63)).toInt64) (ab_rshr ab_topl) st
  | .i2l => ab_i2l st
  | .l2i => ab_l2i st
  | .i2b => ab_itop st
  | .i2s => ab_itop st
  | .ineg => ab_itop st
  | .dup => ab_dup st
  | .dup_x1 => ab_dup_x1 st
  | .dup_x2 => ab_dup_x2 st
  | .dup2 => ab_dup2 st
  | .dup2_x1 => ab_dup2_x1 st
  | .dup2_x2 => ab_dup2_x2 st
  | .pop => ab_pop st
  | .pop2 => ab_pop2 st
  | _ => none
theorem ab_f0 {a1 a2 : Int} {r : List Nat} {v : Value} (h : ab_f (0, a1, a2, r) v) : ∃ x : Int32, v = .int x ∧ ab_in (a1, a2) x.toInt := by
  cases v <;> first | exact ⟨_, rfl, h.2⟩ | (exact absurd h.1 (by decide)) | (exact absurd h (by simp [ab_f]))
theorem ab_f1 {a1 a2 : Int} {r : List Nat} {v : Value} (h : ab_f (1, a1, a2, r) v) : ∃ x : Int64, v = .long x ∧ ab_in (a1, a2) x.toInt := by
  cases v <;> first | exact ⟨_, rfl, h.2⟩ | (exact absurd h.1 (by decide)) | (exact absurd h (by simp [ab_f]))
theorem ab_f2 {a1 a2 : Int} {r : List Nat} {v : Value} (h : ab_f (2, a1, a2, r) v) : ∃ k : Nat, v = .ref k ∧ k ∈ r := by
  cases v <;> first | exact ⟨_, rfl, h.2⟩ | (exact absurd h.1 (by decide)) | (exact absurd h (by simp [ab_f]))
theorem ab_o_none (xs : Nat → Int32) (lv : List (Nat × Value)) (hp : px_H) (v : Value) : ab_o xs lv hp none v := fun l h => by cases h
section ab_s1
variable {xs : Nat → Int32} {lv : List (Nat × Value)} {hp : px_H}
theorem ab_cat1 {a : ab_V} {v : Value} (h : ab_v xs lv hp a v) (hk : ab_k1 a = true) : v.category = 1 := by
  have h1 := h.1
  cases v with
  | long x =>
    have h2 : a.1.1 = 1 := h1.1
    simp [ab_k1, h2] at hk
  | double x => exact absurd h1 (by simp [ab_f])
  | _ => rfl
theorem ab_cat2 {a : ab_V} {v : Value} (h : ab_v xs lv hp a v) (hk : Nat.beq a.1.1 1 = true) : v.category = 2 := by
  have h1 := h.1
  have h3 := Nat.eq_of_beq_eq_true hk
  cases v with
  | long x => rfl
  | int x => have h2 : a.1.1 = 0 := h1.1; omega
  | ref x => have h2 : a.1.1 = 2 := h1.1; omega
  | retAddr x => have h2 : a.1.1 = 3 := h1; omega
  | _ => exact absurd h1 (by simp [ab_f])
theorem ab_st_cons {a : ab_V} {r : List ab_V} {st : List Value} (h : ab_st xs lv hp (a :: r) st) : ∃ v s, st = v :: s ∧ ab_v xs lv hp a v ∧ ab_st xs lv hp r s := by
  cases st with
  | nil => exact absurd h (by simp [ab_st])
  | cons v s => exact ⟨v, s, rfl, h.1, h.2⟩
theorem ab_ii_ok {f : Int32 → Int32 → Int32} {rule : ab_B → ab_B → ab_B} (hr : ∀ (a b : ab_B) (x y : Int32), ab_in a x.toInt → ab_in b y.toInt → ab_in (rule a b) (f x y).toInt) {as as' : List ab_V} {st : List Value} (h : ab_ii f rule as = some as') (hs : ab_st xs lv hp as st) : ∃ st', px_ii f st = some st' ∧ ab_st xs lv hp as' st' := by
  unfold ab_ii at h
  split at h
  · cases h
    obtain ⟨v, s, rfl, h1, hs1⟩ := ab_st_cons hs
    obtain ⟨w, t, rfl, h2, hs2⟩ := ab_st_cons hs1
    obtain ⟨y, rfl, hy⟩ := ab_f0 h1.1
    obtain ⟨x, rfl, hx⟩ := ab_f0 h2.1
    have := ab_bi_ok hr hx hy
    exact ⟨_, rfl, ⟨⟨rfl, this.1, this.2⟩, ab_o_none _ _ _ _⟩, hs2⟩
  · cases h
theorem ab_ll_ok {f : Int64 → Int64 → Int64} {rule : ab_B → ab_B → ab_B} (hr : ∀ (a b : ab_B) (x y : Int64), ab_in a x.toInt → ab_in b y.toInt → ab_in (rule a b) (f x y).toInt) {as as' : List ab_V} {st : List Value} (h : ab_ll f rule as = some as') (hs : ab_st xs lv hp as st) : ∃ st', px_ll f st = some st' ∧ ab_st xs lv hp as' st' := by
  unfold ab_ll at h
  split at h
  · cases h
    obtain ⟨v, s, rfl, h1, hs1⟩ := ab_st_cons hs
    obtain ⟨w, t, rfl, h2, hs2⟩ := ab_st_cons hs1
    obtain ⟨y, rfl, hy⟩ := ab_f1 h1.1
    obtain ⟨x, rfl, hx⟩ := ab_f1 h2.1
    have := ab_bl_ok hr hx hy
    exact ⟨_, rfl, ⟨⟨rfl, this.1, this.2⟩, ab_o_none _ _ _ _⟩, hs2⟩
  · cases h
theorem ab_li_ok {f : Int64 → Int32 → Int64} {rule : ab_B → ab_B → ab_B} (hr : ∀ (a b : ab_B) (x : Int64) (y : Int32), ab_in a x.toInt → ab_in b y.toInt → ab_in (rule a b) (f x y).toInt) {as as' : List ab_V} {st : List Value} (h : ab_li f rule as = some as') (hs : ab_st xs lv hp as st) : ∃ st', px_li f st = some st' ∧ ab_st xs lv hp as' st' := by
  unfold ab_li at h
  split at h
  · cases h
    obtain ⟨v, s, rfl, h1, hs1⟩ := ab_st_cons hs
    obtain ⟨w, t, rfl, h2, hs2⟩ := ab_st_cons hs1
    obtain ⟨y, rfl, hy⟩ := ab_f0 h1.1
    obtain ⟨x, rfl, hx⟩ := ab_f1 h2.1
    have := ab_bs_ok hr hx hy
    exact ⟨_, rfl, ⟨⟨rfl, this.1, this.2⟩, ab_o_none _ _ _ _⟩, hs2⟩
  · cases h
theorem ab_i1_ok {f : Int32 → Value} {g : List ab_V → Option (List ab_V)} (hg : ∀ as as', g as = some as' → ∃ a1 a2 q o a r, as = ((0, a1, a2, q), o) :: r ∧ as' = a :: r ∧ ∀ x : Int32, ab_in (a1, a2) x.toInt → ab_o xs lv hp o (.int x) → ab_v xs lv hp a (f x)) {as as' : List ab_V} {st : List Value} (h : g as = some as') (hs : ab_st xs lv hp as st) : ∃ st', px_i1 f st = some st' ∧ ab_st xs lv hp as' st' := by
  obtain ⟨a1, a2, q, o, a, r, rfl, rfl, hv⟩ := hg _ _ h
  obtain ⟨v, s, rfl, h1, hs1⟩ := ab_st_cons hs
  obtain ⟨x, rfl, hx⟩ := ab_f0 h1.1
  exact ⟨_, rfl, hv x hx h1.2, hs1⟩
set_option maxHeartbeats 4000000 in
theorem ab_alu_ok {i : Instr} {as as' : List ab_V} {st : List Value} (h : ab_alu i as = some as') (hs : ab_st xs lv hp as st) : ∃ st', px_alu i st = some st' ∧ ab_st xs lv hp as' st' := by
  have ref : ∀ z : Int, z ≤ z := fun z => Int.le_refl z
  cases i
  case iconst n => cases h; exact ⟨_, rfl, ⟨⟨rfl, ref _, ref _⟩, ab_o_none _ _ _ _⟩, hs⟩
  case bipush n => cases h; exact ⟨_, rfl, ⟨⟨rfl, ref _, ref _⟩, ab_o_none _ _ _ _⟩, hs⟩
  case sipush n => cases h; exact ⟨_, rfl, ⟨⟨rfl, ref _, ref _⟩, ab_o_none _ _ _ _⟩, hs⟩
  case lconst n => cases h; exact ⟨_, rfl, ⟨⟨rfl, ref _, ref _⟩, ab_o_none _ _ _ _⟩, hs⟩
  case iadd => exact ab_ii_ok ab_add_ok h hs
  case isub => exact ab_ii_ok ab_sub_ok h hs
  case imul => exact ab_ii_ok (ab_rtop_i _) h hs
  case iand => exact ab_ii_ok ab_rand_i h hs
  case ior => exact ab_ii_ok (ab_rtop_i _) h hs
  case ixor => exact ab_ii_ok (ab_rtop_i _) h hs
  case ishl => exact ab_ii_ok ab_rshl_i h hs
  case ishr => exact ab_ii_ok ab_rshr_i h hs
  case iushr => exact ab_ii_ok ab_rush_i h hs
  case ladd => exact ab_ll_ok (ab_rtop_l _) h hs
  case lsub => exact ab_ll_ok (ab_rtop_l _) h hs
  case lmul => exact ab_ll_ok (ab_rtop_l _) h hs
  case land => exact ab_ll_ok ab_rand_l h hs
  case lor => exact ab_ll_ok (ab_rtop_l _) h hs
  case lxor => exact ab_ll_ok (ab_rtop_l _) h hs
  case lshl => exact ab_li_ok ab_rshl_l h hs
  case lshr => exact ab_li_ok (ab_rtop_s _) h hs
  case lushr => exact ab_li_ok ab_rush_l h hs
  case i2l =>
    simp only [ab_alu, ab_i2l] at h
    split at h
    · cases h
      obtain ⟨v, s, rfl, h1, hs1⟩ := ab_st_cons hs
      obtain ⟨x, rfl, hx⟩ := ab_f0 h1.1
      refine ⟨_, rfl, ⟨⟨rfl, by rw [Int32.toInt_toInt64]; exact hx.1, by rw [Int32.toInt_toInt64]; exact hx.2⟩, fun l hl => ?_⟩, hs1⟩
      obtain ⟨w, hw, e⟩ := h1.2 l hl
      exact ⟨w, hw, by rw [e]; simp only [ab_num, Int32.toInt_toInt64]⟩
    · cases h
  case l2i =>
    simp only [ab_alu, ab_l2i] at h
    split at h
    · cases h
      obtain ⟨v, s, rfl, h1, hs1⟩ := ab_st_cons hs
      obtain ⟨x, rfl, hx⟩ := ab_f1 h1.1
      refine ⟨_, rfl, ⟨?_, ab_o_none _ _ _ _⟩, hs1⟩
      have hx1 := hx.1
      have hx2 := hx.2
      unfold ab_fit
      split
      · rename_i hb
        simp only [ab_topi] at hb
        refine ⟨rfl, ?_, ?_⟩ <;> (rw [Int64.toInt_toInt32, ab_bmod32 (by omega) (by omega)]; assumption)
      · exact ⟨rfl, (ab_i32 _).1, (ab_i32 _).2⟩
    · cases h
  case i2b =>
    simp only [ab_alu, ab_itop] at h
    split at h
    · cases h
      obtain ⟨v, s, rfl, h1, hs1⟩ := ab_st_cons hs
      obtain ⟨x, rfl, hx⟩ := ab_f0 h1.1
      exact ⟨_, rfl, ⟨⟨rfl, (ab_i32 _).1, (ab_i32 _).2⟩, ab_o_none _ _ _ _⟩, hs1⟩
    · cases h
  case i2s =>
    simp only [ab_alu, ab_itop] at h
    split at h
    · cases h
      obtain ⟨v, s, rfl, h1, hs1⟩ := ab_st_cons hs
      obtain ⟨x, rfl, hx⟩ := ab_f0 h1.1
      exact ⟨_, rfl, ⟨⟨rfl, (ab_i32 _).1, (ab_i32 _).2⟩, ab_o_none _ _ _ _⟩, hs1⟩
    · cases h
  case ineg =>
    simp only [ab_alu, ab_itop] at h
    split at h
    · cases h
      obtain ⟨v, s, rfl, h1, hs1⟩ := ab_st_cons hs
      obtain ⟨x, rfl, hx⟩ := ab_f0 h1.1
      exact ⟨_, rfl, ⟨⟨rfl, (ab_i32 _).1, (ab_i32 _).2⟩, ab_o_none _ _ _ _⟩, hs1⟩
    · cases h
  case dup =>
    simp only [ab_alu, ab_dup] at h
    split at h
    · split at h
      · rename_i hk
        cases h
        obtain ⟨v, s, rfl, h1, hs1⟩ := ab_st_cons hs
        exact ⟨v :: v :: s, by simp only [px_alu, px_dup, ab_cat1 h1 hk, if_true], h1, h1, hs1⟩
      · cases h
    · cases h
  case dup_x1 =>
    simp only [ab_alu, ab_dup_x1] at h
    split at h
    · split at h
      · rename_i hk
        simp only [Bool.and_eq_true] at hk
        cases h
        obtain ⟨v, s, rfl, h1, hs1⟩ := ab_st_cons hs
        obtain ⟨w, t, rfl, h2, hs2⟩ := ab_st_cons hs1
        exact ⟨v :: w :: v :: t, by simp only [px_alu, px_dup_x1, ab_cat1 h1 hk.1, ab_cat1 h2 hk.2, and_self, if_true], h1, h2, h1, hs2⟩
      · cases h
    · cases h
  case dup_x2 =>
    simp only [ab_alu, ab_dup_x2] at h
    split at h
    · split at h
      · rename_i hk
        simp only [Bool.and_eq_true] at hk
        cases h
        obtain ⟨v, s, rfl, h1, hs1⟩ := ab_st_cons hs
        obtain ⟨w, t, rfl, h2, hs2⟩ := ab_st_cons hs1
        obtain ⟨u, q, rfl, h3, hs3⟩ := ab_st_cons hs2
        exact ⟨v :: w :: u :: v :: q, by simp only [px_alu, px_dup_x2, ab_cat1 h1 hk.1.1, ab_cat1 h2 hk.1.2, ab_cat1 h3 hk.2, and_self, if_true], h1, h2, h3, h1, hs3⟩
      · cases h
    · cases h
  case dup2 =>
    simp only [ab_alu, ab_dup2] at h
    split at h
    · split at h
      · rename_i hk
        simp only [Bool.and_eq_true] at hk
        cases h
        obtain ⟨v, s, rfl, h1, hs1⟩ := ab_st_cons hs
        obtain ⟨w, t, rfl, h2, hs2⟩ := ab_st_cons hs1
        exact ⟨v :: w :: v :: w :: t, by simp only [px_alu, px_dup2, ab_cat1 h1 hk.1, ab_cat1 h2 hk.2, and_self, if_true]; rfl, h1, h2, h1, h2, hs2⟩
      · split at h
        · rename_i hk
          cases h
          obtain ⟨v, s, rfl, h1, hs1⟩ := ab_st_cons hs
          exact ⟨v :: v :: s, by simp only [px_alu, px_dup2, ab_cat2 h1 hk, if_true], h1, h1, hs1⟩
        · cases h
    · split at h
      · rename_i hk
        cases h
        obtain ⟨v, s, rfl, h1, hs1⟩ := ab_st_cons hs
        exact ⟨v :: v :: s, by simp only [px_alu, px_dup2, ab_cat2 h1 hk, if_true], h1, h1, hs1⟩
      · cases h
    · cases h
  case dup2_x1 =>
    simp only [ab_alu, ab_dup2_x1] at h
    split at h
    · split at h
      · rename_i hk
        simp only [Bool.and_eq_true] at hk
        cases h
        obtain ⟨v, s, rfl, h1, hs1⟩ := ab_st_cons hs
        obtain ⟨w, t, rfl, h2, hs2⟩ := ab_st_cons hs1
        exact ⟨v :: w :: v :: t, by simp only [px_alu, px_dup2_x1, ab_cat2 h1 hk.1, ab_cat1 h2 hk.2, and_self, if_true], h1, h2, h1, hs2⟩
      · cases h
    · cases h
  case dup2_x2 =>
    simp only [ab_alu, ab_dup2_x2] at h
    split at h
    · split at h
      · rename_i hk
        simp only [Bool.and_eq_true] at hk
        cases h
        obtain ⟨v, s, rfl, h1, hs1⟩ := ab_st_cons hs
        obtain ⟨w, t, rfl, h2, hs2⟩ := ab_st_cons hs1
        obtain ⟨u, q, rfl, h3, hs3⟩ := ab_st_cons hs2
        exact ⟨v :: w :: u :: v :: q, by simp only [px_alu, px_dup2_x2, ab_cat2 h1 hk.1.1, ab_cat1 h2 hk.1.2, ab_cat1 h3 hk.2, and_self, if_true], h1, h2, h3, h1, hs3⟩
      · cases h
    · cases h
  case pop =>
    simp only [ab_alu, ab_pop] at h
    split at h
    · split at h
      · rename_i hk
        cases h
        obtain ⟨v, s, rfl, h1, hs1⟩ := ab_st_cons hs
        exact ⟨s, by simp only [px_alu, px_pop, ab_cat1 h1 hk, if_true], hs1⟩
      · cases h
    · cases h
  case pop2 =>
    simp only [ab_alu, ab_pop2] at h
    split at h
    · split at h
      · rename_i hk
        cases h
        obtain ⟨v, s, rfl, h1, hs1⟩ := ab_st_cons hs
        exact ⟨s, by simp only [px_alu, px_pop2, ab_cat2 h1 hk, if_true], hs1⟩
      · cases h
    · cases h
  all_goals (simp only [ab_alu] at h; cases h)
end ab_s1
