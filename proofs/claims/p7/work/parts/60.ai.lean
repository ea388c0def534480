section mg_0
/-! AN ABSTRACT INTERPRETER of the pure machine: bounds, cells, where a value lies. -/
/-- kind (0 int, 1 long, 2 reference, 3 script), least, greatest, cells -/
abbrev ab_F : Type := Nat × Int × Int × List Nat
/-- a place: (0, local, _), (1, cell, field), (2, of the script, _) -/
abbrev ab_L : Type := Nat × Nat × Nat
abbrev ab_V : Type := ab_F × Option ab_L
abbrev ab_C : Type := (Nat × List ab_F) ⊕ (Nat × Nat × ab_F)
/-- locals, stack, heap, script -/
abbrev ab_S : Type := List (Nat × ab_V) × List ab_V × List ab_C × List (Int × Int)
def ab_f (f : ab_F) (v : Value) : Prop :=
  match v with
  | .int x => f.1 = 0 ∧ f.2.1 ≤ x.toInt ∧ x.toInt ≤ f.2.2.1
  | .long x => f.1 = 1 ∧ f.2.1 ≤ x.toInt ∧ x.toInt ≤ f.2.2.1
  | .ref k => f.1 = 2 ∧ k ∈ f.2.2.2
  | .retAddr _ => f.1 = 3
  | _ => False
def ab_num : Value → Option Int
  | .int x => some x.toInt
  | .long x => some x.toInt
  | _ => none
def ab_at (xs : Nat → Int32) (lv : List (Nat × Value)) (hp : px_H) (l : ab_L) : Option Value :=
  match l with
  | (0, j, _) => px_find j lv
  | (1, c, k) => match hp[c]? with
    | some (.inr (_, fs)) => fs[k]?
    | _ => none
  | (2, j, _) => some (.int (xs j))
  | _ => none
def ab_o (xs : Nat → Int32) (lv : List (Nat × Value)) (hp : px_H) (o : Option ab_L) (v : Value) : Prop :=
  ∀ l, o = some l → ∃ w, ab_at xs lv hp l = some w ∧ ab_num w = ab_num v
def ab_v (xs : Nat → Int32) (lv : List (Nat × Value)) (hp : px_H) (a : ab_V) (v : Value) : Prop := ab_f a.1 v ∧ ab_o xs lv hp a.2 v
def ab_c (a : ab_C) (x : px_E) : Prop :=
  match a, x with
  | .inr (t, n, f), .inl (t', n', cont) => t = t' ∧ n = n' ∧ ∀ j, j < n → match cont with
    | .inl g => ab_f f (.int (g j))
    | .inr (.inl g) => ab_f f (.long (g j))
    | .inr (.inr (.inr (.inr g))) => ∃ q, g j = some q ∧ ab_f f (.ref q)
    | _ => False
  | .inl (ci, fs), .inr (ci', vs) => ci = ci' ∧ fs.length = vs.length ∧ ∀ (k : Nat) (f : ab_F) (v : Value), fs[k]? = some f → vs[k]? = some v → ab_f f v
  | _, _ => False
def ab_h (ah : List ab_C) (hp : px_H) : Prop := ah.length = hp.length ∧ ∀ (k : Nat) (a : ab_C) (x : px_E), ah[k]? = some a → hp[k]? = some x → ab_c a x
def ab_st (xs : Nat → Int32) (lv : List (Nat × Value)) (hp : px_H) : List ab_V → List Value → Prop
  | [], [] => True
  | a :: r, v :: s => ab_v xs lv hp a v ∧ ab_st xs lv hp r s
  | _, _ => False
def ab_lv (xs : Nat → Int32) (hp : px_H) (al : List (Nat × ab_V)) (lv : List (Nat × Value)) : Prop := ∀ (j : Nat) (a : ab_V), (j, a) ∈ al → ∃ v, px_find j lv = some v ∧ ab_v xs lv hp a v
def ab_x (sc : List (Int × Int)) (xs : Nat → Int32) : Prop := ∀ (j : Nat) (q : Int × Int), sc[j]? = some q → q.1 ≤ (xs j).toInt ∧ (xs j).toInt ≤ q.2
/-- the abstract state holds -/
def ab_s (xs : Nat → Int32) (A : ab_S) (lv : List (Nat × Value)) (st : List Value) (hp : px_H) : Prop := ab_lv xs hp A.1 lv ∧ ab_st xs lv hp A.2.1 st ∧ ab_h A.2.2.1 hp ∧ ab_x A.2.2.2 xs
/-! bounds -/
abbrev ab_B : Type := Int × Int
def ab_topi : ab_B := (-2147483648, 2147483647)
def ab_topl : ab_B := (-9223372036854775808, 9223372036854775807)
def ab_in (q : ab_B) (x : Int) : Prop := q.1 ≤ x ∧ x ≤ q.2
/-- an int's operation: exact where both are known, else by its rule -/
def ab_bi (f : Int32 → Int32 → Int32) (rule : ab_B → ab_B → ab_B) (a b : ab_B) : ab_B :=
  if a.1 = a.2 ∧ b.1 = b.2 then ((f (Int32.ofInt a.1) (Int32.ofInt b.1)).toInt, (f (Int32.ofInt a.1) (Int32.ofInt b.1)).toInt) else rule a b
def ab_bl (f : Int64 → Int64 → Int64) (rule : ab_B → ab_B → ab_B) (a b : ab_B) : ab_B :=
  if a.1 = a.2 ∧ b.1 = b.2 then ((f (Int64.ofInt a.1) (Int64.ofInt b.1)).toInt, (f (Int64.ofInt a.1) (Int64.ofInt b.1)).toInt) else rule a b
def ab_bs (f : Int64 → Int32 → Int64) (rule : ab_B → ab_B → ab_B) (a b : ab_B) : ab_B :=
  if a.1 = a.2 ∧ b.1 = b.2 then ((f (Int64.ofInt a.1) (Int32.ofInt b.1)).toInt, (f (Int64.ofInt a.1) (Int32.ofInt b.1)).toInt) else rule a b
def ab_fit (top q : ab_B) : ab_B := if top.1 ≤ q.1 ∧ q.2 ≤ top.2 then q else top
def ab_radd (top : ab_B) (a b : ab_B) : ab_B := ab_fit top (a.1 + b.1, a.2 + b.2)
def ab_rsub (top : ab_B) (a b : ab_B) : ab_B := ab_fit top (a.1 - b.2, a.2 - b.1)
def ab_rtop (top : ab_B) (_ _ : ab_B) : ab_B := top
/-- 'and': at most the one that isn't negative -/
def ab_rand (top : ab_B) (a b : ab_B) : ab_B := if 0 ≤ a.1 ∧ (b.1 < 0 ∨ a.2 ≤ b.2) then (0, a.2) else if 0 ≤ b.1 then (0, b.2) else top
/-- to the right: at most what it was -/
def ab_rshr (top : ab_B) (a _ : ab_B) : ab_B := if 0 ≤ a.1 then (0, a.2) else top
/-- to the left: nothing stays nothing -/
def ab_rshl (top : ab_B) (a _ : ab_B) : ab_B := if a = (0, 0) then (0, 0) else top
theorem ab_i32 (x : Int32) : ab_in ab_topi x.toInt := ⟨Int32.minValue_le_toInt x, Int32.toInt_le x⟩
theorem ab_i64 (x : Int64) : ab_in ab_topl x.toInt := ⟨Int64.minValue_le_toInt x, Int64.toInt_le x⟩
theorem ab_bi_ok {f : Int32 → Int32 → Int32} {rule : ab_B → ab_B → ab_B} (hr : ∀ (a b : ab_B) (x y : Int32), ab_in a x.toInt → ab_in b y.toInt → ab_in (rule a b) (f x y).toInt) {a b : ab_B} {x y : Int32} (ha : ab_in a x.toInt) (hb : ab_in b y.toInt) : ab_in (ab_bi f rule a b) (f x y).toInt := by
  unfold ab_bi
  split
  · rename_i h
    have e1 : Int32.ofInt a.1 = x := by rw [show a.1 = x.toInt by have := ha.1; have := ha.2; omega]; exact Int32.ofInt_toInt x
    have e2 : Int32.ofInt b.1 = y := by rw [show b.1 = y.toInt by have := hb.1; have := hb.2; omega]; exact Int32.ofInt_toInt y
    rw [e1, e2]
    exact ⟨Int.le_refl _, Int.le_refl _⟩
  · exact hr a b x y ha hb
theorem ab_bl_ok {f : Int64 → Int64 → Int64} {rule : ab_B → ab_B → ab_B} (hr : ∀ (a b : ab_B) (x y : Int64), ab_in a x.toInt → ab_in b y.toInt → ab_in (rule a b) (f x y).toInt) {a b : ab_B} {x y : Int64} (ha : ab_in a x.toInt) (hb : ab_in b y.toInt) : ab_in (ab_bl f rule a b) (f x y).toInt := by
  unfold ab_bl
  split
  · rename_i h
    have e1 : Int64.ofInt a.1 = x := by rw [show a.1 = x.toInt by have := ha.1; have := ha.2; omega]; exact Int64.ofInt_toInt x
    have e2 : Int64.ofInt b.1 = y := by rw [show b.1 = y.toInt by have := hb.1; have := hb.2; omega]; exact Int64.ofInt_toInt y
    rw [e1, e2]
    exact ⟨Int.le_refl _, Int.le_refl _⟩
  · exact hr a b x y ha hb
theorem ab_bs_ok {f : Int64 → Int32 → Int64} {rule : ab_B → ab_B → ab_B} (hr : ∀ (a b : ab_B) (x : Int64) (y : Int32), ab_in a x.toInt → ab_in b y.toInt → ab_in (rule a b) (f x y).toInt) {a b : ab_B} {x : Int64} {y : Int32} (ha : ab_in a x.toInt) (hb : ab_in b y.toInt) : ab_in (ab_bs f rule a b) (f x y).toInt := by
  unfold ab_bs
  split
  · rename_i h
    have e1 : Int64.ofInt a.1 = x := by rw [show a.1 = x.toInt by have := ha.1; have := ha.2; omega]; exact Int64.ofInt_toInt x
    have e2 : Int32.ofInt b.1 = y := by rw [show b.1 = y.toInt by have := hb.1; have := hb.2; omega]; exact Int32.ofInt_toInt y
    rw [e1, e2]
    exact ⟨Int.le_refl _, Int.le_refl _⟩
  · exact hr a b x y ha hb
theorem ab_bmod32 {z : Int} (h1 : -2147483648 ≤ z) (h2 : z ≤ 2147483647) : z.bmod (2 ^ 32) = z := by
  apply Int.bmod_eq_of_le <;> omega
theorem ab_add_ok (a b : ab_B) (x y : Int32) (ha : ab_in a x.toInt) (hb : ab_in b y.toInt) : ab_in (ab_radd ab_topi a b) (x + y).toInt := by
  unfold ab_radd ab_fit
  split
  · rename_i h
    simp only [ab_topi] at h
    have h1 := ha.1; have h2 := ha.2; have h3 := hb.1; have h4 := hb.2
    rw [Int32.toInt_add, ab_bmod32 (by omega) (by omega)]
    exact ⟨by simp only; omega, by simp only; omega⟩
  · exact ab_i32 _
theorem ab_sub_ok (a b : ab_B) (x y : Int32) (ha : ab_in a x.toInt) (hb : ab_in b y.toInt) : ab_in (ab_rsub ab_topi a b) (x - y).toInt := by
  unfold ab_rsub ab_fit
  split
  · rename_i h
    simp only [ab_topi] at h
    have h1 := ha.1; have h2 := ha.2; have h3 := hb.1; have h4 := hb.2
    rw [Int32.toInt_sub, ab_bmod32 (by omega) (by omega)]
    exact ⟨by simp only; omega, by simp only; omega⟩
  · exact ab_i32 _
theorem ab_rtop_i (f : Int32 → Int32 → Int32) (a b : ab_B) (x y : Int32) (_ : ab_in a x.toInt) (_ : ab_in b y.toInt) : ab_in (ab_rtop ab_topi a b) (f x y).toInt := ab_i32 _
theorem ab_rtop_l (f : Int64 → Int64 → Int64) (a b : ab_B) (x y : Int64) (_ : ab_in a x.toInt) (_ : ab_in b y.toInt) : ab_in (ab_rtop ab_topl a b) (f x y).toInt := ab_i64 _
theorem ab_rtop_s (f : Int64 → Int32 → Int64) (a b : ab_B) (x : Int64) (y : Int32) (_ : ab_in a x.toInt) (_ : ab_in b y.toInt) : ab_in (ab_rtop ab_topl a b) (f x y).toInt := ab_i64 _
theorem ab_n32 (x : Int32) (h : 0 ≤ x.toInt) : x.toInt = x.toBitVec.toNat ∧ x.toBitVec.toNat < 2147483648 := by
  have h1 : x.toInt = x.toBitVec.toInt := rfl
  rw [h1, BitVec.toInt_eq_toNat_cond] at h ⊢
  have := x.toBitVec.isLt
  split at h <;> rename_i h2
  · rw [if_pos h2]; omega
  · omega
theorem ab_b32 (x : Int32) (h : x.toBitVec.toNat < 2147483648) : x.toInt = x.toBitVec.toNat := by
  have h1 : x.toInt = x.toBitVec.toInt := rfl
  rw [h1, BitVec.toInt_eq_toNat_cond, if_pos (by omega)]
theorem ab_n64 (x : Int64) (h : 0 ≤ x.toInt) : x.toInt = x.toBitVec.toNat ∧ x.toBitVec.toNat < 9223372036854775808 := by
  have h1 : x.toInt = x.toBitVec.toInt := rfl
  rw [h1, BitVec.toInt_eq_toNat_cond] at h ⊢
  have := x.toBitVec.isLt
  split at h <;> rename_i h2
  · rw [if_pos h2]; omega
  · omega
theorem ab_b64 (x : Int64) (h : x.toBitVec.toNat < 9223372036854775808) : x.toInt = x.toBitVec.toNat := by
  have h1 : x.toInt = x.toBitVec.toInt := rfl
  rw [h1, BitVec.toInt_eq_toNat_cond, if_pos (by omega)]
theorem ab_and32 (x y : Int32) (h : 0 ≤ x.toInt) : 0 ≤ (x &&& y).toInt ∧ (x &&& y).toInt ≤ x.toInt := by
  obtain ⟨h1, h2⟩ := ab_n32 x h
  have h3 : (x &&& y).toBitVec.toNat ≤ x.toBitVec.toNat := by
    rw [Int32.toBitVec_and, BitVec.toNat_and]
    exact Nat.and_le_left
  have h4 := ab_b32 (x &&& y) (by omega)
  omega
theorem ab_and64 (x y : Int64) (h : 0 ≤ x.toInt) : 0 ≤ (x &&& y).toInt ∧ (x &&& y).toInt ≤ x.toInt := by
  obtain ⟨h1, h2⟩ := ab_n64 x h
  have h3 : (x &&& y).toBitVec.toNat ≤ x.toBitVec.toNat := by
    rw [Int64.toBitVec_and, BitVec.toNat_and]
    exact Nat.and_le_left
  have h4 := ab_b64 (x &&& y) (by omega)
  omega
theorem ab_rand_i (a b : ab_B) (x y : Int32) (ha : ab_in a x.toInt) (hb : ab_in b y.toInt) : ab_in (ab_rand ab_topi a b) (x &&& y).toInt := by
  have h1 := ha.1; have h2 := ha.2; have h3 := hb.1; have h4 := hb.2
  unfold ab_rand
  split
  · rename_i h
    have := ab_and32 x y (by omega)
    exact ⟨by simp only; omega, by simp only; omega⟩
  · split
    · have := ab_and32 y x (by omega)
      rw [Int32.and_comm]
      exact ⟨by simp only; omega, by simp only; omega⟩
    · exact ab_i32 _
theorem ab_rand_l (a b : ab_B) (x y : Int64) (ha : ab_in a x.toInt) (hb : ab_in b y.toInt) : ab_in (ab_rand ab_topl a b) (x &&& y).toInt := by
  have h1 := ha.1; have h2 := ha.2; have h3 := hb.1; have h4 := hb.2
  unfold ab_rand
  split
  · rename_i h
    have := ab_and64 x y (by omega)
    exact ⟨by simp only; omega, by simp only; omega⟩
  · split
    · have := ab_and64 y x (by omega)
      rw [Int64.and_comm]
      exact ⟨by simp only; omega, by simp only; omega⟩
    · exact ab_i64 _
theorem ab_shr_z (z : Int) (k : Nat) (h : 0 ≤ z) : 0 ≤ z >>> k ∧ z >>> k ≤ z := by
  rw [Int.shiftRight_eq_div_pow]
  have h2 : (0 : Int) < ((2 ^ k : Nat) : Int) := by exact_mod_cast Nat.pow_pos (by decide)
  exact ⟨Int.ediv_nonneg h (Int.le_of_lt h2), Int.ediv_le_self _ h⟩
theorem ab_rshr_i (a b : ab_B) (x y : Int32) (ha : ab_in a x.toInt) (_ : ab_in b y.toInt) : ab_in (ab_rshr ab_topi a b) (x >>> (y &&& 31)).toInt := by
  have h1 := ha.1; have h2 := ha.2
  unfold ab_rshr
  split
  · rw [pk_shr x (y &&& 31) _ rfl]
    have := ab_shr_z x.toInt ((y &&& 31).toBitVec.smod 32).toNat (by omega)
    exact ⟨by simp only; omega, by simp only; omega⟩
  · exact ab_i32 _
theorem ab_rush_i (a b : ab_B) (x y : Int32) (ha : ab_in a x.toInt) (_ : ab_in b y.toInt) : ab_in (ab_rshr ab_topi a b) ((x.toUInt32 >>> (y.toUInt32 &&& Int32.toUInt32 31)).toInt32).toInt := by
  have h1 := ha.1; have h2 := ha.2
  unfold ab_rshr
  split
  · obtain ⟨e1, e2⟩ := ab_n32 x (by omega)
    have e3 := pk_ushr x y _ rfl
    have e4 : x.toBitVec.toNat / 2 ^ ((y.toUInt32 &&& Int32.toUInt32 31).toBitVec % 32).toNat ≤ x.toBitVec.toNat := Nat.div_le_self _ _
    have e5 := ab_b32 ((x.toUInt32 >>> (y.toUInt32 &&& Int32.toUInt32 31)).toInt32) (by omega)
    exact ⟨by simp only; omega, by simp only; omega⟩
  · exact ab_i32 _
theorem ab_rush_l (a b : ab_B) (x : Int64) (y : Int32) (ha : ab_in a x.toInt) (_ : ab_in b y.toInt) : ab_in (ab_rshr ab_topl a b) ((x.toUInt64 >>> (y.toInt64.toUInt64 &&& Int64.toUInt64 63)).toInt64).toInt := by
  have h1 := ha.1; have h2 := ha.2
  unfold ab_rshr
  split
  · obtain ⟨e1, e2⟩ := ab_n64 x (by omega)
    have e3 : (x.toUInt64 >>> (y.toInt64.toUInt64 &&& Int64.toUInt64 63)).toInt64.toBitVec.toNat ≤ x.toBitVec.toNat := by
      show (x.toUInt64 >>> (y.toInt64.toUInt64 &&& Int64.toUInt64 63)).toBitVec.toNat ≤ x.toBitVec.toNat
      rw [UInt64.toBitVec_shiftRight, BitVec.ushiftRight_eq', BitVec.toNat_ushiftRight, Nat.shiftRight_eq_div_pow]
      exact Nat.div_le_self _ _
    have e5 := ab_b64 ((x.toUInt64 >>> (y.toInt64.toUInt64 &&& Int64.toUInt64 63)).toInt64) (by omega)
    exact ⟨by simp only; omega, by simp only; omega⟩
  · exact ab_i64 _
theorem ab_rshl_i (a b : ab_B) (x y : Int32) (ha : ab_in a x.toInt) (_ : ab_in b y.toInt) : ab_in (ab_rshl ab_topi a b) (x <<< (y &&& 31)).toInt := by
  unfold ab_rshl
  split
  · rename_i h
    subst h
    have h1 := ha.1; have h2 := ha.2
    simp only at h1 h2
    have hx : x = 0 := by rw [← Int32.toInt_inj]; simp only [Int32.toInt_zero]; omega
    subst hx
    rw [Int32.zero_shiftLeft]
    exact ⟨Int.le_refl _, Int.le_refl _⟩
  · exact ab_i32 _
theorem ab_rshl_l (a b : ab_B) (x : Int64) (y : Int32) (ha : ab_in a x.toInt) (_ : ab_in b y.toInt) : ab_in (ab_rshl ab_topl a b) (x <<< (y.toInt64 &&& 63)).toInt := by
  unfold ab_rshl
  split
  · rename_i h
    subst h
    have h1 := ha.1; have h2 := ha.2
    simp only at h1 h2
    have hx : x = 0 := by rw [← Int64.toInt_inj]; simp only [Int64.toInt_zero]; omega
    subst hx
    rw [Int64.zero_shiftLeft]
    exact ⟨Int.le_refl _, Int.le_refl _⟩
  · exact ab_i64 _
/-! what touches the stack alone -/
def ab_ii (f : Int32 → Int32 → Int32) (rule : ab_B → ab_B → ab_B) : List ab_V → Option (List ab_V)
  | ((0, b1, b2, _), _) :: ((0, a1, a2, _), _) :: r => some (((0, (ab_bi f rule (a1, a2) (b1, b2)).1, (ab_bi f rule (a1, a2) (b1, b2)).2, []), none) :: r)
  | _ => none
def ab_ll (f : Int64 → Int64 → Int64) (rule : ab_B → ab_B → ab_B) : List ab_V → Option (List ab_V)
  | ((1, b1, b2, _), _) :: ((1, a1, a2, _), _) :: r => some (((1, (ab_bl f rule (a1, a2) (b1, b2)).1, (ab_bl f rule (a1, a2) (b1, b2)).2, []), none) :: r)
  | _ => none
def ab_li (f : Int64 → Int32 → Int64) (rule : ab_B → ab_B → ab_B) : List ab_V → Option (List ab_V)
  | ((0, b1, b2, _), _) :: ((1, a1, a2, _), _) :: r => some (((1, (ab_bs f rule (a1, a2) (b1, b2)).1, (ab_bs f rule (a1, a2) (b1, b2)).2, []), none) :: r)
  | _ => none
def ab_i2l : List ab_V → Option (List ab_V)
  | ((0, a1, a2, _), o) :: r => some (((1, a1, a2, []), o) :: r)
  | _ => none
def ab_l2i : List ab_V → Option (List ab_V)
  | ((1, a1, a2, _), _) :: r => some (((0, (ab_fit ab_topi (a1, a2)).1, (ab_fit ab_topi (a1, a2)).2, []), none) :: r)
  | _ => none
def ab_itop : List ab_V → Option (List ab_V)
  | ((0, _, _, _), _) :: r => some (((0, ab_topi.1, ab_topi.2, []), none) :: r)
  | _ => none
def ab_k1 (a : ab_V) : Bool := Nat.beq a.1.1 0 || Nat.beq a.1.1 2 || Nat.beq a.1.1 3
def ab_dup : List ab_V → Option (List ab_V)
  | a :: r => if ab_k1 a then some (a :: a :: r) else none
  | _ => none
def ab_dup_x1 : List ab_V → Option (List ab_V)
  | a :: b :: r => if ab_k1 a && ab_k1 b then some (a :: b :: a :: r) else none
  | _ => none
def ab_dup_x2 : List ab_V → Option (List ab_V)
  | a :: b :: d :: r => if ab_k1 a && ab_k1 b && ab_k1 d then some (a :: b :: d :: a :: r) else none
  | _ => none
def ab_dup2 : List ab_V → Option (List ab_V)
  | a :: b :: r => if ab_k1 a && ab_k1 b then some (a :: b :: a :: b :: r) else if Nat.beq a.1.1 1 then some (a :: a :: b :: r) else none
  | a :: r => if Nat.beq a.1.1 1 then some (a :: a :: r) else none
  | _ => none
def ab_dup2_x1 : List ab_V → Option (List ab_V)
  | a :: b :: r => if Nat.beq a.1.1 1 && ab_k1 b then some (a :: b :: a :: r) else none
  | _ => none
def ab_dup2_x2 : List ab_V → Option (List ab_V)
  | a :: b :: d :: r => if Nat.beq a.1.1 1 && ab_k1 b && ab_k1 d then some (a :: b :: d :: a :: r) else none
  | _ => none
def ab_pop : List ab_V → Option (List ab_V)
  | a :: r => if ab_k1 a then some r else none
  | _ => none
def ab_pop2 : List ab_V → Option (List ab_V)
  | a :: r => if Nat.beq a.1.1 1 then some r else none
  | _ => none
def ab_alu (i : Instr) (st : List ab_V) : Option (List ab_V) :=
  match i with
  | .iconst n => some (((0, (Int32.ofInt n).toInt, (Int32.ofInt n).toInt, []), none) :: st)
  | .bipush n => some (((0, ((Int8.ofInt n).toInt32).toInt, ((Int8.ofInt n).toInt32).toInt, []), none) :: st)
  | .sipush n => some (((0, ((Int16.ofInt n).toInt32).toInt, ((Int16.ofInt n).toInt32).toInt, []), none) :: st)
  | .lconst n => some (((1, (Int64.ofNat (n : Nat)).toInt, (Int64.ofNat (n : Nat)).toInt, []), none) :: st)
  | .iadd => ab_ii (fun x y => x + y) (ab_radd ab_topi) st
  | .isub => ab_ii (fun x y => x - y) (ab_rsub ab_topi) st
  | .imul => ab_ii (fun x y => x * y) (ab_rtop ab_topi) st
  | .iand => ab_ii (fun x y => x &&& y) (ab_rand ab_topi) st
  | .ior => ab_ii (fun x y => x ||| y) (ab_rtop ab_topi) st
  | .ixor => ab_ii (fun x y => x ^^^ y) (ab_rtop ab_topi) st
  | .ishl => ab_ii (fun x y => x <<< (y &&& 31)) (ab_rshl ab_topi) st
  | .ishr => ab_ii (fun x y => x >>> (y &&& 31)) (ab_rshr ab_topi) st
  | .iushr => ab_ii (fun x y => (x.toUInt32 >>> (y.toUInt32 &&& Int32.toUInt32 31)).toInt32) (ab_rshr ab_topi) st
  | .ladd => ab_ll (fun x y => x + y) (ab_rtop ab_topl) st
  | .lsub => ab_ll (fun x y => x - y) (ab_rtop ab_topl) st
  | .lmul => ab_ll (fun x y => x * y) (ab_rtop ab_topl) st
  | .land => ab_ll (fun x y => x &&& y) (ab_rand ab_topl) st
  | .lor => ab_ll (fun x y => x ||| y) (ab_rtop ab_topl) st
  | .lxor => ab_ll (fun x y => x ^^^ y) (ab_rtop ab_topl) st
  | .lshl => ab_li (fun x y => x <<< (y.toInt64 &&& 63)) (ab_rshl ab_topl) st
  | .lshr => ab_li (fun x y => x >>> (y.toInt64 &&& 63)) (ab_rtop ab_topl) st
  | .lushr => ab_li (fun x y => (x.toUInt64 >>> (y.toInt64.toUInt64 &&& Int64.toUInt64 63)).toInt64) (ab_rshr ab_topl) st
  | .i2l => ab_i2l st
  | .l2i => ab_l2i st
  | .i2b => ab_itop st
  | .i2s => ab_itop st
  | .ineg => ab_itop st
  | .dup => ab_dup st
  | .dup_x1 => ab_dup_x1 st
  | .dup_x2 => ab_dup_x2 st
  | .dup2 => ab_dup2 st
  | .dup2_x1 => ab_dup2_x1 st
  | .dup2_x2 => ab_dup2_x2 st
  | .pop => ab_pop st
  | .pop2 => ab_pop2 st
  | _ => none
theorem ab_f0 {a1 a2 : Int} {r : List Nat} {v : Value} (h : ab_f (0, a1, a2, r) v) : ∃ x : Int32, v = .int x ∧ ab_in (a1, a2) x.toInt := by
  cases v <;> first | exact ⟨_, rfl, h.2⟩ | (exact absurd h.1 (by decide)) | (exact absurd h (by simp [ab_f]))
theorem ab_f1 {a1 a2 : Int} {r : List Nat} {v : Value} (h : ab_f (1, a1, a2, r) v) : ∃ x : Int64, v = .long x ∧ ab_in (a1, a2) x.toInt := by
  cases v <;> first | exact ⟨_, rfl, h.2⟩ | (exact absurd h.1 (by decide)) | (exact absurd h (by simp [ab_f]))
theorem ab_f2 {a1 a2 : Int} {r : List Nat} {v : Value} (h : ab_f (2, a1, a2, r) v) : ∃ k : Nat, v = .ref k ∧ k ∈ r := by
  cases v <;> first | exact ⟨_, rfl, h.2⟩ | (exact absurd h.1 (by decide)) | (exact absurd h (by simp [ab_f]))
theorem ab_o_none (xs : Nat → Int32) (lv : List (Nat × Value)) (hp : px_H) (v : Value) : ab_o xs lv hp none v := fun l h => by cases h
section ab_s1
variable {xs : Nat → Int32} {lv : List (Nat × Value)} {hp : px_H}
theorem ab_cat1 {a : ab_V} {v : Value} (h : ab_v xs lv hp a v) (hk : ab_k1 a = true) : v.category = 1 := by
  have h1 := h.1
  cases v with
  | long x =>
    have h2 : a.1.1 = 1 := h1.1
    simp [ab_k1, h2] at hk
  | double x => exact absurd h1 (by simp [ab_f])
  | _ => rfl
theorem ab_cat2 {a : ab_V} {v : Value} (h : ab_v xs lv hp a v) (hk : Nat.beq a.1.1 1 = true) : v.category = 2 := by
  have h1 := h.1
  have h3 := Nat.eq_of_beq_eq_true hk
  cases v with
  | long x => rfl
  | int x => have h2 : a.1.1 = 0 := h1.1; omega
  | ref x => have h2 : a.1.1 = 2 := h1.1; omega
  | retAddr x => have h2 : a.1.1 = 3 := h1; omega
  | _ => exact absurd h1 (by simp [ab_f])
theorem ab_st_cons {a : ab_V} {r : List ab_V} {st : List Value} (h : ab_st xs lv hp (a :: r) st) : ∃ v s, st = v :: s ∧ ab_v xs lv hp a v ∧ ab_st xs lv hp r s := by
  cases st with
  | nil => exact absurd h (by simp [ab_st])
  | cons v s => exact ⟨v, s, rfl, h.1, h.2⟩
theorem ab_ii_ok {f : Int32 → Int32 → Int32} {rule : ab_B → ab_B → ab_B} (hr : ∀ (a b : ab_B) (x y : Int32), ab_in a x.toInt → ab_in b y.toInt → ab_in (rule a b) (f x y).toInt) {as as' : List ab_V} {st : List Value} (h : ab_ii f rule as = some as') (hs : ab_st xs lv hp as st) : ∃ st', px_ii f st = some st' ∧ ab_st xs lv hp as' st' := by
  unfold ab_ii at h
  split at h
  · cases h
    obtain ⟨v, s, rfl, h1, hs1⟩ := ab_st_cons hs
    obtain ⟨w, t, rfl, h2, hs2⟩ := ab_st_cons hs1
    obtain ⟨y, rfl, hy⟩ := ab_f0 h1.1
    obtain ⟨x, rfl, hx⟩ := ab_f0 h2.1
    have := ab_bi_ok hr hx hy
    exact ⟨_, rfl, ⟨⟨rfl, this.1, this.2⟩, ab_o_none _ _ _ _⟩, hs2⟩
  · cases h
theorem ab_ll_ok {f : Int64 → Int64 → Int64} {rule : ab_B → ab_B → ab_B} (hr : ∀ (a b : ab_B) (x y : Int64), ab_in a x.toInt → ab_in b y.toInt → ab_in (rule a b) (f x y).toInt) {as as' : List ab_V} {st : List Value} (h : ab_ll f rule as = some as') (hs : ab_st xs lv hp as st) : ∃ st', px_ll f st = some st' ∧ ab_st xs lv hp as' st' := by
  unfold ab_ll at h
  split at h
  · cases h
    obtain ⟨v, s, rfl, h1, hs1⟩ := ab_st_cons hs
    obtain ⟨w, t, rfl, h2, hs2⟩ := ab_st_cons hs1
    obtain ⟨y, rfl, hy⟩ := ab_f1 h1.1
    obtain ⟨x, rfl, hx⟩ := ab_f1 h2.1
    have := ab_bl_ok hr hx hy
    exact ⟨_, rfl, ⟨⟨rfl, this.1, this.2⟩, ab_o_none _ _ _ _⟩, hs2⟩
  · cases h
theorem ab_li_ok {f : Int64 → Int32 → Int64} {rule : ab_B → ab_B → ab_B} (hr : ∀ (a b : ab_B) (x : Int64) (y : Int32), ab_in a x.toInt → ab_in b y.toInt → ab_in (rule a b) (f x y).toInt) {as as' : List ab_V} {st : List Value} (h : ab_li f rule as = some as') (hs : ab_st xs lv hp as st) : ∃ st', px_li f st = some st' ∧ ab_st xs lv hp as' st' := by
  unfold ab_li at h
  split at h
  · cases h
    obtain ⟨v, s, rfl, h1, hs1⟩ := ab_st_cons hs
    obtain ⟨w, t, rfl, h2, hs2⟩ := ab_st_cons hs1
    obtain ⟨y, rfl, hy⟩ := ab_f0 h1.1
    obtain ⟨x, rfl, hx⟩ := ab_f1 h2.1
    have := ab_bs_ok hr hx hy
    exact ⟨_, rfl, ⟨⟨rfl, this.1, this.2⟩, ab_o_none _ _ _ _⟩, hs2⟩
  · cases h
theorem ab_i1_ok {f : Int32 → Value} {g : List ab_V → Option (List ab_V)} (hg : ∀ as as', g as = some as' → ∃ a1 a2 q o a r, as = ((0, a1, a2, q), o) :: r ∧ as' = a :: r ∧ ∀ x : Int32, ab_in (a1, a2) x.toInt → ab_o xs lv hp o (.int x) → ab_v xs lv hp a (f x)) {as as' : List ab_V} {st : List Value} (h : g as = some as') (hs : ab_st xs lv hp as st) : ∃ st', px_i1 f st = some st' ∧ ab_st xs lv hp as' st' := by
  obtain ⟨a1, a2, q, o, a, r, rfl, rfl, hv⟩ := hg _ _ h
  obtain ⟨v, s, rfl, h1, hs1⟩ := ab_st_cons hs
  obtain ⟨x, rfl, hx⟩ := ab_f0 h1.1
  exact ⟨_, rfl, hv x hx h1.2, hs1⟩
set_option maxHeartbeats 4000000 in
theorem ab_alu_ok {i : Instr} {as as' : List ab_V} {st : List Value} (h : ab_alu i as = some as') (hs : ab_st xs lv hp as st) : ∃ st', px_alu i st = some st' ∧ ab_st xs lv hp as' st' := by
  have ref : ∀ z : Int, z ≤ z := fun z => Int.le_refl z
  cases i
  case iconst n => cases h; exact ⟨_, rfl, ⟨⟨rfl, ref _, ref _⟩, ab_o_none _ _ _ _⟩, hs⟩
  case bipush n => cases h; exact ⟨_, rfl, ⟨⟨rfl, ref _, ref _⟩, ab_o_none _ _ _ _⟩, hs⟩
  case sipush n => cases h; exact ⟨_, rfl, ⟨⟨rfl, ref _, ref _⟩, ab_o_none _ _ _ _⟩, hs⟩
  case lconst n => cases h; exact ⟨_, rfl, ⟨⟨rfl, ref _, ref _⟩, ab_o_none _ _ _ _⟩, hs⟩
  case iadd => exact ab_ii_ok ab_add_ok h hs
  case isub => exact ab_ii_ok ab_sub_ok h hs
  case imul => exact ab_ii_ok (ab_rtop_i _) h hs
  case iand => exact ab_ii_ok ab_rand_i h hs
  case ior => exact ab_ii_ok (ab_rtop_i _) h hs
  case ixor => exact ab_ii_ok (ab_rtop_i _) h hs
  case ishl => exact ab_ii_ok ab_rshl_i h hs
  case ishr => exact ab_ii_ok ab_rshr_i h hs
  case iushr => exact ab_ii_ok ab_rush_i h hs
  case ladd => exact ab_ll_ok (ab_rtop_l _) h hs
  case lsub => exact ab_ll_ok (ab_rtop_l _) h hs
  case lmul => exact ab_ll_ok (ab_rtop_l _) h hs
  case land => exact ab_ll_ok ab_rand_l h hs
  case lor => exact ab_ll_ok (ab_rtop_l _) h hs
  case lxor => exact ab_ll_ok (ab_rtop_l _) h hs
  case lshl => exact ab_li_ok ab_rshl_l h hs
  case lshr => exact ab_li_ok (ab_rtop_s _) h hs
  case lushr => exact ab_li_ok ab_rush_l h hs
  case i2l =>
    simp only [ab_alu, ab_i2l] at h
    split at h
    · cases h
      obtain ⟨v, s, rfl, h1, hs1⟩ := ab_st_cons hs
      obtain ⟨x, rfl, hx⟩ := ab_f0 h1.1
      refine ⟨_, rfl, ⟨⟨rfl, by rw [Int32.toInt_toInt64]; exact hx.1, by rw [Int32.toInt_toInt64]; exact hx.2⟩, fun l hl => ?_⟩, hs1⟩
      obtain ⟨w, hw, e⟩ := h1.2 l hl
      exact ⟨w, hw, by rw [e]; simp only [ab_num, Int32.toInt_toInt64]⟩
    · cases h
  case l2i =>
    simp only [ab_alu, ab_l2i] at h
    split at h
    · cases h
      obtain ⟨v, s, rfl, h1, hs1⟩ := ab_st_cons hs
      obtain ⟨x, rfl, hx⟩ := ab_f1 h1.1
      refine ⟨_, rfl, ⟨?_, ab_o_none _ _ _ _⟩, hs1⟩
      have hx1 := hx.1
      have hx2 := hx.2
      unfold ab_fit
      split
      · rename_i hb
        simp only [ab_topi] at hb
        refine ⟨rfl, ?_, ?_⟩ <;> (rw [Int64.toInt_toInt32, ab_bmod32 (by omega) (by omega)]; assumption)
      · exact ⟨rfl, (ab_i32 _).1, (ab_i32 _).2⟩
    · cases h
  case i2b =>
    simp only [ab_alu, ab_itop] at h
    split at h
    · cases h
      obtain ⟨v, s, rfl, h1, hs1⟩ := ab_st_cons hs
      obtain ⟨x, rfl, hx⟩ := ab_f0 h1.1
      exact ⟨_, rfl, ⟨⟨rfl, (ab_i32 _).1, (ab_i32 _).2⟩, ab_o_none _ _ _ _⟩, hs1⟩
    · cases h
  case i2s =>
    simp only [ab_alu, ab_itop] at h
    split at h
    · cases h
      obtain ⟨v, s, rfl, h1, hs1⟩ := ab_st_cons hs
      obtain ⟨x, rfl, hx⟩ := ab_f0 h1.1
      exact ⟨_, rfl, ⟨⟨rfl, (ab_i32 _).1, (ab_i32 _).2⟩, ab_o_none _ _ _ _⟩, hs1⟩
    · cases h
  case ineg =>
    simp only [ab_alu, ab_itop] at h
    split at h
    · cases h
      obtain ⟨v, s, rfl, h1, hs1⟩ := ab_st_cons hs
      obtain ⟨x, rfl, hx⟩ := ab_f0 h1.1
      exact ⟨_, rfl, ⟨⟨rfl, (ab_i32 _).1, (ab_i32 _).2⟩, ab_o_none _ _ _ _⟩, hs1⟩
    · cases h
  case dup =>
    simp only [ab_alu, ab_dup] at h
    split at h
    · split at h
      · rename_i hk
        cases h
        obtain ⟨v, s, rfl, h1, hs1⟩ := ab_st_cons hs
        exact ⟨v :: v :: s, by simp only [px_alu, px_dup, ab_cat1 h1 hk, if_true], h1, h1, hs1⟩
      · cases h
    · cases h
  case dup_x1 =>
    simp only [ab_alu, ab_dup_x1] at h
    split at h
    · split at h
      · rename_i hk
        simp only [Bool.and_eq_true] at hk
        cases h
        obtain ⟨v, s, rfl, h1, hs1⟩ := ab_st_cons hs
        obtain ⟨w, t, rfl, h2, hs2⟩ := ab_st_cons hs1
        exact ⟨v :: w :: v :: t, by simp only [px_alu, px_dup_x1, ab_cat1 h1 hk.1, ab_cat1 h2 hk.2, and_self, if_true], h1, h2, h1, hs2⟩
      · cases h
    · cases h
  case dup_x2 =>
    simp only [ab_alu, ab_dup_x2] at h
    split at h
    · split at h
      · rename_i hk
        simp only [Bool.and_eq_true] at hk
        cases h
        obtain ⟨v, s, rfl, h1, hs1⟩ := ab_st_cons hs
        obtain ⟨w, t, rfl, h2, hs2⟩ := ab_st_cons hs1
        obtain ⟨u, q, rfl, h3, hs3⟩ := ab_st_cons hs2
        exact ⟨v :: w :: u :: v :: q, by simp only [px_alu, px_dup_x2, ab_cat1 h1 hk.1.1, ab_cat1 h2 hk.1.2, ab_cat1 h3 hk.2, and_self, if_true], h1, h2, h3, h1, hs3⟩
      · cases h
    · cases h
  case dup2 =>
    simp only [ab_alu, ab_dup2] at h
    split at h
    · split at h
      · rename_i hk
        simp only [Bool.and_eq_true] at hk
        cases h
        obtain ⟨v, s, rfl, h1, hs1⟩ := ab_st_cons hs
        obtain ⟨w, t, rfl, h2, hs2⟩ := ab_st_cons hs1
        exact ⟨v :: w :: v :: w :: t, by simp only [px_alu, px_dup2, ab_cat1 h1 hk.1, ab_cat1 h2 hk.2, and_self, if_true]; rfl, h1, h2, h1, h2, hs2⟩
      · split at h
        · rename_i hk
          cases h
          obtain ⟨v, s, rfl, h1, hs1⟩ := ab_st_cons hs
          exact ⟨v :: v :: s, by simp only [px_alu, px_dup2, ab_cat2 h1 hk, if_true], h1, h1, hs1⟩
        · cases h
    · split at h
      · rename_i hk
        cases h
        obtain ⟨v, s, rfl, h1, hs1⟩ := ab_st_cons hs
        exact ⟨v :: v :: s, by simp only [px_alu, px_dup2, ab_cat2 h1 hk, if_true], h1, h1, hs1⟩
      · cases h
    · cases h
  case dup2_x1 =>
    simp only [ab_alu, ab_dup2_x1] at h
    split at h
    · split at h
      · rename_i hk
        simp only [Bool.and_eq_true] at hk
        cases h
        obtain ⟨v, s, rfl, h1, hs1⟩ := ab_st_cons hs
        obtain ⟨w, t, rfl, h2, hs2⟩ := ab_st_cons hs1
        exact ⟨v :: w :: v :: t, by simp only [px_alu, px_dup2_x1, ab_cat2 h1 hk.1, ab_cat1 h2 hk.2, and_self, if_true], h1, h2, h1, hs2⟩
      · cases h
    · cases h
  case dup2_x2 =>
    simp only [ab_alu, ab_dup2_x2] at h
    split at h
    · split at h
      · rename_i hk
        simp only [Bool.and_eq_true] at hk
        cases h
        obtain ⟨v, s, rfl, h1, hs1⟩ := ab_st_cons hs
        obtain ⟨w, t, rfl, h2, hs2⟩ := ab_st_cons hs1
        obtain ⟨u, q, rfl, h3, hs3⟩ := ab_st_cons hs2
        exact ⟨v :: w :: u :: v :: q, by simp only [px_alu, px_dup2_x2, ab_cat2 h1 hk.1.1, ab_cat1 h2 hk.1.2, ab_cat1 h3 hk.2, and_self, if_true], h1, h2, h3, h1, hs3⟩
      · cases h
    · cases h
  case pop =>
    simp only [ab_alu, ab_pop] at h
    split at h
    · split at h
      · rename_i hk
        cases h
        obtain ⟨v, s, rfl, h1, hs1⟩ := ab_st_cons hs
        exact ⟨s, by simp only [px_alu, px_pop, ab_cat1 h1 hk, if_true], hs1⟩
      · cases h
    · cases h
  case pop2 =>
    simp only [ab_alu, ab_pop2] at h
    split at h
    · split at h
      · rename_i hk
        cases h
        obtain ⟨v, s, rfl, h1, hs1⟩ := ab_st_cons hs
        exact ⟨s, by simp only [px_alu, px_pop2, ab_cat2 h1 hk, if_true], hs1⟩
      · cases h
    · cases h
  all_goals (simp only [ab_alu] at h; cases h)
end ab_s1
end mg_0

section mg_1
/-! refinement by a place -/
def ab_isn (f : ab_F) : Bool := Nat.beq f.1 0 || Nat.beq f.1 1
def ab_bnd (A : ab_S) (l : ab_L) : Option ab_B :=
  match l with
  | (0, j, _) => match px_find j A.1 with
    | some ((k, a1, a2, _), _) => if Nat.beq k 0 || Nat.beq k 1 then some (a1, a2) else none
    | none => none
  | (1, c, k) => match A.2.2.1[c]? with
    | some (.inl (_, fs)) => match fs[k]? with
      | some (k', a1, a2, _) => if Nat.beq k' 0 || Nat.beq k' 1 then some (a1, a2) else none
      | none => none
    | _ => none
  | (2, j, _) => A.2.2.2[j]?
  | _ => none
def ab_setl (q : ab_B) (j : Nat) (p : Nat × ab_V) : Nat × ab_V := match Nat.beq p.1 j with
  | true => (p.1, ((p.2.1.1, q.1, q.2, p.2.1.2.2.2), p.2.2))
  | false => p
def ab_set (A : ab_S) (l : ab_L) (q : ab_B) : ab_S :=
  match l with
  | (0, j, _) => (A.1.map (ab_setl q j), A.2)
  | (1, c, k) => match A.2.2.1[c]? with
    | some (.inl (ci, fs)) => match fs[k]? with
      | some (k', _, _, r) => (A.1, A.2.1, A.2.2.1.set c (.inl (ci, fs.set k (k', q.1, q.2, r))), A.2.2.2)
      | none => A
    | _ => A
  | (2, j, _) => (A.1, A.2.1, A.2.2.1, A.2.2.2.set j q)
  | _ => A
def ab_meet (a b : ab_B) : ab_B := (max a.1 b.1, min a.2 b.2)
def ab_refine (A : ab_S) (o : Option ab_L) (q : ab_B) : ab_S :=
  match o with
  | none => A
  | some l => match ab_bnd A l with
    | none => A
    | some b => ab_set A l (ab_meet b q)
theorem ab_meet_in {a b : ab_B} {x : Int} (h1 : ab_in a x) (h2 : ab_in b x) : ab_in (ab_meet a b) x := by
  obtain ⟨p1, p2⟩ := h1
  obtain ⟨q1, q2⟩ := h2
  exact ⟨Int.max_le.mpr ⟨p1, q1⟩, Int.le_min.mpr ⟨p2, q2⟩⟩
theorem ab_setl_fst (q : ab_B) (j : Nat) (p : Nat × ab_V) : (ab_setl q j p).1 = p.1 := by
  unfold ab_setl
  split <;> rfl
section ab_s2
variable {xs : Nat → Int32} {lv : List (Nat × Value)} {st : List Value} {hp : px_H} {A : ab_S}
theorem ab_num_f {k : Nat} {a1 a2 : Int} {r : List Nat} {v : Value} {z : Int} (h : ab_f (k, a1, a2, r) v) (hz : ab_num v = some z) : ab_in (a1, a2) z := by
  cases v <;> first | (cases hz; exact h.2) | cases hz
theorem ab_f_num {k : Nat} {a1 a2 b1 b2 : Int} {r : List Nat} {v : Value} {z : Int} (h : ab_f (k, a1, a2, r) v) (hz : ab_num v = some z) (hb : ab_in (b1, b2) z) : ab_f (k, b1, b2, r) v := by
  cases v <;> first | (cases hz; exact ⟨h.1, hb.1, hb.2⟩) | cases hz
theorem ab_num_k {k : Nat} {a1 a2 : Int} {r : List Nat} {v : Value} (h : ab_f (k, a1, a2, r) v) (hk : (Nat.beq k 0 || Nat.beq k 1) = true) : ∃ z, ab_num v = some z := by
  simp only [Bool.or_eq_true] at hk
  rcases hk with hk | hk
  · have := Nat.eq_of_beq_eq_true hk
    subst this
    obtain ⟨x, rfl, -⟩ := ab_f0 h
    exact ⟨_, rfl⟩
  · have := Nat.eq_of_beq_eq_true hk
    subst this
    obtain ⟨x, rfl, -⟩ := ab_f1 h
    exact ⟨_, rfl⟩
/-- the bounds at a place hold -/
theorem ab_bnd_ok (hA : ab_s xs A lv st hp) {l : ab_L} {b : ab_B} (h : ab_bnd A l = some b) {w : Value} (hw : ab_at xs lv hp l = some w) {z : Int} (hz : ab_num w = some z) : ab_in b z := by
  obtain ⟨h1, h2, h3, h4⟩ := hA
  unfold ab_bnd at h
  split at h
  · split at h
    · rename_i j _ k a1 a2 r o hf
      split at h
      · cases h
        obtain ⟨v, hv, hav⟩ := h1 _ _ (px_find_mem hf)
        simp only [ab_at] at hw
        rw [hv] at hw
        cases hw
        exact ab_num_f hav.1 hz
      · cases h
    · cases h
  · split at h
    · rename_i c k ci fs hc
      split at h
      · rename_i k' a1 a2 r hf
        split at h
        · cases h
          simp only [ab_at] at hw
          split at hw
          · rename_i ci' vs hx
            have := h3.2 _ _ _ hc hx
            exact ab_num_f (this.2.2 _ _ _ hf hw) hz
          · cases hw
        · cases h
      · cases h
    · cases h
  · simp only [ab_at] at hw
    cases hw
    cases hz
    exact h4 _ _ h
  · cases h
theorem ab_refine_ok (hA : ab_s xs A lv st hp) {o : Option ab_L} {q : ab_B} (ho : ∀ l, o = some l → ∃ w z, ab_at xs lv hp l = some w ∧ ab_num w = some z ∧ ab_in q z) : ab_s xs (ab_refine A o q) lv st hp := by
  unfold ab_refine
  split
  · exact hA
  · rename_i l
    split
    · exact hA
    · rename_i b hb
      obtain ⟨w, z, hw, hz, hq⟩ := ho l rfl
      have hin := ab_meet_in (ab_bnd_ok hA hb hw hz) hq
      obtain ⟨h1, h2, h3, h4⟩ := hA
      unfold ab_set
      split
      · rename_i j _
        refine ⟨fun j' a ha => ?_, h2, h3, h4⟩
        obtain ⟨⟨j0, a0⟩, hm, he⟩ := List.mem_map.mp ha
        have hj0 : j0 = j' := (ab_setl_fst (ab_meet b q) j (j0, a0)).symm.trans (by rw [he])
        subst hj0
        obtain ⟨v, hv, hav⟩ := h1 _ _ hm
        have ha2 : a = (ab_setl (ab_meet b q) j (j0, a0)).2 := by rw [he]
        subst ha2
        refine ⟨v, hv, ?_⟩
        unfold ab_setl
        split
        · rename_i hj
          have := Nat.eq_of_beq_eq_true hj
          simp only at this
          subst this
          simp only [ab_at] at hw
          rw [hv] at hw
          cases hw
          obtain ⟨⟨k, a1, a2, r⟩, o⟩ := a0
          exact ⟨ab_f_num hav.1 hz hin, hav.2⟩
        · exact hav
      · rename_i c k
        split
        · rename_i ci fs hc
          split
          · rename_i k' a1 a2 r hf
            refine ⟨h1, h2, ⟨by simp only [List.length_set]; exact h3.1, fun n a x ha hx => ?_⟩, h4⟩
            by_cases hn : n = c
            · subst hn
              have hlt : n < A.2.2.1.length := (List.getElem?_eq_some_iff.mp hc).1
              rw [List.getElem?_set_self hlt] at ha
              cases ha
              simp only [ab_at, hx] at hw
              split at hw
              · rename_i ci' vs hx'
                cases hx'
                have h9 := h3.2 _ _ _ hc hx
                refine ⟨h9.1, by rw [List.length_set]; exact h9.2.1, fun m f v hm hv => ?_⟩
                by_cases hmk : m = k
                · subst hmk
                  rw [List.getElem?_set_self (List.getElem?_eq_some_iff.mp hf).1] at hm
                  cases hm
                  rw [hv] at hw
                  cases hw
                  exact ab_f_num (h9.2.2 _ _ _ hf hv) hz hin
                · rw [List.getElem?_set_ne (Ne.symm hmk)] at hm
                  exact h9.2.2 _ _ _ hm hv
              · cases hw
            · rw [List.getElem?_set_ne (Ne.symm hn)] at ha
              exact h3.2 _ _ _ ha hx
          · exact ⟨h1, h2, h3, h4⟩
        · exact ⟨h1, h2, h3, h4⟩
      · rename_i j _
        refine ⟨h1, h2, h3, fun j' q' hq' => ?_⟩
        by_cases hj : j' = j
        · subst hj
          have hlt : j' < A.2.2.2.length := by
            have := (List.getElem?_eq_some_iff.mp hq').1
            rwa [List.length_set] at this
          rw [List.getElem?_set_self hlt] at hq'
          cases hq'
          simp only [ab_at] at hw
          cases hw
          cases hz
          exact hin
        · rw [List.getElem?_set_ne (Ne.symm hj)] at hq'
          exact h4 _ _ hq'
      · exact ⟨h1, h2, h3, h4⟩
end ab_s2
/-! branches -/
def ab_neg (c : ClassFile.Cond) : ClassFile.Cond :=
  match c with
  | .eq => .ne
  | .ne => .eq
  | .lt => .ge
  | .ge => .lt
  | .gt => .le
  | .le => .gt
def ab_rel (c : ClassFile.Cond) (x y : Int) : Prop :=
  match c with
  | .eq => x = y
  | .ne => x ≠ y
  | .lt => x < y
  | .ge => y ≤ x
  | .gt => y < x
  | .le => x ≤ y
def ab_trim (a : ab_B) (v : Int) : ab_B := (if a.1 = v then a.1 + 1 else a.1, if a.2 = v then a.2 - 1 else a.2)
def ab_cnd (c : ClassFile.Cond) (a b : ab_B) : ab_B × ab_B :=
  match c with
  | .eq => (ab_meet a b, ab_meet a b)
  | .ne => (if b.1 = b.2 then ab_trim a b.1 else a, if a.1 = a.2 then ab_trim b a.1 else b)
  | .lt => ((a.1, min a.2 (b.2 - 1)), (max b.1 (a.1 + 1), b.2))
  | .ge => ((max a.1 b.1, a.2), (b.1, min b.2 a.2))
  | .gt => ((max a.1 (b.1 + 1), a.2), (b.1, min b.2 (a.2 - 1)))
  | .le => ((a.1, min a.2 b.2), (max b.1 a.1, b.2))
theorem ab_cnd_ok {c : ClassFile.Cond} {a b : ab_B} {x y : Int} (h : ab_rel c x y) (ha : ab_in a x) (hb : ab_in b y) : ab_in (ab_cnd c a b).1 x ∧ ab_in (ab_cnd c a b).2 y := by
  obtain ⟨a1, a2⟩ := a
  obtain ⟨b1, b2⟩ := b
  simp only [ab_in] at ha hb ⊢
  cases c <;> simp only [ab_rel] at h <;> simp only [ab_cnd, ab_meet, ab_trim]
  · subst h; omega
  · refine ⟨?_, ?_⟩ <;> split <;> (try simp only) <;> (try split) <;> (try split) <;> omega
  · omega
  · omega
  · omega
  · omega
theorem ab_cmp_rel (c : ClassFile.Cond) (x y : Int32) : (px_cmp c x y = true → ab_rel c x.toInt y.toInt) ∧ (px_cmp c x y = false → ab_rel (ab_neg c) x.toInt y.toInt) := by
  cases c <;> simp only [px_cmp, ab_rel, ab_neg, decide_eq_true_eq, decide_eq_false_iff_not, Int32.lt_iff_toInt_lt, Int32.le_iff_toInt_le, ← Int32.toInt_inj] <;> refine ⟨fun h => ?_, fun h => ?_⟩ <;> omega
def ab_if (c : ClassFile.Cond) (x y : ab_V) (A : ab_S) : Option ab_S :=
  let q := ab_cnd c (x.1.2.1, x.1.2.2.1) (y.1.2.1, y.1.2.2.1)
  if q.1.1 ≤ q.1.2 ∧ q.2.1 ≤ q.2.2 then some (ab_refine (ab_refine A x.2 q.1) y.2 q.2) else none
theorem ab_if_ok {xs : Nat → Int32} {lv : List (Nat × Value)} {st : List Value} {hp : px_H} {A : ab_S} (hA : ab_s xs A lv st hp) {c : ClassFile.Cond} {x y : ab_V} {v w : Value} {a b : Int} (hx : ab_v xs lv hp x v) (hy : ab_v xs lv hp y w) (hv : ab_num v = some a) (hw : ab_num w = some b) (hr : ab_rel c a b) : ∃ A', ab_if c x y A = some A' ∧ ab_s xs A' lv st hp := by
  obtain ⟨⟨kx, x1, x2, rx⟩, ox⟩ := x
  obtain ⟨⟨ky, y1, y2, ry⟩, oy⟩ := y
  have h := ab_cnd_ok hr (ab_num_f hx.1 hv) (ab_num_f hy.1 hw)
  unfold ab_if
  simp only
  rw [if_pos ⟨Int.le_trans h.1.1 h.1.2, Int.le_trans h.2.1 h.2.2⟩]
  refine ⟨_, rfl, ab_refine_ok (ab_refine_ok hA ?_) ?_⟩
  · intro l hl
    obtain ⟨u, hu, e⟩ := hx.2 l hl
    exact ⟨u, a, hu, by rw [e, hv], h.1⟩
  · intro l hl
    obtain ⟨u, hu, e⟩ := hy.2 l hl
    exact ⟨u, b, hu, by rw [e, hw], h.2⟩
end mg_1

section mg_2
/-! places that a write touches -/
def ab_kill (P : ab_L → Bool) (a : ab_V) : ab_V :=
  match a.2 with
  | none => a
  | some l => match P l with
    | true => (a.1, none)
    | false => a
def ab_kl (j : Nat) (l : ab_L) : Bool := Nat.beq l.1 0 && (Nat.beq l.2.1 j || (Nat.beq (l.2.1 + 1) j || Nat.beq l.2.1 (j + 1)))
def ab_kf (c k : Nat) (l : ab_L) : Bool := Nat.beq l.1 1 && (Nat.beq l.2.1 c && Nat.beq l.2.2 k)
def ab_sto1 (A : ab_S) (j : Nat) (a : ab_V) (r : List ab_V) : ab_S :=
  ((j, ab_kill (ab_kl j) a) :: (A.1.filter (fun p => !(Nat.beq p.1 j) && !(Nat.beq (p.1 + 1) j && Nat.beq p.2.1.1 1))).map (fun p => (p.1, ab_kill (ab_kl j) p.2)), r.map (ab_kill (ab_kl j)), A.2.2)
def ab_sto2 (A : ab_S) (j : Nat) (a : ab_V) (r : List ab_V) : ab_S :=
  ((j, ab_kill (ab_kl j) a) :: (A.1.filter (fun p => !(Nat.beq p.1 j) && (!(Nat.beq p.1 (j + 1)) && !(Nat.beq (p.1 + 1) j && Nat.beq p.2.1.1 1)))).map (fun p => (p.1, ab_kill (ab_kl j) p.2)), r.map (ab_kill (ab_kl j)), A.2.2)
theorem ab_kill_fst (P : ab_L → Bool) (a : ab_V) : (ab_kill P a).1 = a.1 := by
  unfold ab_kill
  split
  · rfl
  · split <;> rfl
theorem ab_beq_ne {a b : Nat} (h : a ≠ b) : Nat.beq a b = false := by
  cases h' : Nat.beq a b with
  | false => rfl
  | true => exact absurd (Nat.eq_of_beq_eq_true h') h
theorem ab_kind2 {xs : Nat → Int32} {lv : List (Nat × Value)} {hp : px_H} {a : ab_V} {v : Value} (h : ab_v xs lv hp a v) (hc : v.category = 2) : Nat.beq a.1.1 1 = true := by
  have h1 := h.1
  cases v with
  | long x => rw [show a.1.1 = 1 from h1.1]; rfl
  | double x => exact absurd h1 (by simp [ab_f])
  | _ => simp [Value.category] at hc
section ab_s3
variable {xs : Nat → Int32} {lv lv' : List (Nat × Value)} {hp hp' : px_H}
theorem ab_kill_ok {P : ab_L → Bool} (hP : ∀ l w, P l = false → ab_at xs lv hp l = some w → ab_at xs lv' hp' l = some w) {a : ab_V} {v : Value} (h : ab_v xs lv hp a v) : ab_v xs lv' hp' (ab_kill P a) v := by
  refine ⟨by rw [ab_kill_fst]; exact h.1, fun l hl => ?_⟩
  unfold ab_kill at hl
  split at hl
  · rename_i h0
    rw [h0] at hl; cases hl
  · rename_i l0 h0
    split at hl
    · cases hl
    · rename_i hp0
      rw [h0] at hl
      cases hl
      obtain ⟨w, hw, e⟩ := h.2 l h0
      exact ⟨w, hP l w hp0 hw, e⟩
theorem ab_kill_st {P : ab_L → Bool} (hP : ∀ l w, P l = false → ab_at xs lv hp l = some w → ab_at xs lv' hp' l = some w) : ∀ {as : List ab_V} {st : List Value}, ab_st xs lv hp as st → ab_st xs lv' hp' (as.map (ab_kill P)) st := by
  intro as
  induction as with
  | nil => intro st h; cases st <;> first | trivial | exact absurd h (by simp [ab_st])
  | cons a r ih =>
    intro st h
    obtain ⟨v, s, rfl, h1, h2⟩ := ab_st_cons h
    exact ⟨ab_kill_ok hP h1, ih h2⟩
theorem ab_find_filter {α : Type} {p : Nat × α → Bool} {j : Nat} {l : List (Nat × α)} {v : α} (h : px_find j l = some v) (hp : p (j, v) = true) : px_find j (l.filter p) = some v := by
  induction l with
  | nil => cases h
  | cons q r ih =>
    unfold px_find at h
    split at h
    · rename_i hb
      cases h
      have := Nat.eq_of_beq_eq_true hb
      subst this
      rw [List.filter_cons_of_pos hp]
      unfold px_find
      rw [Nat.beq_refl]
    · rename_i hb
      rw [List.filter_cons]
      split
      · unfold px_find
        rw [hb]
        exact ih h
      · exact ih h
end ab_s3
/-- a store of one word -/
theorem ab_sto1_find {lv : List (Nat × Value)} {j m : Nat} {v u : Value} (h : px_find m lv = some u) (h1 : m ≠ j) (h2 : m + 1 = j → u.category ≠ 2) : px_find m (px_st1 lv j v) = some u := by
  unfold px_st1 px_find
  simp only [ab_beq_ne (Ne.symm h1)]
  refine ab_find_filter h ?_
  simp only [Bool.and_eq_true, Bool.not_eq_true', beq_eq_false_iff_ne, Bool.and_eq_false_iff]
  refine ⟨h1, ?_⟩
  by_cases h3 : m + 1 = j
  · exact Or.inr (h2 h3)
  · exact Or.inl h3
theorem ab_sto2_find {lv : List (Nat × Value)} {j m : Nat} {v u : Value} (h : px_find m lv = some u) (h1 : m ≠ j) (h0 : m ≠ j + 1) (h2 : m + 1 = j → u.category ≠ 2) : px_find m (px_st2 lv j v) = some u := by
  unfold px_st2 px_find
  simp only [ab_beq_ne (Ne.symm h1)]
  refine ab_find_filter h ?_
  simp only [Bool.and_eq_true, Bool.not_eq_true', beq_eq_false_iff_ne, Bool.and_eq_false_iff]
  refine ⟨h1, h0, ?_⟩
  by_cases h3 : m + 1 = j
  · exact Or.inr (h2 h3)
  · exact Or.inl h3
theorem ab_kl_at {lv lv' : List (Nat × Value)} {xs : Nat → Int32} {hp : px_H} {j : Nat} (hl : ∀ (m : Nat) (u : Value), m ≠ j → m + 1 ≠ j → m ≠ j + 1 → px_find m lv = some u → px_find m lv' = some u) (l : ab_L) (w : Value) (h : ab_kl j l = false) (ha : ab_at xs lv hp l = some w) : ab_at xs lv' hp l = some w := by
  obtain ⟨k, m, n⟩ := l
  unfold ab_at at ha ⊢
  split at ha
  · rename_i m0 n0 he
    cases he
    simp only [ab_kl, Nat.beq_refl, Bool.true_and, Bool.or_eq_false_iff] at h
    exact hl m w (Nat.ne_of_beq_eq_false h.1) (Nat.ne_of_beq_eq_false h.2.1) (Nat.ne_of_beq_eq_false h.2.2) ha
  · rename_i he; cases he; exact ha
  · rename_i he; cases he; exact ha
  · cases ha
section ab_s4
variable {xs : Nat → Int32} {lv : List (Nat × Value)} {st : List Value} {hp : px_H} {A : ab_S}
theorem ab_sto1_ok (hA : ab_s xs A lv st hp) {a : ab_V} {r : List ab_V} {v : Value} {s : List Value} (hv : ab_v xs lv hp a v) (hr : ab_st xs lv hp r s) (j : Nat) : ab_s xs (ab_sto1 A j a r) (px_st1 lv j v) s hp := by
  obtain ⟨h1, h2, h3, h4⟩ := hA
  have hP := ab_kl_at (xs := xs) (hp := hp) (lv := lv) (lv' := px_st1 lv j v) (j := j) (fun m u q1 q2 q3 q4 => ab_sto1_find q4 q1 (fun e => absurd e q2))
  refine ⟨fun m b hm => ?_, ab_kill_st hP hr, h3, h4⟩
  rcases List.mem_cons.mp hm with he | hm
  · cases he
    refine ⟨v, ?_, ab_kill_ok hP hv⟩
    unfold px_st1 px_find
    rw [Nat.beq_refl]
  · obtain ⟨⟨m0, b0⟩, hf, he⟩ := List.mem_map.mp hm
    cases he
    obtain ⟨hmem, hk⟩ := List.mem_filter.mp hf
    simp only [Bool.and_eq_true, Bool.not_eq_true', Bool.and_eq_false_iff] at hk
    obtain ⟨u, hu, hbu⟩ := h1 _ _ hmem
    refine ⟨u, ab_sto1_find hu (Nat.ne_of_beq_eq_false hk.1) (fun e hc => ?_), ab_kill_ok hP hbu⟩
    rcases hk.2 with h | h
    · exact Nat.ne_of_beq_eq_false h e
    · have := ab_kind2 hbu hc
      rw [this] at h
      cases h
theorem ab_sto2_ok (hA : ab_s xs A lv st hp) {a : ab_V} {r : List ab_V} {v : Value} {s : List Value} (hv : ab_v xs lv hp a v) (hr : ab_st xs lv hp r s) (j : Nat) : ab_s xs (ab_sto2 A j a r) (px_st2 lv j v) s hp := by
  obtain ⟨h1, h2, h3, h4⟩ := hA
  have hP := ab_kl_at (xs := xs) (hp := hp) (lv := lv) (lv' := px_st2 lv j v) (j := j) (fun m u q1 q2 q3 q4 => ab_sto2_find q4 q1 q3 (fun e => absurd e q2))
  refine ⟨fun m b hm => ?_, ab_kill_st hP hr, h3, h4⟩
  rcases List.mem_cons.mp hm with he | hm
  · cases he
    refine ⟨v, ?_, ab_kill_ok hP hv⟩
    unfold px_st2 px_find
    rw [Nat.beq_refl]
  · obtain ⟨⟨m0, b0⟩, hf, he⟩ := List.mem_map.mp hm
    cases he
    obtain ⟨hmem, hk⟩ := List.mem_filter.mp hf
    simp only [Bool.and_eq_true, Bool.not_eq_true', Bool.and_eq_false_iff] at hk
    obtain ⟨u, hu, hbu⟩ := h1 _ _ hmem
    refine ⟨u, ab_sto2_find hu (Nat.ne_of_beq_eq_false hk.1) (Nat.ne_of_beq_eq_false hk.2.1) (fun e hc => ?_), ab_kill_ok hP hbu⟩
    rcases hk.2.2 with h | h
    · exact Nat.ne_of_beq_eq_false h e
    · have := ab_kind2 hbu hc
      rw [this] at h
      cases h
end ab_s4
end mg_2

section mg_3
/-! one step -/
def ab_const (v : Int) : ab_V := ((0, v, v, []), none)
def ab_ld (A : ab_S) (j : Nat) (a : ab_V) : ab_V :=
  match ab_isn a.1 with
  | false => a
  | true => match a.2 with
    | some l => match ab_bnd A l with
      | some b => ((a.1.1, (ab_meet (a.1.2.1, a.1.2.2.1) b).1, (ab_meet (a.1.2.1, a.1.2.2.1) b).2, a.1.2.2.2), some l)
      | none => a
    | none => (a.1, some (0, j, 0))
def ab_tl (l : List ab_V) : List ab_V := l
/-- to a place where the condition holds -/
def ab_to (pc : Nat) (c : ClassFile.Cond) (x y : ab_V) (A : ab_S) : List (Nat × ab_S) := match ab_if c x y A with
  | some A' => [(pc, A')]
  | none => []
def ab_fits (ty : FieldType) (k : Nat) : Bool :=
  match ty with
  | .int => Nat.beq k 0
  | .long => Nat.beq k 1
  | .object _ => Nat.beq k 2
  | .array _ => Nat.beq k 2
  | _ => false
def ab_join (f g : ab_F) : ab_F := (f.1, min f.2.1 g.2.1, max f.2.2.1 g.2.2.1, f.2.2.2 ++ g.2.2.2)
/-- a field's value on the stack: a reference to many cells is taken apart -/
def ab_push (pc : Nat) (A : ab_S) (f : ab_F) (o : Option ab_L) (r : List ab_V) : Option (List (Nat × ab_S)) :=
  match f.1 with
  | 0 => some [(pc, (A.1, (f, o) :: r, A.2.2))]
  | 1 => some [(pc, (A.1, (f, o) :: r, A.2.2))]
  | 2 => some (f.2.2.2.map (fun q => (pc, (A.1, ((2, 0, 0, [q]), none) :: r, A.2.2))))
  | _ => none
def ab_aty (i : Instr) (ty : FieldType) (k : Nat) : Bool :=
  match i, ty with
  | .iaload, .int => Nat.beq k 0
  | .baload, .boolean => Nat.beq k 0
  | .laload, .long => Nat.beq k 1
  | .aaload, .object _ => Nat.beq k 2
  | _, _ => false
def ab_sty (i : Instr) (ty : FieldType) (k : Nat) (v : ab_F) : Bool :=
  match i, ty with
  | .iastore, .int => Nat.beq k 0 && Nat.beq v.1 0
  | .bastore, .boolean => Nat.beq k 0 && (Nat.beq v.1 0 && (decide (0 ≤ v.2.1) && decide (v.2.2.1 ≤ 1)))
  | .lastore, .long => Nat.beq k 1 && Nat.beq v.1 1
  | _, _ => false
def ab_aload (T : px_T) (L : Option Nat) (i : Instr) (pc : Nat) (A : ab_S) : Option (List (Nat × ab_S)) :=
  match A.2.1 with
  | ((0, i1, i2, _), _) :: ((3, _), _) :: r => match i, L with
    | .iaload, some L => match A.2.2.2[i1.toNat]?, decide (i1 = i2), decide (0 ≤ i1), decide (i1 < L) with
      | some b, true, true, true => some [(pc, (A.1, ((0, b.1, b.2, []), some (2, i1.toNat, 0)) :: r, A.2.2))]
      | _, _, _, _ => none
    | _, _ => none
  | ((0, i1, i2, _), _) :: ((2, _, _, [c]), _) :: r => match A.2.2.1[c]? with
    | some (.inr (t, n, f)) => match T.1[t]? with
      | some ty => match ab_aty i ty f.1, decide (0 ≤ i1), decide (i2 < n) with
        | true, true, true => ab_push pc A f none r
        | _, _, _ => none
      | none => none
    | _ => none
  | _ => none
def ab_astore (T : px_T) (i : Instr) (pc : Nat) (A : ab_S) : Option (List (Nat × ab_S)) :=
  match A.2.1 with
  | v :: ((0, i1, i2, _), _) :: ((2, _, _, [c]), _) :: r => match A.2.2.1[c]? with
    | some (.inr (t, n, f)) => match T.1[t]? with
      | some ty => match ab_sty i ty f.1 v.1, decide (0 ≤ i1), decide (i2 < n) with
        | true, true, true => some [(pc, (A.1, r, A.2.2.1.set c (.inr (t, n, ab_join f v.1)), A.2.2.2))]
        | _, _, _ => none
      | none => none
    | _ => none
  | _ => none
def ab_step (T : px_T) (L : Option Nat) (M : px_M) (pc : Nat) (A : ab_S) : Option (List (Nat × ab_S)) :=
  match px_find pc (px_cd M) with
  | none => none
  | some (len, i) =>
    match ab_alu i A.2.1 with
    | some st' => some [(pc + len, (A.1, st', A.2.2))]
    | none =>
      let ldn (j k : Nat) : Option (List (Nat × ab_S)) := match px_find j A.1 with
        | some a => match Nat.beq a.1.1 k with
          | true => some [(pc + len, (A.1, ab_ld A j a :: A.2.1, A.2.2))]
          | false => none
        | none => none
      let lda (j : Nat) : Option (List (Nat × ab_S)) := match px_find j A.1 with
        | some a => match Nat.beq a.1.1 2 || Nat.beq a.1.1 3 with
          | true => some [(pc + len, (A.1, (a.1, none) :: A.2.1, A.2.2))]
          | false => none
        | none => none
      let st1 (j k : Nat) : Option (List (Nat × ab_S)) := match A.2.1 with
        | a :: r => match Nat.beq a.1.1 k && decide (j < px_ml M) with
          | true => some [(pc + len, ab_sto1 A j a r)]
          | false => none
        | [] => none
      let st2 (j : Nat) : Option (List (Nat × ab_S)) := match A.2.1 with
        | a :: r => match Nat.beq a.1.1 1 && decide (j + 1 < px_ml M) with
          | true => some [(pc + len, ab_sto2 A j a r)]
          | false => none
        | [] => none
      match i with
      | .iload j => ldn j 0
      | .iload_n j => ldn j 0
      | .lload j => ldn j 1
      | .lload_n j => ldn j 1
      | .aload j => lda j
      | .aload_n j => lda j
      | .istore j => st1 j 0
      | .istore_n j => st1 j 0
      | .astore j => st1 j 2
      | .astore_n j => st1 j 2
      | .lstore j => st2 j
      | .lstore_n j => st2 j
      | .iinc j n => match px_find j A.1, decide (j < px_ml M) with
        | some ((0, a1, a2, _), _), true => some [(pc + len, ab_sto1 A j ((0, (ab_bi (fun x y => x + y) (ab_radd ab_topi) (a1, a2) ((Int32.ofInt n).toInt, (Int32.ofInt n).toInt)).1, (ab_bi (fun x y => x + y) (ab_radd ab_topi) (a1, a2) ((Int32.ofInt n).toInt, (Int32.ofInt n).toInt)).2, []), none) A.2.1)]
        | _, _ => none
      | .ifCond c off => match A.2.1 with
        | ((0, x), o) :: r => some (ab_to (px_tgt pc off) c ((0, x), o) (ab_const 0) (A.1, r, A.2.2) ++ ab_to (pc + 3) (ab_neg c) ((0, x), o) (ab_const 0) (A.1, r, A.2.2))
        | _ => none
      | .if_icmp c off => match A.2.1 with
        | ((0, y), o') :: ((0, x), o) :: r => some (ab_to (px_tgt pc off) c ((0, x), o) ((0, y), o') (A.1, r, A.2.2) ++ ab_to (pc + 3) (ab_neg c) ((0, x), o) ((0, y), o') (A.1, r, A.2.2))
        | _ => none
      | .goto off => some [(px_tgt pc off, A)]
      | .ldc idx => match px_find idx (px_cp M) with
        | some (3, _, _, v) => some [(pc + len, (A.1, ab_const (Int32.ofInt v).toInt :: A.2.1, A.2.2))]
        | _ => none
      | .ldc_w idx => match px_find idx (px_cp M) with
        | some (3, _, _, v) => some [(pc + len, (A.1, ab_const (Int32.ofInt v).toInt :: A.2.1, A.2.2))]
        | _ => none
      | .ldc2_w idx => match px_find idx (px_cp M) with
        | some (4, _, _, v) => some [(pc + len, (A.1, ((1, (Int64.ofInt v).toInt, (Int64.ofInt v).toInt, []), none) :: A.2.1, A.2.2))]
        | _ => none
      | .tableswitch dflt lo hi offs => match A.2.1 with
        | ((0, x), o) :: r => match decide (offs.size = (hi - lo + 1).toNat) with
          | true => some ((List.range offs.size).flatMap (fun (t : Nat) => match offs[t]? with
              | some off => ab_to (px_tgt pc off) .eq ((0, x), o) (ab_const (lo + (t : Int))) (A.1, r, A.2.2)
              | none => []) ++ (ab_to (px_tgt pc dflt) .lt ((0, x), o) (ab_const lo) (A.1, r, A.2.2) ++ ab_to (px_tgt pc dflt) .gt ((0, x), o) (ab_const hi) (A.1, r, A.2.2)))
          | false => none
        | _ => none
      | .getfield idx => match px_find idx (px_cp M), A.2.1 with
        | some (0, ci, k, _), ((2, _, _, [c]), _) :: r => match A.2.2.1[c]? with
          | some (.inl (ci', fs)) => match Nat.beq ci' ci, fs[k]? with
            | true, some f => ab_push (pc + len) A f (some (1, c, k)) r
            | _, _ => none
          | _ => none
        | _, _ => none
      | .putfield idx => match px_find idx (px_cp M), A.2.1 with
        | some (0, ci, k, fl), a :: ((2, _, _, [c]), _) :: r => match A.2.2.1[c]?, T.2[ci]? with
          | some (.inl (ci', fs)), some (_, tys) => match Nat.beq ci' ci, tys[k]?, decide (k < fs.length), decide (fl ≤ 2) with
            | true, some ty, true, true => match ab_fits ty a.1.1 with
              | true => some [(pc + len, (A.1.map (fun p => (p.1, ab_kill (ab_kf c k) p.2)), r.map (ab_kill (ab_kf c k)), A.2.2.1.set c (.inl (ci, fs.set k a.1)), A.2.2.2))]
              | false => none
            | _, _, _, _ => none
          | _, _ => none
        | _, _ => none
      | .arraylength => match A.2.1 with
        | ((3, _), _) :: r => match L with
          | some L => some [(pc + len, (A.1, ab_const (Int32.ofNat L).toInt :: r, A.2.2))]
          | none => none
        | ((2, _, _, [c]), _) :: r => match A.2.2.1[c]? with
          | some (.inr (t, n, _)) => match T.1[t]? with
            | some _ => some [(pc + len, (A.1, ab_const (Int32.ofNat n).toInt :: r, A.2.2))]
            | none => none
          | _ => none
        | _ => none
      | .iaload => ab_aload T L i (pc + len) A
      | .baload => ab_aload T L i (pc + len) A
      | .laload => ab_aload T L i (pc + len) A
      | .aaload => ab_aload T L i (pc + len) A
      | .iastore => ab_astore T i (pc + len) A
      | .bastore => ab_astore T i (pc + len) A
      | .lastore => ab_astore T i (pc + len) A
      | .lcmp => match A.2.1, px_find (pc + len) (px_cd M) with
        | ((1, y), o') :: ((1, x), o) :: r, some (3, .ifCond c off) => some (ab_to (px_tgt (pc + len) off) c ((1, x), o) ((1, y), o') (A.1, r, A.2.2) ++ ab_to (pc + len + 3) (ab_neg c) ((1, x), o) ((1, y), o') (A.1, r, A.2.2))
        | _, _ => none
      | _ => none
def px_its (T : px_T) (X : Option (Nat × (Nat → Int32))) (P : List px_M) (call : Nat → List Value → px_H → Option px_A) (M : px_M) (N0 : Nat) : Nat → px_S → Option px_S
  | 0, S => some S
  | k + 1, S => match px_step T X P call M N0 S with
    | some (.inl S') => px_its T X P call M N0 k S'
    | _ => none
end mg_3

section mg_4
section ab_s5
variable {xs : Nat → Int32} {lv : List (Nat × Value)} {st : List Value} {hp : px_H} {A : ab_S} {T : px_T} {X : Option (Nat × (Nat → Int32))} {P : List px_M} {M : px_M} {pc : Nat} {outs : List (Nat × ab_S)}
/-- the pure machine comes to a state that one of these holds -/
def ab_R (T : px_T) (X : Option (Nat × (Nat → Int32))) (P : List px_M) (M : px_M) (xs : Nat → Int32) (pc : Nat) (lv : List (Nat × Value)) (st : List Value) (hp : px_H) (outs : List (Nat × ab_S)) : Prop :=
  ∃ (pc' : Nat) (lv' : List (Nat × Value)) (st' : List Value) (hp' : px_H) (A' : ab_S), (pc', A') ∈ outs ∧ ab_s xs A' lv' st' hp' ∧ ∃ k : Nat, ∀ (call : Nat → List Value → px_H → Option px_A) (N0 nc ns : Nat), px_its T X P call M N0 k (pc, lv, st, hp, nc, ns) = some (pc', lv', st', hp', nc, ns)
theorem ab_one {pc' : Nat} {lv' : List (Nat × Value)} {st' : List Value} {hp' : px_H} {A' : ab_S} (hm : (pc', A') ∈ outs) (hA : ab_s xs A' lv' st' hp') (h : ∀ (call : Nat → List Value → px_H → Option px_A) (N0 nc ns : Nat), px_step T X P call M N0 (pc, lv, st, hp, nc, ns) = some (.inl (pc', lv', st', hp', nc, ns))) : ab_R T X P M xs pc lv st hp outs :=
  ⟨pc', lv', st', hp', A', hm, hA, 1, fun call N0 nc ns => by simp only [px_its, h]⟩
theorem ab_ld_ok (hA : ab_s xs A lv st hp) {j : Nat} {a : ab_V} {v : Value} (hv : px_find j lv = some v) (hav : ab_v xs lv hp a v) : ab_v xs lv hp (ab_ld A j a) v := by
  unfold ab_ld
  split
  · exact hav
  · rename_i hn
    split
    · rename_i l hl
      split
      · rename_i b hb
        obtain ⟨⟨k, a1, a2, r⟩, o⟩ := a
        obtain ⟨z, hz⟩ := ab_num_k hav.1 hn
        obtain ⟨w, hw, e⟩ := hav.2 l hl
        have h1 := ab_meet_in (ab_num_f hav.1 hz) (ab_bnd_ok hA hb hw (by rw [e]; exact hz))
        refine ⟨ab_f_num hav.1 hz h1, fun l' hl' => ?_⟩
        cases hl'
        exact ⟨w, hw, e⟩
      · exact hav
    · refine ⟨hav.1, fun l hl => ?_⟩
      cases hl
      exact ⟨v, hv, rfl⟩
theorem ab_push_ok (hA : ab_s xs A lv st hp) {f : ab_F} {o : Option ab_L} {r : List ab_V} {v : Value} {s : List Value} {q : Nat} (h : ab_push q A f o r = some outs) (hf : ab_f f v) (ho : ab_o xs lv hp o v) (hr : ab_st xs lv hp r s) : ∃ A', (q, A') ∈ outs ∧ ab_s xs A' lv (v :: s) hp := by
  obtain ⟨h1, h2, h3, h4⟩ := hA
  unfold ab_push at h
  split at h
  · cases h; exact ⟨_, List.mem_singleton.mpr rfl, h1, ⟨⟨hf, ho⟩, hr⟩, h3, h4⟩
  · cases h; exact ⟨_, List.mem_singleton.mpr rfl, h1, ⟨⟨hf, ho⟩, hr⟩, h3, h4⟩
  · rename_i hk
    cases h
    obtain ⟨k, a1, a2, rs⟩ := f
    simp only at hk
    subst hk
    obtain ⟨c, rfl, hc⟩ := ab_f2 hf
    exact ⟨_, List.mem_map.mpr ⟨c, hc, rfl⟩, h1, ⟨⟨⟨rfl, List.mem_singleton.mpr rfl⟩, ab_o_none _ _ _ _⟩, hr⟩, h3, h4⟩
  · cases h
theorem ab_to_ok (hA : ab_s xs A lv st hp) {c : ClassFile.Cond} {x y : ab_V} {v w : Value} {a b : Int} (hx : ab_v xs lv hp x v) (hy : ab_v xs lv hp y w) (hv : ab_num v = some a) (hw : ab_num w = some b) (hr : ab_rel c a b) (q : Nat) : ∃ A', (q, A') ∈ ab_to q c x y A ∧ ab_s xs A' lv st hp := by
  obtain ⟨A', h1, h2⟩ := ab_if_ok hA hx hy hv hw hr
  refine ⟨A', ?_, h2⟩
  unfold ab_to
  rw [h1]
  exact List.mem_singleton.mpr rfl
theorem ab_const_ok (v : Int32) : ab_v xs lv hp (ab_const v.toInt) (.int v) := ⟨⟨rfl, Int.le_refl _, Int.le_refl _⟩, ab_o_none _ _ _ _⟩
theorem ab_ref1 {a1 a2 : Int} {c : Nat} {o : Option ab_L} {v : Value} (h : ab_v xs lv hp ((2, a1, a2, [c]), o) v) : v = .ref c := by
  obtain ⟨k, rfl, hk⟩ := ab_f2 h.1
  rw [List.mem_singleton.mp hk]
theorem ab_cell (hA : ab_h A.2.2.1 hp) {c : Nat} {a : ab_C} (h : A.2.2.1[c]? = some a) : ∃ x, hp[c]? = some x ∧ ab_c a x := by
  have hlt := (List.getElem?_eq_some_iff.mp h).1
  rw [hA.1] at hlt
  exact ⟨hp[c], List.getElem?_eq_getElem hlt, hA.2 _ _ _ h (List.getElem?_eq_getElem hlt)⟩
theorem ab_obj (hA : ab_h A.2.2.1 hp) {c ci : Nat} {fs : List ab_F} (h : A.2.2.1[c]? = some (.inl (ci, fs))) : ∃ vs, hp[c]? = some (.inr (ci, vs)) ∧ fs.length = vs.length ∧ ∀ (k : Nat) (f : ab_F) (v : Value), fs[k]? = some f → vs[k]? = some v → ab_f f v := by
  obtain ⟨x, hx, hc⟩ := ab_cell hA h
  cases x with
  | inl q => exact absurd hc (by simp [ab_c])
  | inr q =>
    obtain ⟨ci', vs⟩ := q
    obtain ⟨rfl, h1, h2⟩ := hc
    exact ⟨vs, hx, h1, h2⟩
theorem ab_fits_ok {ty : FieldType} {a : ab_F} {v : Value} (h : ab_fits ty a.1 = true) (hv : ab_f a v) : px_fits ty v = true := by
  obtain ⟨k, a1, a2, r⟩ := a
  unfold ab_fits at h
  split at h
  · have := Nat.eq_of_beq_eq_true h; simp only at this; subst this; obtain ⟨x, rfl, -⟩ := ab_f0 hv; rfl
  · have := Nat.eq_of_beq_eq_true h; simp only at this; subst this; obtain ⟨x, rfl, -⟩ := ab_f1 hv; rfl
  · have := Nat.eq_of_beq_eq_true h; simp only at this; subst this; obtain ⟨x, rfl, -⟩ := ab_f2 hv; rfl
  · have := Nat.eq_of_beq_eq_true h; simp only at this; subst this; obtain ⟨x, rfl, -⟩ := ab_f2 hv; rfl
  · cases h
/-- a heap whose cell was set, seen by its places -/
theorem ab_at_set {c : Nat} {x : px_E} (hx : hp[c]? = some x) {l : ab_L} {w : Value} (hl : ab_at xs lv hp l = some w) {ci k : Nat} {vs : List Value} {u : Value} (hc : x = .inr (ci, vs)) (hk : ab_kf c k l = false) : ab_at xs lv (hp.set c (.inr (ci, vs.set k u))) l = some w := by
  obtain ⟨q, m, n⟩ := l
  have hlt := (List.getElem?_eq_some_iff.mp hx).1
  unfold ab_at at hl ⊢
  split at hl
  · rename_i he; cases he; exact hl
  · rename_i m0 n0 he
    cases he
    by_cases hm : m = c
    · subst hm
      rw [hx, hc] at hl
      simp only at hl
      rw [List.getElem?_set_self hlt]
      simp only
      simp only [ab_kf, Nat.beq_refl, Bool.true_and] at hk
      rw [List.getElem?_set_ne (Ne.symm (Nat.ne_of_beq_eq_false hk))]
      exact hl
    · rw [List.getElem?_set_ne (Ne.symm hm)]
      exact hl
  · rename_i he; cases he; exact hl
  · cases hl
theorem ab_at_arr {c : Nat} {x y : Nat × vp_A} (hx : hp[c]? = some (.inl x)) {l : ab_L} {w : Value} (hl : ab_at xs lv hp l = some w) : ab_at xs lv (hp.set c (.inl y)) l = some w := by
  obtain ⟨q, m, n⟩ := l
  unfold ab_at at hl ⊢
  split at hl
  · rename_i he; cases he; exact hl
  · rename_i m0 n0 he
    cases he
    by_cases hm : m = c
    · subst hm
      rw [hx] at hl
      cases hl
    · rw [List.getElem?_set_ne (Ne.symm hm)]
      exact hl
  · rename_i he; cases he; exact hl
  · cases hl
end ab_s5
end mg_4

section mg_5
section ab_s6
variable {xs : Nat → Int32} {lv : List (Nat × Value)} {st : List Value} {hp : px_H} {A : ab_S} {T : px_T} {X : Option (Nat × (Nat → Int32))} {P : List px_M} {M : px_M} {pc : Nat} {outs : List (Nat × ab_S)} {L : Option Nat}
theorem ab_k0 {k : Nat} {a1 a2 : Int} {r : List Nat} {v : Value} (hk : Nat.beq k 0 = true) (h : ab_f (k, a1, a2, r) v) : ∃ x : Int32, v = .int x ∧ ab_in (a1, a2) x.toInt := by
  have := Nat.eq_of_beq_eq_true hk
  subst this
  exact ab_f0 h
theorem ab_k1' {k : Nat} {a1 a2 : Int} {r : List Nat} {v : Value} (hk : Nat.beq k 1 = true) (h : ab_f (k, a1, a2, r) v) : ∃ x : Int64, v = .long x ∧ ab_in (a1, a2) x.toInt := by
  have := Nat.eq_of_beq_eq_true hk
  subst this
  exact ab_f1 h
theorem ab_k2 {k : Nat} {a1 a2 : Int} {r : List Nat} {v : Value} (hk : Nat.beq k 2 = true) (h : ab_f (k, a1, a2, r) v) : ∃ c : Nat, v = .ref c ∧ c ∈ r := by
  have := Nat.eq_of_beq_eq_true hk
  subst this
  exact ab_f2 h
theorem ab_inR {i1 i2 : Int} {j : Int32} {n : Nat} (hj : ab_in (i1, i2) j.toInt) (h0 : decide (0 ≤ i1) = true) (h1 : decide (i2 < (n : Int)) = true) : px_inR j n = true ∧ j.toNatClampNeg < n := by
  have a0 := of_decide_eq_true h0
  have a1 := of_decide_eq_true h1
  have b0 := hj.1
  have b1 := hj.2
  simp only at b0 b1
  refine ⟨?_, ?_⟩
  · simp only [px_inR, Bool.and_eq_true, decide_eq_true_eq]
    omega
  · have : j.toNatClampNeg = j.toInt.toNat := rfl
    omega
theorem ab_aload_ok (hA : ab_s xs A lv st hp) (hX : ∀ n, L = some n → X = some (n, xs)) {i : Instr} {q : Nat} (h : ab_aload T L i q A = some outs) : ∃ (j : Int32) (a : Value) (s : List Value) (v : Value) (A' : ab_S), st = .int j :: a :: s ∧ px_ald T X i hp a j = some v ∧ (q, A') ∈ outs ∧ ab_s xs A' lv (v :: s) hp := by
  obtain ⟨h1, h2, h3, h4⟩ := id hA
  unfold ab_aload at h
  split at h
  · rename_i i1 i2 r0 o0 x3 o3 r hst
    rw [hst] at h2
    obtain ⟨v1, s1, rfl, g1, k1⟩ := ab_st_cons h2
    obtain ⟨v2, s2, rfl, g2, k2⟩ := ab_st_cons k1
    obtain ⟨j, rfl, hj⟩ := ab_f0 g1.1
    have hv2 : ∃ z, v2 = .retAddr z := by
      have := g2.1
      cases v2 <;> first | exact ⟨_, rfl⟩ | (exact absurd this.1 (by decide)) | (exact absurd this (by simp [ab_f]))
    obtain ⟨z, rfl⟩ := hv2
    split at h
    · rename_i n
      split at h
      · rename_i b e1 e2 e3 e4
        cases h
        have d2 := of_decide_eq_true e2
        have d3 := of_decide_eq_true e3
        have d4 := of_decide_eq_true e4
        have b0 := hj.1
        have b1 := hj.2
        simp only at b0 b1
        have hjn : j.toNatClampNeg = i1.toNat := by
          have : j.toNatClampNeg = j.toInt.toNat := rfl
          rw [this]
          congr 1
          omega
        have hb := h4 _ _ e1
        refine ⟨j, .retAddr z, s2, .int (xs i1.toNat), _, rfl, ?_, List.mem_singleton.mpr rfl, h1, ⟨⟨⟨rfl, hb.1, hb.2⟩, fun l hl => ?_⟩, k2⟩, h3, h4⟩
        · have hin : px_inR j n = true := by
            simp only [px_inR, Bool.and_eq_true, decide_eq_true_eq]
            omega
          simp only [px_ald, hX n rfl, hin, hjn]
        · cases hl
          exact ⟨_, rfl, rfl⟩
      · cases h
    · cases h
  · rename_i i1 i2 r0 o0 c1 c2 c o3 r hst
    rw [hst] at h2
    obtain ⟨v1, s1, rfl, g1, k1⟩ := ab_st_cons h2
    obtain ⟨v2, s2, rfl, g2, k2⟩ := ab_st_cons k1
    obtain ⟨j, rfl, hj⟩ := ab_f0 g1.1
    have hv2 := ab_ref1 g2
    subst hv2
    split at h
    · rename_i t n f hc
      split at h
      · rename_i ty hty
        split at h
        · rename_i e1 e2 e3
          obtain ⟨hin, hlt⟩ := ab_inR hj e2 e3
          obtain ⟨x, hx, hxc⟩ := ab_cell h3 hc
          cases x with
          | inr q9 => exact absurd hxc (by simp [ab_c])
          | inl q9 =>
            obtain ⟨t', n', cont⟩ := q9
            obtain ⟨rfl, rfl, hall⟩ := hxc
            have hel := hall _ hlt
            unfold ab_aty at e1
            split at e1
            · cases cont with
              | inl g =>
                simp only at hel
                obtain ⟨A', m1, m2⟩ := ab_push_ok hA h hel (ab_o_none _ _ _ _) k2
                exact ⟨j, _, s2, _, A', rfl, by simp only [px_ald, hx, hin, hty], m1, m2⟩
              | inr g =>
                exfalso
                rcases g with g | g | g | g
                · simp only at hel; exact absurd hel.1 (by rw [Nat.eq_of_beq_eq_true e1]; decide)
                · exact hel
                · exact hel
                · simp only at hel; obtain ⟨q8, -, hq⟩ := hel; exact absurd hq.1 (by rw [Nat.eq_of_beq_eq_true e1]; decide)
            · cases cont with
              | inl g =>
                simp only at hel
                obtain ⟨A', m1, m2⟩ := ab_push_ok hA h hel (ab_o_none _ _ _ _) k2
                exact ⟨j, _, s2, _, A', rfl, by simp only [px_ald, hx, hin, hty], m1, m2⟩
              | inr g =>
                exfalso
                rcases g with g | g | g | g
                · simp only at hel; exact absurd hel.1 (by rw [Nat.eq_of_beq_eq_true e1]; decide)
                · exact hel
                · exact hel
                · simp only at hel; obtain ⟨q8, -, hq⟩ := hel; exact absurd hq.1 (by rw [Nat.eq_of_beq_eq_true e1]; decide)
            · cases cont with
              | inl g => simp only at hel; exact absurd hel.1 (by rw [Nat.eq_of_beq_eq_true e1]; decide)
              | inr g =>
                rcases g with g | g | g | g
                · simp only at hel
                  obtain ⟨A', m1, m2⟩ := ab_push_ok hA h hel (ab_o_none _ _ _ _) k2
                  exact ⟨j, _, s2, _, A', rfl, by simp only [px_ald, hx, hin, hty], m1, m2⟩
                · exact absurd hel (by simp)
                · exact absurd hel (by simp)
                · simp only at hel; obtain ⟨q8, -, hq⟩ := hel; exact absurd hq.1 (by rw [Nat.eq_of_beq_eq_true e1]; decide)
            · cases cont with
              | inl g => simp only at hel; exact absurd hel.1 (by rw [Nat.eq_of_beq_eq_true e1]; decide)
              | inr g =>
                rcases g with g | g | g | g
                · simp only at hel; exact absurd hel.1 (by rw [Nat.eq_of_beq_eq_true e1]; decide)
                · exact absurd hel (by simp)
                · exact absurd hel (by simp)
                · simp only at hel
                  obtain ⟨q8, hg, hq⟩ := hel
                  obtain ⟨A', m1, m2⟩ := ab_push_ok hA h hq (ab_o_none _ _ _ _) k2
                  exact ⟨j, _, s2, _, A', rfl, by simp only [px_ald, hx, hin, hty, hg], m1, m2⟩
            · cases e1
        · cases h
      · cases h
    · cases h
  · cases h
theorem ab_join_l {f g : ab_F} {v : Value} (h : ab_f f v) : ab_f (ab_join f g) v := by
  cases v with
  | int x => exact ⟨h.1, Int.le_trans (Int.min_le_left _ _) h.2.1, Int.le_trans h.2.2 (Int.le_max_left _ _)⟩
  | long x => exact ⟨h.1, Int.le_trans (Int.min_le_left _ _) h.2.1, Int.le_trans h.2.2 (Int.le_max_left _ _)⟩
  | ref k => exact ⟨h.1, List.mem_append_left _ h.2⟩
  | retAddr k => exact h
  | _ => exact absurd h (by simp [ab_f])
theorem ab_join_r {f g : ab_F} {v : Value} (hk : f.1 = g.1) (h : ab_f g v) : ab_f (ab_join f g) v := by
  cases v with
  | int x => exact ⟨hk.trans h.1, Int.le_trans (Int.min_le_right _ _) h.2.1, Int.le_trans h.2.2 (Int.le_max_right _ _)⟩
  | long x => exact ⟨hk.trans h.1, Int.le_trans (Int.min_le_right _ _) h.2.1, Int.le_trans h.2.2 (Int.le_max_right _ _)⟩
  | ref k => exact ⟨hk.trans h.1, List.mem_append_right _ h.2⟩
  | retAddr k => exact hk.trans h
  | _ => exact absurd h (by simp [ab_f])
theorem ab_v_mono {lv lv' : List (Nat × Value)} {hp hp' : px_H} (hP : ∀ l w, ab_at xs lv hp l = some w → ab_at xs lv' hp' l = some w) {a : ab_V} {v : Value} (h : ab_v xs lv hp a v) : ab_v xs lv' hp' a v :=
  ⟨h.1, fun l hl => by obtain ⟨w, hw, e⟩ := h.2 l hl; exact ⟨w, hP l w hw, e⟩⟩
theorem ab_st_mono {lv lv' : List (Nat × Value)} {hp hp' : px_H} (hP : ∀ l w, ab_at xs lv hp l = some w → ab_at xs lv' hp' l = some w) : ∀ {as : List ab_V} {st : List Value}, ab_st xs lv hp as st → ab_st xs lv' hp' as st := by
  intro as
  induction as with
  | nil => intro st h; cases st <;> first | trivial | exact absurd h (by simp [ab_st])
  | cons a r ih =>
    intro st h
    obtain ⟨v, s, rfl, h1, h2⟩ := ab_st_cons h
    exact ⟨ab_v_mono hP h1, ih h2⟩
/-- an array's cell set anew -/
theorem ab_set_arr (hA : ab_s xs A lv st hp) {c t n : Nat} {f f' : ab_F} {y : Nat × vp_A} {x : Nat × vp_A} (hx : hp[c]? = some (.inl x)) (hc : A.2.2.1[c]? = some (.inr (t, n, f))) (hy : ab_c (.inr (t, n, f')) (.inl y)) {r : List ab_V} {s : List Value} (hr : ab_st xs lv hp r s) : ab_s xs (A.1, r, A.2.2.1.set c (.inr (t, n, f')), A.2.2.2) lv s (hp.set c (.inl y)) := by
  obtain ⟨h1, h2, h3, h4⟩ := hA
  have hP : ∀ l w, ab_at xs lv hp l = some w → ab_at xs lv (hp.set c (.inl y)) l = some w := fun l w hl => ab_at_arr hx hl
  refine ⟨fun j a hm => ?_, ab_st_mono hP hr, ⟨by simp only [List.length_set]; exact h3.1, fun k a z ha hz => ?_⟩, h4⟩
  · obtain ⟨v, hv, hav⟩ := h1 j a hm
    exact ⟨v, hv, ab_v_mono hP hav⟩
  · by_cases hk : k = c
    · subst hk
      rw [List.getElem?_set_self (List.getElem?_eq_some_iff.mp hc).1] at ha
      rw [List.getElem?_set_self (List.getElem?_eq_some_iff.mp hx).1] at hz
      cases ha
      cases hz
      exact hy
    · rw [List.getElem?_set_ne (Ne.symm hk)] at ha hz
      exact h3.2 _ _ _ ha hz
theorem ab_astore_ok (hA : ab_s xs A lv st hp) {i : Instr} {q : Nat} (h : ab_astore T i q A = some outs) : ∃ (v : Value) (j : Int32) (a : Nat) (s : List Value) (hp' : px_H) (A' : ab_S), st = v :: .int j :: .ref a :: s ∧ px_ast T i hp a j v = some hp' ∧ (q, A') ∈ outs ∧ ab_s xs A' lv s hp' := by
  obtain ⟨h1, h2, h3, h4⟩ := id hA
  unfold ab_astore at h
  split at h
  · rename_i va i1 i2 r0 o0 c1 c2 c o3 r hst
    rw [hst] at h2
    obtain ⟨v0, s0, rfl, g0, k0⟩ := ab_st_cons h2
    obtain ⟨v1, s1, rfl, g1, k1⟩ := ab_st_cons k0
    obtain ⟨v2, s2, rfl, g2, k2⟩ := ab_st_cons k1
    obtain ⟨j, rfl, hj⟩ := ab_f0 g1.1
    have hv2 := ab_ref1 g2
    subst hv2
    split at h
    · rename_i t n f hc
      split at h
      · rename_i ty hty
        split at h
        · rename_i e1 e2 e3
          cases h
          obtain ⟨hin, hlt⟩ := ab_inR hj e2 e3
          obtain ⟨x, hx, hxc⟩ := ab_cell h3 hc
          obtain ⟨⟨kv, w1, w2, wr⟩, ov⟩ := va
          obtain ⟨kf, f1, f2, fr⟩ := f
          cases x with
          | inr q9 => exact absurd hxc (by simp [ab_c])
          | inl q9 =>
            obtain ⟨t', n', cont⟩ := q9
            obtain ⟨rfl, rfl, hall⟩ := hxc
            have hel := hall _ hlt
            unfold ab_sty at e1
            split at e1
            · simp only [Bool.and_eq_true] at e1
              obtain ⟨e4, e5⟩ := e1
              obtain ⟨y, rfl, hy⟩ := ab_k0 e5 g0.1
              have hkk : kf = kv := (Nat.eq_of_beq_eq_true e4).trans (Nat.eq_of_beq_eq_true e5).symm
              cases cont with
              | inl g =>
                refine ⟨_, j, c, s2, hp.set c (.inl (t, n, .inl (upd g j.toNatClampNeg y))), _, rfl, by simp only [px_ast, hx, hin, hty], List.mem_singleton.mpr rfl, ab_set_arr hA hx hc ⟨rfl, rfl, fun m hm => ?_⟩ k2⟩
                simp only [upd]
                split
                · exact ab_join_r hkk g0.1
                · exact ab_join_l (hall m hm)
              | inr g =>
                exfalso
                rcases g with g | g | g | g
                · simp only at hel; exact absurd hel.1 (by simp only; rw [Nat.eq_of_beq_eq_true e4]; decide)
                · exact hel
                · exact hel
                · simp only at hel; obtain ⟨q8, -, hq⟩ := hel; exact absurd hq.1 (by simp only; rw [Nat.eq_of_beq_eq_true e4]; decide)
            · simp only [Bool.and_eq_true, decide_eq_true_eq] at e1
              obtain ⟨e4, e5, e6, e7⟩ := e1
              obtain ⟨y, rfl, hy⟩ := ab_k0 e5 g0.1
              have hkk : kf = kv := (Nat.eq_of_beq_eq_true e4).trans (Nat.eq_of_beq_eq_true e5).symm
              have hy01 : (decide (y = 0) || decide (y = 1)) = true := by
                have b0 := hy.1
                have b1 := hy.2
                simp only at b0 b1
                simp only [Bool.or_eq_true, decide_eq_true_eq, ← Int32.toInt_inj]
                have z0 : (0 : Int32).toInt = 0 := rfl
                have z1 : (1 : Int32).toInt = 1 := rfl
                omega
              cases cont with
              | inl g =>
                refine ⟨_, j, c, s2, hp.set c (.inl (t, n, .inl (upd g j.toNatClampNeg y))), _, rfl, by simp only [px_ast, hx, hin, hty, hy01], List.mem_singleton.mpr rfl, ab_set_arr hA hx hc ⟨rfl, rfl, fun m hm => ?_⟩ k2⟩
                simp only [upd]
                split
                · exact ab_join_r hkk g0.1
                · exact ab_join_l (hall m hm)
              | inr g =>
                exfalso
                rcases g with g | g | g | g
                · simp only at hel; exact absurd hel.1 (by simp only; rw [Nat.eq_of_beq_eq_true e4]; decide)
                · exact hel
                · exact hel
                · simp only at hel; obtain ⟨q8, -, hq⟩ := hel; exact absurd hq.1 (by simp only; rw [Nat.eq_of_beq_eq_true e4]; decide)
            · simp only [Bool.and_eq_true] at e1
              obtain ⟨e4, e5⟩ := e1
              obtain ⟨y, rfl, hy⟩ := ab_k1' e5 g0.1
              have hkk : kf = kv := (Nat.eq_of_beq_eq_true e4).trans (Nat.eq_of_beq_eq_true e5).symm
              cases cont with
              | inl g => simp only at hel; exact absurd hel.1 (by simp only; rw [Nat.eq_of_beq_eq_true e4]; decide)
              | inr g =>
                rcases g with g | g | g | g
                · refine ⟨_, j, c, s2, hp.set c (.inl (t, n, .inr (.inl (vp_updL g j.toNatClampNeg y)))), _, rfl, by simp only [px_ast, hx, hin, hty], List.mem_singleton.mpr rfl, ab_set_arr hA hx hc ⟨rfl, rfl, fun m hm => ?_⟩ k2⟩
                  simp only [vp_updL]
                  split
                  · exact ab_join_r hkk g0.1
                  · exact ab_join_l (hall m hm)
                · exact absurd hel (by simp)
                · exact absurd hel (by simp)
                · simp only at hel; obtain ⟨q8, -, hq⟩ := hel; exact absurd hq.1 (by simp only; rw [Nat.eq_of_beq_eq_true e4]; decide)
            · cases e1
        · cases h
      · cases h
    · cases h
  · cases h
end ab_s6
end mg_5

section mg_6
theorem ab_toc_ok {xs : Nat → Int32} {lv : List (Nat × Value)} {st : List Value} {hp : px_H} {A : ab_S} (hA : ab_s xs A lv st hp) {c : ClassFile.Cond} {x : ab_V} {v : Value} {a b : Int} (hx : ab_v xs lv hp x v) (hv : ab_num v = some a) (hr : ab_rel c a b) (q : Nat) : ∃ A', (q, A') ∈ ab_to q c x (ab_const b) A ∧ ab_s xs A' lv st hp := by
  obtain ⟨⟨kx, x1, x2, rx⟩, ox⟩ := x
  have h := ab_cnd_ok hr (ab_num_f hx.1 hv) (show ab_in (b, b) b from ⟨Int.le_refl _, Int.le_refl _⟩)
  have e : ab_if c ((kx, x1, x2, rx), ox) (ab_const b) A = some (ab_refine A ox (ab_cnd c (x1, x2) (b, b)).1) := if_pos ⟨Int.le_trans h.1.1 h.1.2, Int.le_trans h.2.1 h.2.2⟩
  refine ⟨_, by unfold ab_to; rw [e]; exact List.mem_singleton.mpr rfl, ab_refine_ok hA (fun l hl => ?_)⟩
  obtain ⟨u, hu, e2⟩ := hx.2 l hl
  exact ⟨u, a, hu, by rw [e2, hv], h.1⟩
theorem ab_lcmp_rel (c : ClassFile.Cond) (x y : Int64) : (px_cmp c (lg_cmp x y) 0 = true → ab_rel c x.toInt y.toInt) ∧ (px_cmp c (lg_cmp x y) 0 = false → ab_rel (ab_neg c) x.toInt y.toInt) := by
  have z0 : (0 : Int32).toInt = 0 := rfl
  have z1 : (1 : Int32).toInt = 1 := rfl
  have z2 : (-1 : Int32).toInt = -1 := rfl
  have h := ab_cmp_rel c (lg_cmp x y) 0
  rw [z0] at h
  have e : (x > y ∧ (lg_cmp x y).toInt = 1) ∨ (x = y ∧ (lg_cmp x y).toInt = 0) ∨ (x < y ∧ (lg_cmp x y).toInt = -1) := by
    unfold lg_cmp
    split
    · rename_i h1; exact Or.inl ⟨h1, z1⟩
    · split
      · rename_i h1 h2; exact Or.inr (Or.inl ⟨h2, z0⟩)
      · rename_i h1 h2
        refine Or.inr (Or.inr ⟨?_, z2⟩)
        rw [GT.gt, Int64.lt_iff_toInt_lt] at h1
        rw [← Int64.toInt_inj] at h2
        rw [Int64.lt_iff_toInt_lt]
        omega
  rw [GT.gt, Int64.lt_iff_toInt_lt, Int64.lt_iff_toInt_lt, ← Int64.toInt_inj] at e
  refine ⟨fun h1 => ?_, fun h1 => ?_⟩
  · have h2 := h.1 h1
    cases c <;> simp only [ab_rel] at h2 ⊢ <;> omega
  · have h2 := h.2 h1
    cases c <;> simp only [ab_rel, ab_neg] at h2 ⊢ <;> omega
section ab_s7
variable {xs : Nat → Int32} {lv : List (Nat × Value)} {st : List Value} {hp : px_H} {A : ab_S} {T : px_T} {X : Option (Nat × (Nat → Int32))} {P : List px_M} {M : px_M} {pc : Nat} {outs : List (Nat × ab_S)} {L : Option Nat}
theorem ab_rest (hA : ab_s xs A lv st hp) {r : List ab_V} {s : List Value} (hr : ab_st xs lv hp r s) : ab_s xs (A.1, r, A.2.2) lv s hp := ⟨hA.1, hr, hA.2.2.1, hA.2.2.2⟩
set_option maxHeartbeats 8000000 in
set_option maxRecDepth 10000 in
theorem ab_step_ok (hA : ab_s xs A lv st hp) (hX : ∀ n, L = some n → X = some (n, xs)) (h : ab_step T L M pc A = some outs) : ab_R T X P M xs pc lv st hp outs := by
  obtain ⟨h1, h2, h3, h4⟩ := id hA
  unfold ab_step at h
  split at h
  · cases h
  rename_i len i hf
  split at h
  · rename_i st' ha
    cases h
    obtain ⟨st'', e1, e2⟩ := ab_alu_ok ha h2
    exact ab_one (List.mem_singleton.mpr rfl) ⟨h1, e2, h3, h4⟩ (fun call N0 nc ns => by simp only [px_step, hf, e1])
  rename_i ha
  cases i
  case iload j =>
    simp only at h
    split at h
    · rename_i a hja
      split at h
      · rename_i hk
        cases h
        obtain ⟨v, hv, hav⟩ := h1 _ _ (px_find_mem hja)
        obtain ⟨⟨k, a1, a2, r⟩, o⟩ := a
        obtain ⟨x, rfl, hx⟩ := ab_k0 hk hav.1
        exact ab_one (st' := .int x :: st) (List.mem_singleton.mpr rfl) ⟨h1, ⟨ab_ld_ok hA hv hav, h2⟩, h3, h4⟩ (fun call N0 nc ns => by simp only [px_step, hf, px_alu, hv])
      · cases h
    · cases h
  case iload_n j =>
    simp only at h
    split at h
    · rename_i a hja
      split at h
      · rename_i hk
        cases h
        obtain ⟨v, hv, hav⟩ := h1 _ _ (px_find_mem hja)
        obtain ⟨⟨k, a1, a2, r⟩, o⟩ := a
        obtain ⟨x, rfl, hx⟩ := ab_k0 hk hav.1
        exact ab_one (st' := .int x :: st) (List.mem_singleton.mpr rfl) ⟨h1, ⟨ab_ld_ok hA hv hav, h2⟩, h3, h4⟩ (fun call N0 nc ns => by simp only [px_step, hf, px_alu, hv])
      · cases h
    · cases h
  case lload j =>
    simp only at h
    split at h
    · rename_i a hja
      split at h
      · rename_i hk
        cases h
        obtain ⟨v, hv, hav⟩ := h1 _ _ (px_find_mem hja)
        obtain ⟨⟨k, a1, a2, r⟩, o⟩ := a
        obtain ⟨x, rfl, hx⟩ := ab_k1' hk hav.1
        exact ab_one (st' := .long x :: st) (List.mem_singleton.mpr rfl) ⟨h1, ⟨ab_ld_ok hA hv hav, h2⟩, h3, h4⟩ (fun call N0 nc ns => by simp only [px_step, hf, px_alu, hv])
      · cases h
    · cases h
  case lload_n j =>
    simp only at h
    split at h
    · rename_i a hja
      split at h
      · rename_i hk
        cases h
        obtain ⟨v, hv, hav⟩ := h1 _ _ (px_find_mem hja)
        obtain ⟨⟨k, a1, a2, r⟩, o⟩ := a
        obtain ⟨x, rfl, hx⟩ := ab_k1' hk hav.1
        exact ab_one (st' := .long x :: st) (List.mem_singleton.mpr rfl) ⟨h1, ⟨ab_ld_ok hA hv hav, h2⟩, h3, h4⟩ (fun call N0 nc ns => by simp only [px_step, hf, px_alu, hv])
      · cases h
    · cases h
  case aload j =>
    simp only at h
    split at h
    · rename_i a hja
      split at h
      · rename_i hk
        cases h
        obtain ⟨v, hv, hav⟩ := h1 _ _ (px_find_mem hja)
        obtain ⟨⟨k, a1, a2, r⟩, o⟩ := a
        have hv2 : (∃ c, v = .ref c) ∨ ∃ c, v = .retAddr c := by
          simp only [Bool.or_eq_true] at hk
          rcases hk with hk | hk
          · obtain ⟨c, rfl, -⟩ := ab_k2 hk hav.1; exact Or.inl ⟨c, rfl⟩
          · have := Nat.eq_of_beq_eq_true hk
            subst this
            have h9 := hav.1
            cases v <;> first | exact Or.inr ⟨_, rfl⟩ | (exact absurd h9.1 (by decide)) | (exact absurd h9 (by simp [ab_f]))
        rcases hv2 with ⟨c, rfl⟩ | ⟨c, rfl⟩
        · exact ab_one (st' := .ref c :: st) (List.mem_singleton.mpr rfl) ⟨h1, ⟨⟨hav.1, ab_o_none _ _ _ _⟩, h2⟩, h3, h4⟩ (fun call N0 nc ns => by simp only [px_step, hf, px_alu, hv])
        · exact ab_one (st' := .retAddr c :: st) (List.mem_singleton.mpr rfl) ⟨h1, ⟨⟨hav.1, ab_o_none _ _ _ _⟩, h2⟩, h3, h4⟩ (fun call N0 nc ns => by simp only [px_step, hf, px_alu, hv])
      · cases h
    · cases h
  case aload_n j =>
    simp only at h
    split at h
    · rename_i a hja
      split at h
      · rename_i hk
        cases h
        obtain ⟨v, hv, hav⟩ := h1 _ _ (px_find_mem hja)
        obtain ⟨⟨k, a1, a2, r⟩, o⟩ := a
        have hv2 : (∃ c, v = .ref c) ∨ ∃ c, v = .retAddr c := by
          simp only [Bool.or_eq_true] at hk
          rcases hk with hk | hk
          · obtain ⟨c, rfl, -⟩ := ab_k2 hk hav.1; exact Or.inl ⟨c, rfl⟩
          · have := Nat.eq_of_beq_eq_true hk
            subst this
            have h9 := hav.1
            cases v <;> first | exact Or.inr ⟨_, rfl⟩ | (exact absurd h9.1 (by decide)) | (exact absurd h9 (by simp [ab_f]))
        rcases hv2 with ⟨c, rfl⟩ | ⟨c, rfl⟩
        · exact ab_one (st' := .ref c :: st) (List.mem_singleton.mpr rfl) ⟨h1, ⟨⟨hav.1, ab_o_none _ _ _ _⟩, h2⟩, h3, h4⟩ (fun call N0 nc ns => by simp only [px_step, hf, px_alu, hv])
        · exact ab_one (st' := .retAddr c :: st) (List.mem_singleton.mpr rfl) ⟨h1, ⟨⟨hav.1, ab_o_none _ _ _ _⟩, h2⟩, h3, h4⟩ (fun call N0 nc ns => by simp only [px_step, hf, px_alu, hv])
      · cases h
    · cases h
  case istore j =>
    simp only at h
    split at h
    · rename_i a r hst
      split at h
      · rename_i hk
        cases h
        simp only [Bool.and_eq_true] at hk
        rw [hst] at h2
        obtain ⟨v, s, rfl, hav, hr⟩ := ab_st_cons h2
        have hav' := hav
        obtain ⟨⟨k, a1, a2, rr⟩, o⟩ := a
        obtain ⟨x, rfl, hx⟩ := ab_k0 hk.1 hav.1
        exact ab_one (List.mem_singleton.mpr rfl) (ab_sto1_ok hA hav' hr _) (fun call N0 nc ns => by simp only [px_step, hf, px_alu, hk.2])
      · cases h
    · cases h
  case istore_n j =>
    simp only at h
    split at h
    · rename_i a r hst
      split at h
      · rename_i hk
        cases h
        simp only [Bool.and_eq_true] at hk
        rw [hst] at h2
        obtain ⟨v, s, rfl, hav, hr⟩ := ab_st_cons h2
        have hav' := hav
        obtain ⟨⟨k, a1, a2, rr⟩, o⟩ := a
        obtain ⟨x, rfl, hx⟩ := ab_k0 hk.1 hav.1
        exact ab_one (List.mem_singleton.mpr rfl) (ab_sto1_ok hA hav' hr _) (fun call N0 nc ns => by simp only [px_step, hf, px_alu, hk.2])
      · cases h
    · cases h
  case astore j =>
    simp only at h
    split at h
    · rename_i a r hst
      split at h
      · rename_i hk
        cases h
        simp only [Bool.and_eq_true] at hk
        rw [hst] at h2
        obtain ⟨v, s, rfl, hav, hr⟩ := ab_st_cons h2
        have hav' := hav
        obtain ⟨⟨k, a1, a2, rr⟩, o⟩ := a
        obtain ⟨x, rfl, hx⟩ := ab_k2 hk.1 hav.1
        exact ab_one (List.mem_singleton.mpr rfl) (ab_sto1_ok hA hav' hr _) (fun call N0 nc ns => by simp only [px_step, hf, px_alu, hk.2])
      · cases h
    · cases h
  case astore_n j =>
    simp only at h
    split at h
    · rename_i a r hst
      split at h
      · rename_i hk
        cases h
        simp only [Bool.and_eq_true] at hk
        rw [hst] at h2
        obtain ⟨v, s, rfl, hav, hr⟩ := ab_st_cons h2
        have hav' := hav
        obtain ⟨⟨k, a1, a2, rr⟩, o⟩ := a
        obtain ⟨x, rfl, hx⟩ := ab_k2 hk.1 hav.1
        exact ab_one (List.mem_singleton.mpr rfl) (ab_sto1_ok hA hav' hr _) (fun call N0 nc ns => by simp only [px_step, hf, px_alu, hk.2])
      · cases h
    · cases h
  case lstore j =>
    simp only at h
    split at h
    · rename_i a r hst
      split at h
      · rename_i hk
        cases h
        simp only [Bool.and_eq_true] at hk
        rw [hst] at h2
        obtain ⟨v, s, rfl, hav, hr⟩ := ab_st_cons h2
        have hav' := hav
        obtain ⟨⟨k, a1, a2, rr⟩, o⟩ := a
        obtain ⟨x, rfl, hx⟩ := ab_k1' hk.1 hav.1
        exact ab_one (List.mem_singleton.mpr rfl) (ab_sto2_ok hA hav' hr _) (fun call N0 nc ns => by simp only [px_step, hf, px_alu, hk.2])
      · cases h
    · cases h
  case lstore_n j =>
    simp only at h
    split at h
    · rename_i a r hst
      split at h
      · rename_i hk
        cases h
        simp only [Bool.and_eq_true] at hk
        rw [hst] at h2
        obtain ⟨v, s, rfl, hav, hr⟩ := ab_st_cons h2
        have hav' := hav
        obtain ⟨⟨k, a1, a2, rr⟩, o⟩ := a
        obtain ⟨x, rfl, hx⟩ := ab_k1' hk.1 hav.1
        exact ab_one (List.mem_singleton.mpr rfl) (ab_sto2_ok hA hav' hr _) (fun call N0 nc ns => by simp only [px_step, hf, px_alu, hk.2])
      · cases h
    · cases h
  case iinc j n =>
    simp only at h
    split at h
    · rename_i a1 a2 r o hja hj
      cases h
      obtain ⟨v, hv, hav⟩ := h1 _ _ (px_find_mem hja)
      obtain ⟨x, rfl, hx⟩ := ab_f0 hav.1
      have hq := ab_bi_ok (f := fun x y => x + y) (rule := ab_radd ab_topi) ab_add_ok hx (b := ((Int32.ofInt n).toInt, (Int32.ofInt n).toInt)) (y := Int32.ofInt n) ⟨Int.le_refl _, Int.le_refl _⟩
      exact ab_one (List.mem_singleton.mpr rfl) (ab_sto1_ok hA (v := .int (x + Int32.ofInt n)) ⟨⟨rfl, hq.1, hq.2⟩, ab_o_none _ _ _ _⟩ h2 _) (fun call N0 nc ns => by simp only [px_step, hf, px_alu, hv, hj])
    · cases h
  case ifCond c off =>
    simp only at h
    split at h
    · rename_i x o r hst
      cases h
      rw [hst] at h2
      obtain ⟨v, s, rfl, hav, hr⟩ := ab_st_cons h2
      obtain ⟨z1, z2, z3⟩ := x
      obtain ⟨y, rfl, hy⟩ := ab_f0 hav.1
      cases hc : px_cmp c y 0 with
      | true =>
        obtain ⟨A', m1, m2⟩ := ab_to_ok (ab_rest hA hr) hav (ab_const_ok 0) rfl rfl ((ab_cmp_rel c y 0).1 hc) (px_tgt pc off)
        exact ab_one (List.mem_append_left _ m1) m2 (fun call N0 nc ns => by simp only [px_step, hf, px_alu, hc])
      | false =>
        obtain ⟨A', m1, m2⟩ := ab_to_ok (ab_rest hA hr) hav (ab_const_ok 0) rfl rfl ((ab_cmp_rel c y 0).2 hc) (pc + 3)
        exact ab_one (List.mem_append_right _ m1) m2 (fun call N0 nc ns => by simp only [px_step, hf, px_alu, hc])
    · cases h
  case if_icmp c off =>
    simp only at h
    split at h
    · rename_i y o' x o r hst
      cases h
      rw [hst] at h2
      obtain ⟨v, s, rfl, hav, hr0⟩ := ab_st_cons h2
      obtain ⟨w, s, rfl, haw, hr⟩ := ab_st_cons hr0
      obtain ⟨z1, z2, z3⟩ := x
      obtain ⟨t1, t2, t3⟩ := y
      obtain ⟨b, rfl, hb⟩ := ab_f0 hav.1
      obtain ⟨a, rfl, ha9⟩ := ab_f0 haw.1
      cases hc : px_cmp c a b with
      | true =>
        obtain ⟨A', m1, m2⟩ := ab_to_ok (ab_rest hA hr) haw hav rfl rfl ((ab_cmp_rel c a b).1 hc) (px_tgt pc off)
        exact ab_one (List.mem_append_left _ m1) m2 (fun call N0 nc ns => by simp only [px_step, hf, px_alu, hc])
      | false =>
        obtain ⟨A', m1, m2⟩ := ab_to_ok (ab_rest hA hr) haw hav rfl rfl ((ab_cmp_rel c a b).2 hc) (pc + 3)
        exact ab_one (List.mem_append_right _ m1) m2 (fun call N0 nc ns => by simp only [px_step, hf, px_alu, hc])
    · cases h
  case goto off =>
    cases h
    exact ab_one (List.mem_singleton.mpr rfl) hA (fun call N0 nc ns => by simp only [px_step, hf, px_alu])
  case ldc idx =>
    simp only at h
    split at h
    · rename_i v hj
      cases h
      exact ab_one (st' := .int (Int32.ofInt v) :: st) (List.mem_singleton.mpr rfl) ⟨h1, ⟨ab_const_ok _, h2⟩, h3, h4⟩ (fun call N0 nc ns => by simp only [px_step, hf, px_alu, hj])
    · cases h
  case ldc_w idx =>
    simp only at h
    split at h
    · rename_i v hj
      cases h
      exact ab_one (st' := .int (Int32.ofInt v) :: st) (List.mem_singleton.mpr rfl) ⟨h1, ⟨ab_const_ok _, h2⟩, h3, h4⟩ (fun call N0 nc ns => by simp only [px_step, hf, px_alu, hj])
    · cases h
  case ldc2_w idx =>
    simp only at h
    split at h
    · rename_i v hj
      cases h
      exact ab_one (st' := .long (Int64.ofInt v) :: st) (List.mem_singleton.mpr rfl) ⟨h1, ⟨⟨⟨rfl, Int.le_refl _, Int.le_refl _⟩, ab_o_none _ _ _ _⟩, h2⟩, h3, h4⟩ (fun call N0 nc ns => by simp only [px_step, hf, px_alu, hj])
    · cases h
  case tableswitch dflt lo hi offs =>
    simp only at h
    split at h
    · rename_i x o r hst
      split at h
      · rename_i hsz
        cases h
        have hsz := of_decide_eq_true hsz
        rw [hst] at h2
        obtain ⟨v, s, rfl, hav, hr⟩ := ab_st_cons h2
        obtain ⟨z1, z2, z3⟩ := x
        obtain ⟨y, rfl, hy⟩ := ab_f0 hav.1
        by_cases c1 : y.toInt < lo
        · obtain ⟨A', m1, m2⟩ := ab_toc_ok (ab_rest hA hr) hav rfl (c := .lt) (b := lo) c1 (px_tgt pc dflt)
          exact ab_one (List.mem_append_right _ (List.mem_append_left _ m1)) m2 (fun call N0 nc ns => by simp only [px_step, hf, px_alu, decide_eq_true c1, Bool.true_or])
        · by_cases c2 : hi < y.toInt
          · obtain ⟨A', m1, m2⟩ := ab_toc_ok (ab_rest hA hr) hav rfl (c := .gt) (b := hi) c2 (px_tgt pc dflt)
            exact ab_one (List.mem_append_right _ (List.mem_append_right _ m1)) m2 (fun call N0 nc ns => by simp only [px_step, hf, px_alu, decide_eq_true c2, Bool.or_true])
          · have hlt : (y.toInt - lo).toNat < offs.size := by omega
            have hoff : offs[(y.toInt - lo).toNat]? = some (offs[(y.toInt - lo).toNat]'hlt) := Array.getElem?_eq_getElem hlt
            obtain ⟨A', m1, m2⟩ := ab_toc_ok (ab_rest hA hr) hav rfl (c := .eq) (b := lo + ((y.toInt - lo).toNat : Int)) (show y.toInt = _ by omega) (px_tgt pc (offs[(y.toInt - lo).toNat]'hlt))
            refine ab_one (pc' := px_tgt pc (offs[(y.toInt - lo).toNat]'hlt)) (A' := A') (List.mem_append_left _ (List.mem_flatMap.mpr ⟨(y.toInt - lo).toNat, List.mem_range.mpr hlt, ?_⟩)) m2 (fun call N0 nc ns => by simp only [px_step, hf, px_alu, decide_eq_false c1, decide_eq_false c2, Bool.or_self, hoff])
            simp only [hoff]
            exact m1
      · cases h
    · cases h
  case getfield idx =>
    simp only at h
    split at h
    · rename_i ci k fl c1 c2 c o r hj hst
      rw [hst] at h2
      obtain ⟨v, s, rfl, hav, hr⟩ := ab_st_cons h2
      have hv := ab_ref1 hav
      subst hv
      split at h
      · rename_i ci' fs hc
        split at h
        · rename_i f hci hfk
          obtain ⟨vs, hx, hlen, hall⟩ := ab_obj h3 hc
          have hlt : k < vs.length := by rw [← hlen]; exact (List.getElem?_eq_some_iff.mp hfk).1
          have hvk : vs[k]? = some (vs[k]'hlt) := List.getElem?_eq_getElem hlt
          obtain ⟨A', m1, m2⟩ := ab_push_ok hA h (hall _ _ _ hfk hvk) (fun l hl => ⟨vs[k]'hlt, by cases hl; simp only [ab_at, hx, hvk], rfl⟩) hr
          exact ab_one m1 m2 (fun call N0 nc ns => by simp only [px_step, hf, px_alu, hj, hx, hci, hvk])
        · cases h
      · cases h
    · cases h
  case putfield idx =>
    simp only at h
    split at h
    · rename_i ci k fl a c1 c2 c o r hj hst
      rw [hst] at h2
      obtain ⟨u, s0, rfl, hau, hr0⟩ := ab_st_cons h2
      obtain ⟨v, s, rfl, hav, hr⟩ := ab_st_cons hr0
      have hv := ab_ref1 hav
      subst hv
      split at h
      · rename_i ci' fs n tys hc hT
        split at h
        · rename_i ty hci hty hk hfl
          split at h
          · rename_i hfit
            cases h
            obtain ⟨vs, hx, hlen, hall⟩ := ab_obj h3 hc
            have hce := Nat.eq_of_beq_eq_true hci
            subst hce
            have hkv : decide (k < vs.length) = true := by rw [← hlen]; exact hk
            have hP : ∀ l w, ab_kf c k l = false → ab_at xs lv hp l = some w → ab_at xs lv (hp.set c (.inr (ci', vs.set k u))) l = some w := fun l w q1 q2 => ab_at_set hx q2 rfl q1
            refine ab_one (lv' := lv) (st' := s) (hp' := hp.set c (.inr (ci', vs.set k u))) (List.mem_singleton.mpr rfl) ⟨fun j b hm => ?_, ab_kill_st hP hr, ⟨by simp only [List.length_set]; exact h3.1, fun m b z hb hz => ?_⟩, h4⟩ (fun call N0 nc ns => by simp only [px_step, hf, px_alu, hj, hx, hT, hci, hty, hkv, hfl, ab_fits_ok hfit hau.1])
            · obtain ⟨⟨j0, b0⟩, hm0, he⟩ := List.mem_map.mp hm
              cases he
              obtain ⟨w, hw, hbw⟩ := h1 _ _ hm0
              exact ⟨w, hw, ab_kill_ok hP hbw⟩
            · by_cases hmc : m = c
              · subst hmc
                rw [List.getElem?_set_self (List.getElem?_eq_some_iff.mp hc).1] at hb
                rw [List.getElem?_set_self (List.getElem?_eq_some_iff.mp hx).1] at hz
                cases hb
                cases hz
                refine ⟨rfl, by rw [List.length_set, List.length_set]; exact hlen, fun n f w hn hw => ?_⟩
                by_cases hnk : n = k
                · subst hnk
                  rw [List.getElem?_set_self (of_decide_eq_true hk)] at hn
                  rw [List.getElem?_set_self (of_decide_eq_true hkv)] at hw
                  cases hn
                  cases hw
                  exact hau.1
                · rw [List.getElem?_set_ne (Ne.symm hnk)] at hn hw
                  exact hall _ _ _ hn hw
              · rw [List.getElem?_set_ne (Ne.symm hmc)] at hb hz
                exact h3.2 _ _ _ hb hz
          · cases h
        · cases h
      · cases h
    · cases h
  case arraylength =>
    simp only at h
    split at h
    · rename_i x o r hst
      rw [hst] at h2
      obtain ⟨v, s, rfl, hav, hr⟩ := ab_st_cons h2
      have hv2 : ∃ z, v = .retAddr z := by
        have := hav.1
        cases v <;> first | exact ⟨_, rfl⟩ | (exact absurd this.1 (by decide)) | (exact absurd this (by simp [ab_f]))
      obtain ⟨z, rfl⟩ := hv2
      split at h
      · rename_i n
        cases h
        exact ab_one (st' := .int (Int32.ofNat n) :: s) (List.mem_singleton.mpr rfl) ⟨h1, ⟨ab_const_ok _, hr⟩, h3, h4⟩ (fun call N0 nc ns => by simp only [px_step, hf, px_alu, hX n rfl])
      · cases h
    · rename_i c1 c2 c o r hst
      rw [hst] at h2
      obtain ⟨v, s, rfl, hav, hr⟩ := ab_st_cons h2
      have hv := ab_ref1 hav
      subst hv
      split at h
      · rename_i t n f hc
        split at h
        · rename_i ty hty
          cases h
          obtain ⟨x, hx, hxc⟩ := ab_cell h3 hc
          cases x with
          | inr q9 => exact absurd hxc (by simp [ab_c])
          | inl q9 =>
            obtain ⟨t', n', cont⟩ := q9
            obtain ⟨rfl, rfl, hall⟩ := hxc
            exact ab_one (st' := .int (Int32.ofNat n) :: s) (List.mem_singleton.mpr rfl) ⟨h1, ⟨ab_const_ok _, hr⟩, h3, h4⟩ (fun call N0 nc ns => by simp only [px_step, hf, px_alu, hx, hty])
        · cases h
      · cases h
    · cases h
  case iaload =>
    obtain ⟨j, a, s, v, A', rfl, e1, e2, e3⟩ := ab_aload_ok hA hX h
    exact ab_one e2 e3 (fun call N0 nc ns => by simp only [px_step, hf, px_alu, e1, Option.map_some])
  case baload =>
    obtain ⟨j, a, s, v, A', rfl, e1, e2, e3⟩ := ab_aload_ok hA hX h
    exact ab_one e2 e3 (fun call N0 nc ns => by simp only [px_step, hf, px_alu, e1, Option.map_some])
  case laload =>
    obtain ⟨j, a, s, v, A', rfl, e1, e2, e3⟩ := ab_aload_ok hA hX h
    exact ab_one e2 e3 (fun call N0 nc ns => by simp only [px_step, hf, px_alu, e1, Option.map_some])
  case aaload =>
    obtain ⟨j, a, s, v, A', rfl, e1, e2, e3⟩ := ab_aload_ok hA hX h
    exact ab_one e2 e3 (fun call N0 nc ns => by simp only [px_step, hf, px_alu, e1, Option.map_some])
  case iastore =>
    obtain ⟨v, j, a, s, hp', A', rfl, e1, e2, e3⟩ := ab_astore_ok hA h
    exact ab_one e2 e3 (fun call N0 nc ns => by simp only [px_step, hf, px_alu, e1, Option.map_some])
  case bastore =>
    obtain ⟨v, j, a, s, hp', A', rfl, e1, e2, e3⟩ := ab_astore_ok hA h
    exact ab_one e2 e3 (fun call N0 nc ns => by simp only [px_step, hf, px_alu, e1, Option.map_some])
  case lastore =>
    obtain ⟨v, j, a, s, hp', A', rfl, e1, e2, e3⟩ := ab_astore_ok hA h
    exact ab_one e2 e3 (fun call N0 nc ns => by simp only [px_step, hf, px_alu, e1, Option.map_some])
  case lcmp =>
    simp only at h
    split at h
    · rename_i y o' x o r c off hst hf2
      cases h
      rw [hst] at h2
      obtain ⟨v, s0, rfl, hav, hr0⟩ := ab_st_cons h2
      obtain ⟨w, s, rfl, haw, hr⟩ := ab_st_cons hr0
      obtain ⟨z1, z2, z3⟩ := x
      obtain ⟨t1, t2, t3⟩ := y
      obtain ⟨b, rfl, hb⟩ := ab_f1 hav.1
      obtain ⟨a, rfl, ha9⟩ := ab_f1 haw.1
      cases hc : px_cmp c (lg_cmp a b) 0 with
      | true =>
        obtain ⟨A', m1, m2⟩ := ab_to_ok (ab_rest hA hr) haw hav rfl rfl ((ab_lcmp_rel c a b).1 hc) (px_tgt (pc + len) off)
        exact ⟨_, _, _, _, A', List.mem_append_left _ m1, m2, 2, fun call N0 nc ns => by simp only [px_its, px_step, hf, px_alu, px_lc, hf2, hc]⟩
      | false =>
        obtain ⟨A', m1, m2⟩ := ab_to_ok (ab_rest hA hr) haw hav rfl rfl ((ab_lcmp_rel c a b).2 hc) (pc + len + 3)
        exact ⟨_, _, _, _, A', List.mem_append_right _ m1, m2, 2, fun call N0 nc ns => by simp only [px_its, px_step, hf, px_alu, px_lc, hf2, hc]⟩
    · cases h
  all_goals cases h
end ab_s7
end mg_6

section mg_7
/-! runs -/
abbrev ab_O : Type := Option ab_V × List ab_C × List (Int × Int)
def ab_isl (l : ab_L) : Bool := Nat.beq l.1 0
def ab_isf (l : ab_L) : Bool := Nat.beq l.1 1
def ab_all {α β γ : Type} (f : α → Option (List β × List γ)) : List α → Option (List β × List γ)
  | [] => some ([], [])
  | a :: r => match f a with
    | none => none
    | some x => match ab_all f r with
      | none => none
      | some y => some (x.1 ++ y.1, x.2 ++ y.2)
def ab_args : Nat → List ab_V → List (Nat × ab_V)
  | _, [] => []
  | i, a :: r => (i, a) :: ab_args (if Nat.beq a.1.1 1 then i + 2 else i + 1) r
def ab_cat (a : ab_V) : Nat := if Nat.beq a.1.1 1 then 2 else 1
def ab_ret (M : px_M) (i : Instr) (A : ab_S) : Option ab_O :=
  match i, A.2.1, px_rt M with
  | .ireturn, [((0, a1, a2, r), o)], some .int => some (some (ab_kill ab_isl ((0, a1, a2, r), o)), A.2.2)
  | .ireturn, [((0, a1, a2, r), o)], some .boolean => if 0 ≤ a1 ∧ a2 ≤ 1 then some (some (ab_kill ab_isl ((0, a1, a2, r), o)), A.2.2) else none
  | .lreturn, [((1, x), o)], some .long => some (some (ab_kill ab_isl ((1, x), o)), A.2.2)
  | .return_, [], none => some (none, A.2.2)
  | _, _, _ => none
def ab_math (w : Nat) (st : List ab_V) : Option (List ab_V) :=
  match w, st with
  | 0, ((0, b1, b2, _), _) :: ((0, a1, a2, _), _) :: r => some (((0, max a1 b1, max a2 b2, []), none) :: r)
  | 1, ((0, b1, b2, _), _) :: ((0, a1, a2, _), _) :: r => some (((0, min a1 b1, min a2 b2, []), none) :: r)
  | 2, ((1, b1, b2, _), _) :: ((1, a1, a2, _), _) :: r => some (((1, max a1 b1, max a2 b2, []), none) :: r)
  | 3, ((1, b1, b2, _), _) :: ((1, a1, a2, _), _) :: r => some (((1, min a1 b1, min a2 b2, []), none) :: r)
  | _, _ => none
/-- a call's own conditions -/
def ab_callok (N : px_M) (k : Nat) (st : List ab_V) : Bool :=
  decide (k ≤ st.length) && (decide (((st.drop k).map ab_cat).sum ≤ 8) && (decide ((px_rm N).cells = 0) && (decide ((px_rm N).slots = 0) && decide (((st.take k).map ab_cat).sum ≤ px_ml N))))
/-- behind a call: the caller's state with what came back -/
def ab_back (A : ab_S) (k : Nat) (o : ab_O) : ab_S :=
  (A.1.map (fun p => (p.1, ab_kill ab_isf p.2)), o.1.toList ++ (A.2.1.drop k).map (ab_kill ab_isf), o.2.1, o.2.2)
def ab_run (T : px_T) (P : List px_M) : Nat → Option Nat → List Nat → px_M → Nat → ab_S → Option (List ab_O × List (Nat × ab_S))
  | 0, _, _, _, _, _ => none
  | n + 1, L, stop, M, pc, A =>
    match stop.contains pc with
    | true => some ([], [(pc, A)])
    | false => match px_find pc (px_cd M) with
      | none => none
      | some (len, i) =>
        match ab_ret M i A with
        | some o => some ([o], [])
        | none =>
          let call (k mi : Nat) : Option (List ab_O × List (Nat × ab_S)) := match P[mi]? with
            | none => none
            | some N => match ab_callok N k A.2.1 with
              | false => none
              | true => match ab_run T P n none [] N 0 (ab_args 0 ((A.2.1.take k).reverse.map (ab_kill ab_isl)), [], A.2.2) with
                | some (outs, []) => ab_all (fun o => ab_run T P n L stop M (pc + 3) (ab_back A k o)) outs
                | _ => none
          match i with
          | .invokevirtual idx => match px_find idx (px_cp M) with
            | some (1, mi, na, ci) => match A.2.1[na]? with
              | some ((2, _, _, [c]), _) => match A.2.2.1[c]? with
                | some (.inl (ci', _)) => match Nat.beq ci' ci.toNat with
                  | true => call (na + 1) mi
                  | false => none
                | _ => none
              | _ => none
            | _ => none
          | .invokestatic idx => match px_find idx (px_cp M) with
            | some (2, mi, na, _) => call na mi
            | some (11, w, _, _) => match ab_math w A.2.1, decide (((A.2.1.drop 2).map ab_cat).sum ≤ 8) with
              | some st', true => ab_run T P n L stop M (pc + 3) (A.1, st', A.2.2)
              | _, _ => none
            | _ => none
          | _ => match ab_step T L M pc A with
            | none => none
            | some outs => ab_all (fun q => ab_run T P n L stop M q.1 q.2) outs
def ab_o' (xs : Nat → Int32) (o : ab_O) (r : Option Value) (hp : px_H) : Prop :=
  (match o.1, r with
    | none, none => True
    | some a, some v => ab_v xs [] hp a v
    | _, _ => False) ∧ ab_h o.2.1 hp ∧ ab_x o.2.2 xs
theorem ab_all_ok {α β γ : Type} {f : α → Option (List β × List γ)} : ∀ {l : List α} {o : List β × List γ}, ab_all f l = some o → ∀ a ∈ l, ∃ x, f a = some x ∧ (∀ b ∈ x.1, b ∈ o.1) ∧ ∀ c ∈ x.2, c ∈ o.2 := by
  intro l
  induction l with
  | nil => intro o h a ha; cases ha
  | cons q r ih =>
    intro o h a ha
    unfold ab_all at h
    split at h
    · cases h
    · rename_i x hx
      split at h
      · cases h
      · rename_i y hy
        cases h
        rcases List.mem_cons.mp ha with rfl | ha
        · exact ⟨x, hx, fun b hb => List.mem_append_left _ hb, fun c hc => List.mem_append_left _ hc⟩
        · obtain ⟨z, h1, h2, h3⟩ := ih hy a ha
          exact ⟨z, h1, fun b hb => List.mem_append_right _ (h2 b hb), fun c hc => List.mem_append_right _ (h3 c hc)⟩
section ab_s8
variable {T : px_T} {X : Option (Nat × (Nat → Int32))} {P : List px_M} {M : px_M} {call : Nat → List Value → px_H → Option px_A} {N0 : Nat}
theorem px_its_run : ∀ (k : Nat) {S S1 : px_S} {k2 : Nat} {r : px_A}, px_its T X P call M N0 k S = some S1 → px_run T X P call M N0 k2 S1 = some r → px_run T X P call M N0 (k + k2) S = some r := by
  intro k
  induction k with
  | zero => intro S S1 k2 r h1 h2; cases h1; rw [Nat.zero_add]; exact h2
  | succ k ih =>
    intro S S1 k2 r h1 h2
    unfold px_its at h1
    split at h1
    · rename_i S2 hs
      rw [Nat.add_right_comm]
      unfold px_run
      rw [hs]
      exact ih h1 h2
    · cases h1
theorem px_its_add : ∀ (k : Nat) {S S1 : px_S} {k2 : Nat} {S2 : px_S}, px_its T X P call M N0 k S = some S1 → px_its T X P call M N0 k2 S1 = some S2 → px_its T X P call M N0 (k + k2) S = some S2 := by
  intro k
  induction k with
  | zero => intro S S1 k2 r h1 h2; cases h1; rw [Nat.zero_add]; exact h2
  | succ k ih =>
    intro S S1 k2 r h1 h2
    unfold px_its at h1
    split at h1
    · rename_i S2 hs
      rw [Nat.add_right_comm]
      unfold px_its
      rw [hs]
      exact ih h1 h2
    · cases h1
theorem px_run_mono : ∀ (k : Nat) {S : px_S} {r : px_A} (m : Nat), px_run T X P call M N0 k S = some r → px_run T X P call M N0 (k + m) S = some r := by
  intro k
  induction k with
  | zero => intro S r m h; cases h
  | succ k ih =>
    intro S r m h
    rw [Nat.add_right_comm]
    unfold px_run at h ⊢
    split at h
    · cases h
    · rename_i s' hs
      exact ih m h
    · cases h
      rfl
end ab_s8
end mg_7

section mg_8
abbrev ab_nn : Nat → List Value → px_H → Option px_A := fun _ _ _ => none
section ab_s9
variable {xs : Nat → Int32} {lv : List (Nat × Value)} {hp : px_H}
theorem ab_isl_at {lv' : List (Nat × Value)} (l : ab_L) (w : Value) (h : ab_isl l = false) (hl : ab_at xs lv hp l = some w) : ab_at xs lv' hp l = some w := by
  obtain ⟨q, m, n⟩ := l
  unfold ab_at at hl ⊢
  split at hl
  · rename_i he; cases he; cases h
  · rename_i he; cases he; exact hl
  · rename_i he; cases he; exact hl
  · cases hl
theorem ab_isf_at {hp' : px_H} (l : ab_L) (w : Value) (h : ab_isf l = false) (hl : ab_at xs lv hp l = some w) : ab_at xs lv hp' l = some w := by
  obtain ⟨q, m, n⟩ := l
  unfold ab_at at hl ⊢
  split at hl
  · rename_i he; cases he; exact hl
  · rename_i he; cases he; cases h
  · rename_i he; cases he; exact hl
  · cases hl
theorem ab_nil_at {lv' : List (Nat × Value)} (l : ab_L) (w : Value) (hl : ab_at xs [] hp l = some w) : ab_at xs lv' hp l = some w := by
  obtain ⟨q, m, n⟩ := l
  unfold ab_at at hl ⊢
  split at hl
  · cases hl
  · rename_i he; cases he; exact hl
  · rename_i he; cases he; exact hl
  · cases hl
theorem ab_cat_eq {a : ab_V} {v : Value} (h : ab_v xs lv hp a v) : ab_cat a = v.category := by
  unfold ab_cat
  split
  · rename_i hk; exact (ab_cat2 h hk).symm
  · rename_i hk
    have : v.category ≠ 2 := fun hc => hk (ab_kind2 h hc)
    cases v <;> first | rfl | exact absurd rfl this
theorem ab_st_cat : ∀ {as : List ab_V} {st : List Value}, ab_st xs lv hp as st → as.map ab_cat = st.map (fun v => v.category) := by
  intro as
  induction as with
  | nil => intro st h; cases st <;> first | rfl | exact absurd h (by simp [ab_st])
  | cons a r ih =>
    intro st h
    obtain ⟨v, s, rfl, h1, h2⟩ := ab_st_cons h
    rw [List.map_cons, List.map_cons, ih h2, ab_cat_eq h1]
theorem ab_st_len {as : List ab_V} {st : List Value} (h : ab_st xs lv hp as st) : as.length = st.length := by
  have := congrArg List.length (ab_st_cat h)
  rwa [List.length_map, List.length_map] at this
theorem ab_st_drop : ∀ (k : Nat) {as : List ab_V} {st : List Value}, ab_st xs lv hp as st → ab_st xs lv hp (as.drop k) (st.drop k) := by
  intro k
  induction k with
  | zero => intro as st h; exact h
  | succ k ih =>
    intro as st h
    cases as with
    | nil => cases st <;> first | exact h | exact absurd h (by simp [ab_st])
    | cons a r =>
      obtain ⟨v, s, rfl, h1, h2⟩ := ab_st_cons h
      exact ih h2
theorem ab_st_take : ∀ (k : Nat) {as : List ab_V} {st : List Value}, ab_st xs lv hp as st → ab_st xs lv hp (as.take k) (st.take k) := by
  intro k
  induction k with
  | zero => intro as st h; rw [List.take_zero, List.take_zero]; trivial
  | succ k ih =>
    intro as st h
    cases as with
    | nil => cases st <;> first | exact h | exact absurd h (by simp [ab_st])
    | cons a r =>
      obtain ⟨v, s, rfl, h1, h2⟩ := ab_st_cons h
      exact ⟨h1, ih h2⟩
theorem ab_st_app : ∀ {a1 a2 : List ab_V} {s1 s2 : List Value}, ab_st xs lv hp a1 s1 → ab_st xs lv hp a2 s2 → ab_st xs lv hp (a1 ++ a2) (s1 ++ s2) := by
  intro a1
  induction a1 with
  | nil => intro a2 s1 s2 h1 h2; cases s1 <;> first | exact h2 | exact absurd h1 (by simp [ab_st])
  | cons a r ih =>
    intro a2 s1 s2 h1 h2
    obtain ⟨v, s, rfl, h3, h4⟩ := ab_st_cons h1
    exact ⟨h3, ih h4 h2⟩
theorem ab_st_rev : ∀ {as : List ab_V} {st : List Value}, ab_st xs lv hp as st → ab_st xs lv hp as.reverse st.reverse := by
  intro as
  induction as with
  | nil => intro st h; cases st <;> first | exact h | exact absurd h (by simp [ab_st])
  | cons a r ih =>
    intro st h
    obtain ⟨v, s, rfl, h1, h2⟩ := ab_st_cons h
    rw [List.reverse_cons, List.reverse_cons]
    exact ab_st_app (ih h2) ⟨h1, trivial⟩
theorem ab_args_ge : ∀ {as : List ab_V} {i j : Nat} {a : ab_V}, (j, a) ∈ ab_args i as → i ≤ j := by
  intro as
  induction as with
  | nil => intro i j a h; cases h
  | cons b r ih =>
    intro i j a h
    unfold ab_args at h
    rcases List.mem_cons.mp h with he | h
    · cases he; exact Nat.le_refl _
    · have := ih h
      split at this <;> omega
theorem ab_args_ok : ∀ {as : List ab_V} {vs : List Value} (i : Nat), ab_st xs lv hp as vs → ∀ (j : Nat) (a : ab_V), (j, a) ∈ ab_args i as → ∃ v, px_find j (lv_args i vs) = some v ∧ ab_v xs lv hp a v := by
  intro as
  induction as with
  | nil => intro vs i h j a hm; cases hm
  | cons b r ih =>
    intro vs i h j a hm
    obtain ⟨v, s, rfl, h1, h2⟩ := ab_st_cons h
    unfold ab_args at hm
    rcases List.mem_cons.mp hm with he | hm
    · cases he
      refine ⟨v, ?_, h1⟩
      unfold lv_args px_find
      rw [Nat.beq_refl]
    · have hge := ab_args_ge hm
      obtain ⟨u, hu, hau⟩ := ih _ h2 j a hm
      refine ⟨u, ?_, hau⟩
      have hij : Nat.beq i j = false := ab_beq_ne (by split at hge <;> omega)
      unfold lv_args px_find
      simp only [hij]
      have hcat : (if v.category = 2 then i + 2 else i + 1) = (if Nat.beq b.1.1 1 = true then i + 2 else i + 1) := by
        by_cases hc : v.category = 2
        · rw [if_pos hc, if_pos (ab_kind2 h1 hc)]
        · rw [if_neg hc, if_neg (fun hk => hc (ab_cat2 h1 hk))]
      rw [hcat]
      exact hu
theorem ab_lg (vs : List Value) : (lg_sl vs).length = (vs.map fun v => v.category).sum ∨ ∃ v ∈ vs, v.category ≠ 1 ∧ v.category ≠ 2 := by
  induction vs with
  | nil => exact Or.inl rfl
  | cons v r ih =>
    rcases ih with ih | ⟨u, hu, h⟩
    · by_cases h2 : v.category = 2
      · left
        simp only [lg_sl, List.flatMap_cons, List.length_append, List.map_cons, List.sum_cons] at ih ⊢
        rw [ih, if_pos h2, h2]
        rfl
      · by_cases h1 : v.category = 1
        · left
          simp only [lg_sl, List.flatMap_cons, List.length_append, List.map_cons, List.sum_cons] at ih ⊢
          rw [ih, if_neg h2, h1]
          rfl
        · exact Or.inr ⟨v, List.mem_cons_self, h1, h2⟩
    · exact Or.inr ⟨u, List.mem_cons_of_mem _ hu, h⟩
theorem ab_cat12 (v : Value) : v.category = 1 ∨ v.category = 2 := by cases v <;> first | exact Or.inl rfl | exact Or.inr rfl
theorem ab_lg' (vs : List Value) : (lg_sl vs).length = (vs.map fun v => v.category).sum := by
  rcases ab_lg vs with h | ⟨v, -, h1, h2⟩
  · exact h
  · rcases ab_cat12 v with h | h
    · exact absurd h h1
    · exact absurd h h2
theorem ab_math_ok {w : Nat} {as as' : List ab_V} {st : List Value} (h : ab_math w as = some as') (hs : ab_st xs lv hp as st) : ∃ st', px_math w st = some st' ∧ ab_st xs lv hp as' st' := by
  unfold ab_math at h
  split at h
  · cases h
    obtain ⟨v, s0, rfl, g1, k1⟩ := ab_st_cons hs
    obtain ⟨u, s, rfl, g2, k2⟩ := ab_st_cons k1
    obtain ⟨y, rfl, hy⟩ := ab_f0 g1.1
    obtain ⟨x, rfl, hx⟩ := ab_f0 g2.1
    refine ⟨_, rfl, ⟨⟨rfl, ?_, ?_⟩, ab_o_none _ _ _ _⟩, k2⟩ <;> (have q1 := hx.1; have q2 := hx.2; have q3 := hy.1; have q4 := hy.2; simp only at q1 q2 q3 q4 ⊢; split <;> rename_i hc <;> rw [Int32.lt_iff_toInt_lt] at hc <;> omega)
  · cases h
    obtain ⟨v, s0, rfl, g1, k1⟩ := ab_st_cons hs
    obtain ⟨u, s, rfl, g2, k2⟩ := ab_st_cons k1
    obtain ⟨y, rfl, hy⟩ := ab_f0 g1.1
    obtain ⟨x, rfl, hx⟩ := ab_f0 g2.1
    refine ⟨_, rfl, ⟨⟨rfl, ?_, ?_⟩, ab_o_none _ _ _ _⟩, k2⟩ <;> (have q1 := hx.1; have q2 := hx.2; have q3 := hy.1; have q4 := hy.2; simp only at q1 q2 q3 q4 ⊢; split <;> rename_i hc <;> rw [Int32.lt_iff_toInt_lt] at hc <;> omega)
  · cases h
    obtain ⟨v, s0, rfl, g1, k1⟩ := ab_st_cons hs
    obtain ⟨u, s, rfl, g2, k2⟩ := ab_st_cons k1
    obtain ⟨y, rfl, hy⟩ := ab_f1 g1.1
    obtain ⟨x, rfl, hx⟩ := ab_f1 g2.1
    refine ⟨_, rfl, ⟨⟨rfl, ?_, ?_⟩, ab_o_none _ _ _ _⟩, k2⟩ <;> (have q1 := hx.1; have q2 := hx.2; have q3 := hy.1; have q4 := hy.2; simp only at q1 q2 q3 q4 ⊢; split <;> rename_i hc <;> rw [Int64.lt_iff_toInt_lt] at hc <;> omega)
  · cases h
    obtain ⟨v, s0, rfl, g1, k1⟩ := ab_st_cons hs
    obtain ⟨u, s, rfl, g2, k2⟩ := ab_st_cons k1
    obtain ⟨y, rfl, hy⟩ := ab_f1 g1.1
    obtain ⟨x, rfl, hx⟩ := ab_f1 g2.1
    refine ⟨_, rfl, ⟨⟨rfl, ?_, ?_⟩, ab_o_none _ _ _ _⟩, k2⟩ <;> (have q1 := hx.1; have q2 := hx.2; have q3 := hy.1; have q4 := hy.2; simp only at q1 q2 q3 q4 ⊢; split <;> rename_i hc <;> rw [Int64.lt_iff_toInt_lt] at hc <;> omega)
  · cases h
end ab_s9
end mg_8

section mg_9
section ab_s10
variable {T : px_T} {P : List px_M} {xs : Nat → Int32}
/-- where a run comes to: an end, or a place at which it was stopped -/
def ab_Fin (T : px_T) (X : Option (Nat × (Nat → Int32))) (P : List px_M) (M : px_M) (xs : Nat → Int32) (pc : Nat) (lv : List (Nat × Value)) (st : List Value) (hp : px_H) (outs : List ab_O) (stops : List (Nat × ab_S)) : Prop :=
  (∃ (r : Option Value) (hp' : px_H) (o : ab_O), o ∈ outs ∧ ab_o' xs o r hp' ∧ ∃ n0 k : Nat, ∀ n, n0 ≤ n → ∀ N0 nc ns : Nat, nc ≤ (px_rm M).cells → ns ≤ (px_rm M).slots → px_run T X P (px_call T P ab_nn n) M N0 k (pc, lv, st, hp, nc, ns) = some (r, hp')) ∨
  (∃ (pc' : Nat) (lv' : List (Nat × Value)) (st' : List Value) (hp' : px_H) (A' : ab_S), (pc', A') ∈ stops ∧ ab_s xs A' lv' st' hp' ∧ ∃ n0 k : Nat, ∀ n, n0 ≤ n → ∀ N0 nc ns : Nat, nc ≤ (px_rm M).cells → ns ≤ (px_rm M).slots → px_its T X P (px_call T P ab_nn n) M N0 k (pc, lv, st, hp, nc, ns) = some (pc', lv', st', hp', nc, ns))
theorem ab_Fin_its {X : Option (Nat × (Nat → Int32))} {M : px_M} {pc pc1 : Nat} {lv lv1 : List (Nat × Value)} {st st1 : List Value} {hp hp1 : px_H} {outs outs1 : List ab_O} {stops stops1 : List (Nat × ab_S)}
    (h : ∃ n0 k : Nat, ∀ n, n0 ≤ n → ∀ N0 nc ns : Nat, nc ≤ (px_rm M).cells → ns ≤ (px_rm M).slots → px_its T X P (px_call T P ab_nn n) M N0 k (pc, lv, st, hp, nc, ns) = some (pc1, lv1, st1, hp1, nc, ns))
    (hF : ab_Fin T X P M xs pc1 lv1 st1 hp1 outs1 stops1) (ho : ∀ o ∈ outs1, o ∈ outs) (hs : ∀ q ∈ stops1, q ∈ stops) : ab_Fin T X P M xs pc lv st hp outs stops := by
  obtain ⟨n1, k1, h1⟩ := h
  rcases hF with ⟨r, hp', o, m1, m2, n0, k, h2⟩ | ⟨pc', lv', st', hp', A', m1, m2, n0, k, h2⟩
  · refine Or.inl ⟨r, hp', o, ho _ m1, m2, max n0 n1, k1 + k, fun n hn N0 nc ns q1 q2 => ?_⟩
    exact px_its_run k1 (h1 n (by omega) N0 nc ns q1 q2) (h2 n (by omega) N0 nc ns q1 q2)
  · refine Or.inr ⟨pc', lv', st', hp', A', hs _ m1, m2, max n0 n1, k1 + k, fun n hn N0 nc ns q1 q2 => ?_⟩
    exact px_its_add k1 (h1 n (by omega) N0 nc ns q1 q2) (h2 n (by omega) N0 nc ns q1 q2)
theorem ab_ret_ok {X : Option (Nat × (Nat → Int32))} {M : px_M} {pc len : Nat} {i : Instr} {A : ab_S} {o : ab_O} {lv : List (Nat × Value)} {st : List Value} {hp : px_H} (hf : px_find pc (px_cd M) = some (len, i)) (h : ab_ret M i A = some o) (hA : ab_s xs A lv st hp) :
    ∃ r : Option Value, ab_o' xs o r hp ∧ ∀ (call : Nat → List Value → px_H → Option px_A) (N0 nc ns : Nat), nc ≤ (px_rm M).cells → ns ≤ (px_rm M).slots → px_step T X P call M N0 (pc, lv, st, hp, nc, ns) = some (.inr (r, hp)) := by
  obtain ⟨h1, h2, h3, h4⟩ := hA
  unfold ab_ret at h
  split at h
  · rename_i a1 a2 r9 o9 hst hrt
    cases h
    rw [hst] at h2
    obtain ⟨v, s, rfl, g1, k1⟩ := ab_st_cons h2
    obtain ⟨x, rfl, hx⟩ := ab_f0 g1.1
    cases s with
    | cons => exact absurd k1 (by simp [ab_st])
    | nil => exact ⟨some (.int x), ⟨ab_kill_ok (fun l w q1 q2 => ab_isl_at l w q1 q2) g1, h3, h4⟩, fun call N0 nc ns q1 q2 => by simp only [px_step, hf, px_alu, hrt, decide_eq_true q1, decide_eq_true q2, px_zr]⟩
  · rename_i a1 a2 r9 o9 hst hrt
    split at h
    · rename_i hb
      cases h
      rw [hst] at h2
      obtain ⟨v, s, rfl, g1, k1⟩ := ab_st_cons h2
      obtain ⟨x, rfl, hx⟩ := ab_f0 g1.1
      have hz : (decide (x = 0) || decide (x = 1)) = true := by
        have b0 := hx.1
        have b1 := hx.2
        simp only at b0 b1
        simp only [Bool.or_eq_true, decide_eq_true_eq, ← Int32.toInt_inj]
        have z0 : (0 : Int32).toInt = 0 := rfl
        have z1 : (1 : Int32).toInt = 1 := rfl
        omega
      cases s with
      | cons => exact absurd k1 (by simp [ab_st])
      | nil => exact ⟨some (.int x), ⟨ab_kill_ok (fun l w q1 q2 => ab_isl_at l w q1 q2) g1, h3, h4⟩, fun call N0 nc ns q1 q2 => by simp only [px_step, hf, px_alu, hrt, decide_eq_true q1, decide_eq_true q2, px_zr, hz]⟩
    · cases h
  · rename_i x9 o9 hst hrt
    cases h
    rw [hst] at h2
    obtain ⟨v, s, rfl, g1, k1⟩ := ab_st_cons h2
    obtain ⟨z1, z2, z3⟩ := x9
    obtain ⟨x, rfl, hx⟩ := ab_f1 g1.1
    cases s with
    | cons => exact absurd k1 (by simp [ab_st])
    | nil => exact ⟨some (.long x), ⟨ab_kill_ok (fun l w q1 q2 => ab_isl_at l w q1 q2) g1, h3, h4⟩, fun call N0 nc ns q1 q2 => by simp only [px_step, hf, px_alu, hrt, decide_eq_true q1, decide_eq_true q2]⟩
  · rename_i hst hrt
    cases h
    rw [hst] at h2
    cases st with
    | cons => exact absurd h2 (by simp [ab_st])
    | nil => exact ⟨none, ⟨trivial, h3, h4⟩, fun call N0 nc ns q1 q2 => by simp only [px_step, hf, px_alu, hrt, decide_eq_true q1, decide_eq_true q2]⟩
  · cases h
/-- a callee that ends, as a call -/
theorem ab_call_ok {N : px_M} {mi : Nat} (hN : P[mi]? = some N) {av : List Value} {hp hp' : px_H} {r : Option Value} (hl : (lg_sl av).length ≤ px_ml N)
    (h : ∃ n0 k : Nat, ∀ n, n0 ≤ n → ∀ N0 nc ns : Nat, nc ≤ (px_rm N).cells → ns ≤ (px_rm N).slots → px_run T none P (px_call T P ab_nn n) N N0 k (0, lv_args 0 av, [], hp, nc, ns) = some (r, hp')) :
    ∃ n0 : Nat, ∀ n, n0 ≤ n → px_call T P ab_nn n mi av hp = some (r, hp') := by
  obtain ⟨n0, k, h⟩ := h
  refine ⟨max n0 k + 1, fun n hn => ?_⟩
  obtain ⟨m, rfl⟩ : ∃ m, n = m + 1 := ⟨n - 1, by omega⟩
  unfold px_call
  simp only [hN, decide_eq_true hl]
  have h1 := h m (by omega) hp.length 0 0 (Nat.zero_le _) (Nat.zero_le _)
  have h2 := px_run_mono k (m - k) h1
  rwa [show k + (m - k) = m by omega] at h2
theorem ab_back_ok {A : ab_S} {lv : List (Nat × Value)} {st : List Value} {hp hp' : px_H} {o : ab_O} {r : Option Value} (hA : ab_s xs A lv st hp) (ho : ab_o' xs o r hp') (k : Nat) : ab_s xs (ab_back A k o) lv (r.toList ++ st.drop k) hp' := by
  obtain ⟨h1, h2, h3, h4⟩ := hA
  obtain ⟨g1, g2, g3⟩ := ho
  have hP : ∀ l w, ab_isf l = false → ab_at xs lv hp l = some w → ab_at xs lv hp' l = some w := fun l w q1 q2 => ab_isf_at l w q1 q2
  refine ⟨fun j a hm => ?_, ?_, g2, g3⟩
  · obtain ⟨⟨j0, a0⟩, hm0, he⟩ := List.mem_map.mp hm
    cases he
    obtain ⟨v, hv, hav⟩ := h1 _ _ hm0
    exact ⟨v, hv, ab_kill_ok hP hav⟩
  · have hd := ab_kill_st hP (ab_st_drop k h2)
    obtain ⟨oa, oh, ox⟩ := o
    cases oa with
    | none => cases r with
      | none => exact hd
      | some v => exact absurd g1 (by simp)
    | some a => cases r with
      | none => exact absurd g1 (by simp)
      | some v => exact ⟨ab_v_mono (fun l w q => ab_nil_at l w q) g1, hd⟩
set_option maxHeartbeats 8000000 in
theorem ab_run_ok : ∀ (n : Nat) (L : Option Nat) (stop : List Nat) (M : px_M) (pc : Nat) (A : ab_S) (o : List ab_O × List (Nat × ab_S)) (X : Option (Nat × (Nat → Int32))) (lv : List (Nat × Value)) (st : List Value) (hp : px_H),
    ab_run T P n L stop M pc A = some o → ab_s xs A lv st hp → (∀ n, L = some n → X = some (n, xs)) → ab_Fin T X P M xs pc lv st hp o.1 o.2 := by
  intro n
  induction n with
  | zero => intro L stop M pc A o X lv st hp h; cases h
  | succ n ih =>
    intro L stop M pc A o X lv st hp h hA hX
    have hcallee : ∀ (k mi : Nat) (N : px_M) (couts : List ab_O), P[mi]? = some N → ab_callok N k A.2.1 = true → ab_run T P n none [] N 0 (ab_args 0 ((A.2.1.take k).reverse.map (ab_kill ab_isl)), [], A.2.2) = some (couts, []) →
        ∃ (r : Option Value) (hp' : px_H) (oc : ab_O), oc ∈ couts ∧ ab_s xs (ab_back A k oc) lv (r.toList ++ st.drop k) hp' ∧ k ≤ st.length ∧ ((st.drop k).map fun v => v.category).sum ≤ 8 ∧ (px_rm N).cells = 0 ∧ (px_rm N).slots = 0 ∧ ∃ n0 : Nat, ∀ n, n0 ≤ n → px_call T P ab_nn n mi (st.take k).reverse hp = some (r, hp') := by
      intro k mi N couts hN hok hrun
      simp only [ab_callok, Bool.and_eq_true, decide_eq_true_eq] at hok
      obtain ⟨c1, c2, c3, c4, c5⟩ := hok
      obtain ⟨h1, h2, h3, h4⟩ := id hA
      have hcat := ab_st_cat h2
      have hlen := ab_st_len h2
      have hargs := ab_kill_st (P := ab_isl) (lv' := lv_args 0 (st.take k).reverse) (fun l w q1 q2 => ab_isl_at l w q1 q2) (ab_st_rev (ab_st_take k h2))
      have hF := ih none [] N 0 _ _ none (lv_args 0 (st.take k).reverse) [] hp hrun ⟨fun j a hm => ab_args_ok 0 hargs j a hm, trivial, h3, h4⟩ (fun n hn => by cases hn)
      have hsl : (lg_sl (st.take k).reverse).length ≤ px_ml N := by
        rw [ab_lg', List.map_reverse, List.sum_reverse, List.map_take, ← hcat, ← List.map_take]
        exact c5
      rcases hF with ⟨r, hp', oc, m1, m2, hr⟩ | ⟨pc', lv', st', hp', A', m1, -⟩
      · exact ⟨r, hp', oc, m1, ab_back_ok hA m2 k, by rw [← hlen]; exact c1, by rw [List.map_drop, ← hcat, ← List.map_drop]; exact c2, c3, c4, ab_call_ok hN hsl hr⟩
      · cases m1
    unfold ab_run at h
    split at h
    · cases h
      exact Or.inr ⟨pc, lv, st, hp, A, List.mem_singleton.mpr rfl, hA, 0, 0, fun _ _ _ _ _ _ _ => rfl⟩
    split at h
    · cases h
    rename_i len i hf
    split at h
    · rename_i o9 hr
      cases h
      obtain ⟨r, g1, g2⟩ := ab_ret_ok (X := X) (T := T) (P := P) hf hr hA
      exact Or.inl ⟨r, hp, o9, List.mem_singleton.mpr rfl, g1, 0, 1, fun n hn N0 nc ns q1 q2 => by simp only [px_run, g2 _ _ _ _ q1 q2]⟩
    rename_i hr
    simp only at h
    split at h
    · -- invokevirtual
      rename_i idx
      split at h
      · rename_i mi na ci hj
        split at h
        · rename_i c1 c2 c o9 hna
          split at h
          · rename_i ci' fs hc
            split at h
            · rename_i hci
              split at h
              · cases h
              · rename_i N hN
                split at h
                · cases h
                · rename_i hok
                  split at h
                  · rename_i couts hrun
                    obtain ⟨r, hp', oc, m1, m2, d1, d2, d3, d4, n0, hcl⟩ := hcallee _ _ _ _ hN hok hrun
                    obtain ⟨x, e1, e2, e3⟩ := ab_all_ok h oc m1
                    obtain ⟨vs, hx, -, -⟩ := ab_obj hA.2.2.1 hc
                    have hlt : na < st.length := by omega
                    have hst : st[na]? = some (.ref c) := by
                      have hd := ab_st_drop na hA.2.1
                      have hnl : na < A.2.1.length := by rw [ab_st_len hA.2.1]; exact hlt
                      rw [List.drop_eq_getElem_cons hnl, List.drop_eq_getElem_cons hlt] at hd
                      have he : A.2.1[na] = ((2, c1, c2, [c]), o9) := by
                        have := List.getElem?_eq_getElem hnl
                        rw [hna] at this
                        exact (Option.some.inj this).symm
                      rw [he] at hd
                      rw [List.getElem?_eq_getElem hlt, ab_ref1 hd.1]
                    refine ab_Fin_its ⟨n0, 1, fun n hn N0 nc ns q1 q2 => ?_⟩ (ih L stop M (pc + 3) _ _ X lv _ hp' e1 m2 hX) e2 e3
                    simp only [px_its, px_step, hf, px_alu, hj, hst, hx, hci, hN, decide_eq_true d1, decide_eq_true d2, d3, d4, Nat.add_zero, decide_eq_true q1, decide_eq_true q2, true_or, decide_true, hcl n hn]
                  · cases h
            · cases h
          · cases h
        · cases h
      · cases h
    · -- invokestatic
      rename_i idx
      split at h
      · rename_i mi na z9 hj
        split at h
        · cases h
        · rename_i N hN
          split at h
          · cases h
          · rename_i hok
            split at h
            · rename_i couts hrun
              obtain ⟨r, hp', oc, m1, m2, d1, d2, d3, d4, n0, hcl⟩ := hcallee _ _ _ _ hN hok hrun
              obtain ⟨x, e1, e2, e3⟩ := ab_all_ok h oc m1
              refine ab_Fin_its ⟨n0, 1, fun n hn N0 nc ns q1 q2 => ?_⟩ (ih L stop M (pc + 3) _ _ X lv _ hp' e1 m2 hX) e2 e3
              simp only [px_its, px_step, hf, px_alu, hj, hN, decide_eq_true d1, decide_eq_true d2, d3, d4, Nat.add_zero, decide_eq_true q1, decide_eq_true q2, true_or, decide_true, hcl n hn]
            · cases h
      · rename_i w z1 z2 hj
        split at h
        · rename_i st' hm hd
          obtain ⟨st'', g1, g2⟩ := ab_math_ok hm hA.2.1
          have hd2 : decide (((st.drop 2).map fun v => v.category).sum ≤ 8) = true := by
            rw [List.map_drop, ← ab_st_cat hA.2.1, ← List.map_drop]
            exact hd
          refine ab_Fin_its ⟨0, 1, fun n hn N0 nc ns q1 q2 => ?_⟩ (ih L stop M (pc + 3) _ _ X lv st'' hp h ⟨hA.1, g2, hA.2.2.1, hA.2.2.2⟩ hX) (fun _ h => h) (fun _ h => h)
          simp only [px_its, px_step, hf, px_alu, hj, g1, hd2, decide_eq_true q1, decide_eq_true q2]
        · cases h
      · cases h
    · -- a step
      split at h
      · cases h
      · rename_i outs hs
        obtain ⟨pc1, lv1, st1, hp1, A1, m1, m2, k, hk⟩ := ab_step_ok (P := P) hA hX hs
        obtain ⟨x, e1, e2, e3⟩ := ab_all_ok h _ m1
        exact ab_Fin_its ⟨0, k, fun n hn N0 nc ns q1 q2 => hk _ _ _ _⟩ (ih L stop M pc1 A1 _ X lv1 st1 hp1 e1 m2 hX) e2 e3
end ab_s10
end mg_9
