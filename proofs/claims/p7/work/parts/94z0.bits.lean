section mg_0
/-! bits of ints and longs -/
def ib (x : Int32) (i : Nat) : Bool := x.toBitVec.getLsbD i
def lb (x : Int64) (i : Nat) : Bool := x.toBitVec.getLsbD i
/-- ten bits at most -/
def sm (x : Int32) : Prop := ∀ i, 10 ≤ i → ib x i = false
theorem ib_ext {x y : Int32} (h : ∀ i, i < 32 → ib x i = ib y i) : x = y := Int32.toBitVec_inj.mp (BitVec.eq_of_getLsbD_eq h)
theorem lb_ext {x y : Int64} (h : ∀ i, i < 64 → lb x i = lb y i) : x = y := Int64.toBitVec_inj.mp (BitVec.eq_of_getLsbD_eq h)
theorem ib_ge (x : Int32) {i : Nat} (h : 32 ≤ i) : ib x i = false := BitVec.getLsbD_of_ge _ _ h
theorem lb_ge (x : Int64) {i : Nat} (h : 64 ≤ i) : lb x i = false := BitVec.getLsbD_of_ge _ _ h
theorem sm_ext {x y : Int32} (hx : sm x) (hy : sm y) (h : ∀ i, i < 10 → ib x i = ib y i) : x = y := by
  refine ib_ext (fun i _ => ?_)
  by_cases h9 : i < 10
  · exact h i h9
  · rw [hx i (by omega), hy i (by omega)]
theorem ib_and (x y : Int32) (i : Nat) : ib (x &&& y) i = (ib x i && ib y i) := by unfold ib; rw [Int32.toBitVec_and, BitVec.getLsbD_and]
theorem ib_or (x y : Int32) (i : Nat) : ib (x ||| y) i = (ib x i || ib y i) := by unfold ib; rw [Int32.toBitVec_or, BitVec.getLsbD_or]
theorem ib_xor (x y : Int32) (i : Nat) : ib (x ^^^ y) i = (ib x i ^^ ib y i) := by unfold ib; rw [Int32.toBitVec_xor, BitVec.getLsbD_xor]
theorem lb_and (x y : Int64) (i : Nat) : lb (x &&& y) i = (lb x i && lb y i) := by unfold lb; rw [Int64.toBitVec_and, BitVec.getLsbD_and]
theorem lb_or (x y : Int64) (i : Nat) : lb (x ||| y) i = (lb x i || lb y i) := by unfold lb; rw [Int64.toBitVec_or, BitVec.getLsbD_or]
theorem lb_xor (x y : Int64) (i : Nat) : lb (x ^^^ y) i = (lb x i ^^ lb y i) := by unfold lb; rw [Int64.toBitVec_xor, BitVec.getLsbD_xor]
/-! constants -/
theorem ib_c_t : (List.range 32).all (fun i => decide (ib 0 i = false) && (decide (ib (Int32.ofInt 0) i = false) && (decide (ib (Int32.ofInt (-1)) i = true) && (decide (ib (Int32.ofInt 1) i = decide (i = 0)) && (decide (ib (Int16.ofInt 1023).toInt32 i = decide (i < 10)) && decide (ib (Int8.ofInt 7).toInt32 i = decide (i < 3))))))) = true := by decide +kernel
theorem ib_c {i : Nat} (h : i < 32) : ib 0 i = false ∧ ib (Int32.ofInt 0) i = false ∧ ib (Int32.ofInt (-1)) i = true ∧ ib (Int32.ofInt 1) i = decide (i = 0) ∧ ib (Int16.ofInt 1023).toInt32 i = decide (i < 10) ∧ ib (Int8.ofInt 7).toInt32 i = decide (i < 3) := by
  have := List.all_eq_true.mp ib_c_t i (List.mem_range.mpr h)
  simpa only [Bool.and_eq_true, decide_eq_true_eq] using this
theorem ib_0 (i : Nat) : ib 0 i = false := by
  by_cases h : i < 32
  · exact (ib_c h).1
  · exact ib_ge _ (by omega)
theorem ib_z (i : Nat) : ib (Int32.ofInt 0) i = false := ib_0 i
theorem ib_not (x : Int32) {i : Nat} (h : i < 32) : ib (x ^^^ (Int32.ofInt (-1))) i = !ib x i := by
  rw [ib_xor, (ib_c h).2.2.1]
  cases ib x i <;> rfl
theorem ib_1023 (i : Nat) : ib (Int16.ofInt 1023).toInt32 i = decide (i < 10) := by
  by_cases h : i < 32
  · exact (ib_c h).2.2.2.2.1
  · rw [ib_ge _ (by omega)]
    symm
    simp only [decide_eq_false_iff_not]
    omega
theorem lb_c_t : (List.range 64).all (fun i => decide (lb (Int64.ofInt 0) i = false) && (decide (lb (Int64.ofInt (-1)) i = true) && (decide (lb (Int64.ofNat 1) i = decide (i = 0)) && (decide (lb (Int64.ofInt 1023) i = decide (i < 10)) && decide (lb (Int64.ofInt 7) i = decide (i < 3)))))) = true := by decide +kernel
theorem lb_c {i : Nat} (h : i < 64) : lb (Int64.ofInt 0) i = false ∧ lb (Int64.ofInt (-1)) i = true ∧ lb (Int64.ofNat 1) i = decide (i = 0) ∧ lb (Int64.ofInt 1023) i = decide (i < 10) ∧ lb (Int64.ofInt 7) i = decide (i < 3) := by
  have := List.all_eq_true.mp lb_c_t i (List.mem_range.mpr h)
  simpa only [Bool.and_eq_true, decide_eq_true_eq] using this
theorem lb_not (x : Int64) {i : Nat} (h : i < 64) : lb (x ^^^ (Int64.ofInt (-1))) i = !lb x i := by
  rw [lb_xor, (lb_c h).2.1]
  cases lb x i <;> rfl
theorem lb_1023 (i : Nat) : lb (Int64.ofInt 1023) i = decide (i < 10) := by
  by_cases h : i < 64
  · exact (lb_c h).2.2.2.1
  · rw [lb_ge _ (by omega)]
    symm
    simp only [decide_eq_false_iff_not]
    omega
/-! shifts -/
theorem am_32t : (List.range 32).all (fun k => decide (((Int32.ofNat k &&& 31).toBitVec.smod 32).toNat = k) && decide ((((Int32.ofNat k).toUInt32 &&& Int32.toUInt32 31).toBitVec % 32).toNat = k)) = true := by decide +kernel
theorem am_32 {k : Nat} (h : k < 32) : ((Int32.ofNat k &&& 31).toBitVec.smod 32).toNat = k ∧ (((Int32.ofNat k).toUInt32 &&& Int32.toUInt32 31).toBitVec % 32).toNat = k := by
  have := List.all_eq_true.mp am_32t k (List.mem_range.mpr h)
  simpa only [Bool.and_eq_true, decide_eq_true_eq] using this
theorem am_64t : (List.range 64).all (fun k => decide ((((Int32.ofNat k).toInt64 &&& 63).toBitVec.smod 64).toNat = k) && decide ((((Int32.ofNat k).toInt64.toUInt64 &&& Int64.toUInt64 63).toBitVec % 64).toNat = k)) = true := by decide +kernel
theorem am_64 {k : Nat} (h : k < 64) : (((Int32.ofNat k).toInt64 &&& 63).toBitVec.smod 64).toNat = k ∧ (((Int32.ofNat k).toInt64.toUInt64 &&& Int64.toUInt64 63).toBitVec % 64).toNat = k := by
  have := List.all_eq_true.mp am_64t k (List.mem_range.mpr h)
  simpa only [Bool.and_eq_true, decide_eq_true_eq] using this
theorem ib_shl (x : Int32) {k : Nat} (h : k < 32) (i : Nat) : ib (x <<< (Int32.ofNat k &&& 31)) i = (decide (i < 32) && !decide (i < k) && ib x (i - k)) := by
  unfold ib
  rw [Int32.toBitVec_shiftLeft, BitVec.shiftLeft_eq', (am_32 h).1, BitVec.getLsbD_shiftLeft]
theorem ib_shr (x : Int32) {k : Nat} (h : k < 32) (i : Nat) : ib (x >>> (Int32.ofNat k &&& 31)) i = (!decide (32 ≤ i) && if k + i < 32 then ib x (k + i) else x.toBitVec.msb) := by
  unfold ib
  rw [Int32.toBitVec_shiftRight, BitVec.sshiftRight_eq', (am_32 h).1, BitVec.getLsbD_sshiftRight]
theorem ib_us (x : Int32) {k : Nat} (h : k < 32) (i : Nat) : ib (nm_us x (Int32.ofNat k)) i = ib x (k + i) := by
  unfold ib nm_us
  rw [UInt32.toBitVec_toInt32, UInt32.toBitVec_shiftRight, BitVec.ushiftRight_eq', (am_32 h).2, BitVec.getLsbD_ushiftRight]
  rfl
theorem lb_sl (x : Int64) {k : Nat} (h : k < 64) (i : Nat) : lb (sx_lsl x (Int32.ofNat k)) i = (decide (i < 64) && !decide (i < k) && lb x (i - k)) := by
  unfold lb sx_lsl
  rw [Int64.toBitVec_shiftLeft, BitVec.shiftLeft_eq', (am_64 h).1, BitVec.getLsbD_shiftLeft]
theorem lb_sr (x : Int64) {k : Nat} (h : k < 64) (i : Nat) : lb (sx_lsr x (Int32.ofNat k)) i = (!decide (64 ≤ i) && if k + i < 64 then lb x (k + i) else x.toBitVec.msb) := by
  unfold lb sx_lsr
  rw [Int64.toBitVec_shiftRight, BitVec.sshiftRight_eq', (am_64 h).1, BitVec.getLsbD_sshiftRight]
theorem lb_us (x : Int64) {k : Nat} (h : k < 64) (i : Nat) : lb (sx_lus x (Int32.ofNat k)) i = lb x (k + i) := by
  unfold lb sx_lus
  rw [UInt64.toBitVec_toInt64, UInt64.toBitVec_shiftRight, BitVec.ushiftRight_eq', (am_64 h).2, BitVec.getLsbD_ushiftRight]
  rfl
theorem ib_l2i (x : Int64) (i : Nat) : ib x.toInt32 i = (decide (i < 32) && lb x i) := by
  unfold ib lb
  rw [Int64.toBitVec_toInt32, BitVec.getLsbD_signExtend]
  by_cases h : i < 32
  · rw [if_pos (show i < 64 by omega)]
  · simp only [h, decide_false, Bool.false_and]
theorem lb_i2l (x : Int32) (i : Nat) : lb x.toInt64 i = (decide (i < 64) && if i < 32 then ib x i else ib x 31) := by
  unfold ib lb
  rw [Int32.toBitVec_toInt64, BitVec.getLsbD_signExtend]
  rfl
theorem lb_i2l_sm {x : Int32} (h : sm x) (i : Nat) : lb x.toInt64 i = ib x i := by
  rw [lb_i2l]
  by_cases h1 : i < 32
  · rw [if_pos h1, show decide (i < 64) = true from by simp only [decide_eq_true_eq]; omega, Bool.true_and]
  · rw [if_neg h1, h 31 (by omega), h i (by omega), Bool.and_false]
/-! one bit -/
theorem ib_one (p i : Nat) (hp : p < 32) : ib ((Int32.ofInt 1) <<< (Int32.ofNat p &&& 31)) i = decide (i = p) := by
  rw [ib_shl _ hp]
  by_cases h : i < 32
  · rw [(ib_c (i := i - p) (by omega)).2.2.2.1]
    by_cases h1 : i = p
    · subst h1
      simp [h]
    · by_cases h2 : i < p
      · simp [h2, h1]
      · rw [show decide (i - p = 0) = false from by simp only [decide_eq_false_iff_not]; omega, Bool.and_false, show decide (i = p) = false from by simp only [decide_eq_false_iff_not]; exact h1]
  · rw [show decide (i < 32) = false from by simp only [decide_eq_false_iff_not]; omega, Bool.false_and, Bool.false_and, show decide (i = p) = false from by simp only [decide_eq_false_iff_not]; omega]
theorem hb_val (x : Int32) {p : Nat} (hp : p < 32) : ((x >>> (Int32.ofNat p &&& 31)) &&& (Int32.ofInt 1)) = bif ib x p then 1 else 0 := by
  refine ib_ext (fun i hi => ?_)
  rw [ib_and, ib_shr _ hp, (ib_c hi).2.2.2.1]
  by_cases h : i = 0
  · subst h
    rw [if_pos (by omega)]
    rw [Nat.add_zero]
    cases ib x p <;> decide
  · rw [show decide (i = 0) = false from by simp only [decide_eq_false_iff_not]; exact h, Bool.and_false]
    cases ib x p with
    | true => exact ((ib_c hi).2.2.2.1.trans (by simp only [decide_eq_false_iff_not]; exact h)).symm
    | false => exact (ib_0 i).symm
theorem hb_eq (x : Int32) {p : Nat} (hp : p < 32) : px_cmp .eq ((x >>> (Int32.ofNat p &&& 31)) &&& (Int32.ofInt 1)) 0 = !ib x p := by
  rw [hb_val x hp]
  cases ib x p <;> decide
theorem hb_ne (x : Int32) {p : Nat} (hp : p < 32) : px_cmp .ne ((x >>> (Int32.ofNat p &&& 31)) &&& (Int32.ofInt 1)) 0 = ib x p := by
  rw [hb_val x hp]
  cases ib x p <;> decide
theorem has_val (x : Int32) {p : Nat} (hp : p < 32) : sx_has x (Int32.ofNat p) = bif ib x p then 1 else 0 := by
  unfold sx_has nm_hb
  rw [show ((x >>> (Int32.ofNat p &&& 31)) &&& 1 : Int32) = _ from hb_val x hp]
  cases ib x p <;> decide
theorem has_eq (x : Int32) {p : Nat} (hp : p < 32) : px_cmp .eq (sx_has x (Int32.ofNat p)) 0 = !ib x p := by
  rw [has_val x hp]
  cases ib x p <;> decide
theorem sm_0 : sm 0 := fun i _ => ib_0 i
theorem sm_z : sm (Int32.ofInt 0) := fun i _ => ib_z i
theorem sm_or {x y : Int32} (hx : sm x) (hy : sm y) : sm (x ||| y) := fun i hi => by rw [ib_or, hx i hi, hy i hi]; rfl
theorem sm_and {x : Int32} (hx : sm x) (y : Int32) : sm (x &&& y) := fun i hi => by rw [ib_and, hx i hi]; rfl
theorem sm_one {p : Nat} (hp : p < 10) : sm ((Int32.ofInt 1) <<< (Int32.ofNat p &&& 31)) := fun i hi => by
  rw [ib_one p i (by omega)]
  simp only [decide_eq_false_iff_not]
  omega
theorem eq0_iff {x : Int32} (hx : sm x) : px_cmp .eq x 0 = true ↔ ∀ i, i < 10 → ib x i = false := by
  constructor
  · intro h i _
    rw [sx_eq h]
    exact ib_0 i
  · intro h
    have : x = 0 := sm_ext hx sm_0 (fun i hi => by rw [h i hi, ib_0])
    subst this
    rfl
/-! numbers below 1024 and their bits -/
theorem sm_of {x : Int32} (h0 : 0 ≤ x.toInt) (h1 : x.toInt ≤ 1023) : sm x := by
  intro i hi
  unfold ib
  rw [← BitVec.testBit_toNat]
  have e : x.toBitVec.toNat < 2 ^ 10 := by
    have h2 : x.toInt = x.toBitVec.toInt := rfl
    rw [h2, BitVec.toInt_eq_toNat_cond] at h0 h1
    split at h0
    · split at h1 <;> omega
    · omega
  exact Nat.testBit_lt_two_pow (Nat.lt_of_lt_of_le e (Nat.pow_le_pow_right (by decide) hi))
theorem sm_le {x : Int32} (h : sm x) : 0 ≤ x.toInt ∧ x.toInt ≤ 1023 := by
  have e : x.toBitVec.toNat < 2 ^ 10 := by
    refine Nat.lt_pow_two_of_testBit _ (fun i hi => ?_)
    exact h i hi
  have h2 : x.toInt = x.toBitVec.toInt := rfl
  rw [h2, BitVec.toInt_eq_toNat_cond]
  split <;> omega
end mg_0

section mg_1
/-! a chest's parts, and who sat when -/
def pv (x : Int64) (w : Nat) : Int32 := (sx_lus x ((Int8.ofInt 10).toInt32 * Int32.ofNat w)).toInt32 &&& (Int16.ofInt 1023).toInt32
def sv (x : Int64) (w : Nat) (b : Int32) : Int64 := (x &&& ((sx_lsl (Int64.ofInt 1023) ((Int8.ofInt 10).toInt32 * Int32.ofNat w)) ^^^ (Int64.ofInt (-1)))) ||| (sx_lsl b.toInt64 ((Int8.ofInt 10).toInt32 * Int32.ofNat w))
theorem mul10_t : (List.range 6).all (fun w => decide ((Int8.ofInt 10).toInt32 * Int32.ofNat w = Int32.ofNat (10 * w))) = true := by decide +kernel
theorem mul10 {w : Nat} (h : w < 6) : (Int8.ofInt 10).toInt32 * Int32.ofNat w = Int32.ofNat (10 * w) := of_decide_eq_true (List.all_eq_true.mp mul10_t w (List.mem_range.mpr h))
theorem mul3_t : (List.range 10).all (fun w => decide ((Int32.ofInt 3) * Int32.ofNat w = Int32.ofNat (3 * w))) = true := by decide +kernel
theorem mul3 {w : Nat} (h : w < 10) : (Int32.ofInt 3) * Int32.ofNat w = Int32.ofNat (3 * w) := of_decide_eq_true (List.all_eq_true.mp mul3_t w (List.mem_range.mpr h))
theorem pv_sm (x : Int64) (w : Nat) : sm (pv x w) := by
  intro i hi
  unfold pv
  rw [ib_and, ib_1023, show decide (i < 10) = false from by simp only [decide_eq_false_iff_not]; omega, Bool.and_false]
theorem pv_ib (x : Int64) {w i : Nat} (hw : w < 6) (hi : i < 10) : ib (pv x w) i = lb x (10 * w + i) := by
  unfold pv
  rw [mul10 hw, ib_and, ib_l2i, lb_us _ (by omega), ib_1023, show decide (i < 10) = true from by simp only [decide_eq_true_eq]; exact hi, show decide (i < 32) = true from by simp only [decide_eq_true_eq]; omega, Bool.and_true, Bool.true_and]
theorem sv_lb (x : Int64) {w i : Nat} {b : Int32} (hw : w < 6) (hb : sm b) (hi : i < 64) : lb (sv x w b) i = if 10 * w ≤ i ∧ i < 10 * w + 10 then ib b (i - 10 * w) else lb x i := by
  unfold sv
  rw [mul10 hw, lb_or, lb_and, lb_not _ hi, lb_sl _ (by omega), lb_sl _ (by omega), lb_1023, lb_i2l_sm hb, show decide (i < 64) = true from by simp only [decide_eq_true_eq]; exact hi]
  by_cases h1 : i < 10 * w
  · rw [if_neg (by omega), show decide (i < 10 * w) = true from by simp only [decide_eq_true_eq]; exact h1]
    simp
  · rw [show decide (i < 10 * w) = false from by simp only [decide_eq_false_iff_not]; exact h1]
    by_cases h2 : i < 10 * w + 10
    · rw [if_pos ⟨by omega, h2⟩, show decide (i - 10 * w < 10) = true from by simp only [decide_eq_true_eq]; omega]
      simp
    · rw [if_neg (by omega), show decide (i - 10 * w < 10) = false from by simp only [decide_eq_false_iff_not]; omega, hb (i - 10 * w) (by omega)]
      simp
theorem pv_sv (x : Int64) {w w' : Nat} {b : Int32} (hw : w < 6) (hw' : w' < 6) (hb : sm b) : pv (sv x w b) w' = if w' = w then b else pv x w' := by
  by_cases h : w' = w
  · subst h
    rw [if_pos rfl]
    refine sm_ext (pv_sm _ _) hb (fun i hi => ?_)
    rw [pv_ib _ hw' hi, sv_lb _ hw' hb (by omega), if_pos ⟨by omega, by omega⟩, show 10 * w' + i - 10 * w' = i from by omega]
  · rw [if_neg h]
    refine sm_ext (pv_sm _ _) (pv_sm _ _) (fun i hi => ?_)
    rw [pv_ib _ hw' hi, pv_ib _ hw' hi, sv_lb _ hw hb (by omega), if_neg (by omega)]
/-! a slip is taken out, laid somewhere -/
def tk (x : Int64) (w p : Nat) : Int64 := x &&& ((sx_lsl (sx_lsl (Int64.ofNat 1) (Int32.ofNat p)) ((Int8.ofInt 10).toInt32 * Int32.ofNat w)) ^^^ (Int64.ofInt (-1)))
theorem lb_bit {p k i : Nat} (hp : p < 10) (hk : k < 54) : lb (sx_lsl (sx_lsl (Int64.ofNat 1) (Int32.ofNat p)) (Int32.ofNat k)) i = decide (i = k + p) := by
  rw [lb_sl _ (by omega), lb_sl _ (by omega)]
  by_cases h : i < 64
  · rw [(lb_c (i := i - k - p) (by omega)).2.2.1]
    by_cases h1 : i = k + p
    · rw [show decide (i < 64) = true from by simp only [decide_eq_true_eq]; exact h, show decide (i < k) = false from by simp only [decide_eq_false_iff_not]; omega, show decide (i - k < 64) = true from by simp only [decide_eq_true_eq]; omega, show decide (i - k < p) = false from by simp only [decide_eq_false_iff_not]; omega, show decide (i - k - p = 0) = true from by simp only [decide_eq_true_eq]; omega, show decide (i = k + p) = true from by simp only [decide_eq_true_eq]; exact h1]
      rfl
    · rw [show decide (i = k + p) = false from by simp only [decide_eq_false_iff_not]; exact h1]
      by_cases h2 : i < k
      · rw [show decide (i < k) = true from by simp only [decide_eq_true_eq]; exact h2]
        simp
      · by_cases h3 : i - k < p
        · rw [show decide (i - k < p) = true from by simp only [decide_eq_true_eq]; exact h3]
          simp
        · rw [show decide (i - k - p = 0) = false from by simp only [decide_eq_false_iff_not]; omega]
          simp
  · rw [show decide (i < 64) = false from by simp only [decide_eq_false_iff_not]; exact h, Bool.false_and, Bool.false_and, show decide (i = k + p) = false from by simp only [decide_eq_false_iff_not]; omega]
theorem pv_tk (x : Int64) {w w' p : Nat} (hw : w < 5) (hw' : w' < 6) (hp : p < 10) {i : Nat} (hi : i < 10) : ib (pv (tk x w p) w') i = (ib (pv x w') i && !(decide (w' = w) && decide (i = p))) := by
  rw [pv_ib _ hw' hi, pv_ib _ hw' hi]
  unfold tk
  rw [mul10 (by omega), lb_and, lb_not _ (by omega), lb_bit hp (by omega)]
  by_cases h : w' = w ∧ i = p
  · obtain ⟨rfl, rfl⟩ := h
    simp
  · rw [show decide (10 * w' + i = 10 * w + p) = false from by simp only [decide_eq_false_iff_not]; omega]
    by_cases h1 : w' = w
    · by_cases h2 : i = p
      · exact absurd ⟨h1, h2⟩ h
      · simp [h2]
    · simp [h1]
def ly (x : Int64) (k p : Nat) : Int64 := x ||| (sx_lsl (sx_lsl (Int64.ofNat 1) (Int32.ofNat p)) (Int32.ofNat k))
theorem pv_ly (x : Int64) {w w' p : Nat} (hw : w < 6) (hw' : w' < 6) (hp : p < 10) {i : Nat} (hi : i < 10) : ib (pv (ly x (10 * w) p) w') i = (ib (pv x w') i || (decide (w' = w) && decide (i = p))) := by
  rw [pv_ib _ hw' hi, pv_ib _ hw' hi]
  unfold ly
  rw [lb_or, lb_bit hp (by omega)]
  by_cases h : w' = w ∧ i = p
  · obtain ⟨rfl, rfl⟩ := h
    simp
  · rw [show decide (10 * w' + i = 10 * w + p) = false from by simp only [decide_eq_false_iff_not]; omega]
    by_cases h1 : w' = w
    · by_cases h2 : i = p
      · exact absurd ⟨h1, h2⟩ h
      · simp [h2]
    · simp [h1]
/-! three bits a person -/
def sq (s : Int32) (p : Nat) : Int32 := (nm_us s ((Int32.ofInt 3) * Int32.ofNat p)) &&& (Int8.ofInt 7).toInt32
def su (s : Int32) (p : Nat) (v : Int32) : Int32 := (s &&& (((Int8.ofInt 7).toInt32 <<< (((Int32.ofInt 3) * Int32.ofNat p) &&& 31)) ^^^ (Int32.ofInt (-1)))) ||| (v <<< (((Int32.ofInt 3) * Int32.ofNat p) &&& 31))
def s3 (x : Int32) : Prop := ∀ i, 3 ≤ i → ib x i = false
theorem ib_7 (i : Nat) : ib (Int8.ofInt 7).toInt32 i = decide (i < 3) := by
  by_cases h : i < 32
  · exact (ib_c h).2.2.2.2.2
  · rw [ib_ge _ (by omega)]
    symm
    simp only [decide_eq_false_iff_not]
    omega
theorem sq_s3 (s : Int32) (p : Nat) : s3 (sq s p) := by
  intro i hi
  unfold sq
  rw [ib_and, ib_7, show decide (i < 3) = false from by simp only [decide_eq_false_iff_not]; omega, Bool.and_false]
theorem sq_ib (s : Int32) {p i : Nat} (hp : p < 10) (hi : i < 3) : ib (sq s p) i = ib s (3 * p + i) := by
  unfold sq
  rw [mul3 hp, ib_and, ib_us _ (by omega), ib_7, show decide (i < 3) = true from by simp only [decide_eq_true_eq]; exact hi, Bool.and_true]
theorem s3_ext {x y : Int32} (hx : s3 x) (hy : s3 y) (h : ∀ i, i < 3 → ib x i = ib y i) : x = y := by
  refine ib_ext (fun i _ => ?_)
  by_cases h9 : i < 3
  · exact h i h9
  · rw [hx i (by omega), hy i (by omega)]
theorem su_ib (s : Int32) {p i : Nat} {v : Int32} (hp : p < 10) (hv : s3 v) (hi : i < 32) : ib (su s p v) i = if 3 * p ≤ i ∧ i < 3 * p + 3 then ib v (i - 3 * p) else ib s i := by
  unfold su
  rw [mul3 hp, ib_or, ib_and, ib_not _ hi, ib_shl _ (by omega), ib_shl _ (by omega), ib_7, show decide (i < 32) = true from by simp only [decide_eq_true_eq]; exact hi]
  by_cases h1 : i < 3 * p
  · rw [if_neg (by omega), show decide (i < 3 * p) = true from by simp only [decide_eq_true_eq]; exact h1]
    simp
  · rw [show decide (i < 3 * p) = false from by simp only [decide_eq_false_iff_not]; exact h1]
    by_cases h2 : i < 3 * p + 3
    · rw [if_pos ⟨by omega, h2⟩, show decide (i - 3 * p < 3) = true from by simp only [decide_eq_true_eq]; omega]
      simp
    · rw [if_neg (by omega), show decide (i - 3 * p < 3) = false from by simp only [decide_eq_false_iff_not]; omega, hv (i - 3 * p) (by omega)]
      simp
theorem sq_su (s : Int32) {p q : Nat} {v : Int32} (hp : p < 10) (hq : q < 10) (hv : s3 v) : sq (su s p v) q = if q = p then v else sq s q := by
  by_cases h : q = p
  · subst h
    rw [if_pos rfl]
    refine s3_ext (sq_s3 _ _) hv (fun i hi => ?_)
    rw [sq_ib _ hq hi, su_ib _ hq hv (by omega), if_pos ⟨by omega, by omega⟩, show 3 * q + i - 3 * q = i from by omega]
  · rw [if_neg h]
    refine s3_ext (sq_s3 _ _) (sq_s3 _ _) (fun i hi => ?_)
    rw [sq_ib _ hq hi, sq_ib _ hq hi, su_ib _ hp hv (by omega), if_neg (by omega)]
theorem s3_t : (List.range 8).all (fun k => (List.range 32).all (fun i => decide (i < 3) || decide (ib (Int32.ofNat k) i = false))) = true := by decide +kernel
theorem s3_of {k : Nat} (h : k < 8) : s3 (Int32.ofNat k) := by
  intro i hi
  by_cases h9 : i < 32
  · have := List.all_eq_true.mp (List.all_eq_true.mp s3_t k (List.mem_range.mpr h)) i (List.mem_range.mpr h9)
    simp only [Bool.or_eq_true, decide_eq_true_eq] at this
    rcases this with h | h
    · omega
    · exact h
  · exact ib_ge _ (by omega)
end mg_1

section mg_2
/-! loops that gather bits -/
def one (p : Nat) : Int32 := (Int32.ofInt 1) <<< (Int32.ofNat p &&& 31)
def bg (c : Nat → Bool) : Nat → Int32
  | 0 => Int32.ofInt 0
  | k + 1 => bif c k then bg c k ||| one k else bg c k
theorem bg_ib (c : Nat → Bool) (i : Nat) : ∀ n : Nat, n ≤ 10 → ib (bg c n) i = (decide (i < n) && c i)
  | 0, _ => by
    show ib (Int32.ofInt 0) i = _
    rw [ib_z]
    simp
  | n + 1, hn => by
    have ih := bg_ib c i n (by omega)
    have e : ib (bg c (n + 1)) i = (ib (bg c n) i || (c n && decide (i = n))) := by
      show ib (bif c n then bg c n ||| one n else bg c n) i = _
      cases c n with
      | true =>
        show ib (bg c n ||| one n) i = _
        rw [ib_or]
        unfold one
        rw [ib_one n i (by omega), Bool.true_and]
      | false =>
        show ib (bg c n) i = _
        rw [Bool.false_and, Bool.or_false]
    rw [e, ih]
    by_cases h : i = n
    · subst h
      simp
    · rw [show decide (i = n) = false from by simp only [decide_eq_false_iff_not]; exact h, Bool.and_false, Bool.or_false, show decide (i < n + 1) = decide (i < n) from by simp only [decide_eq_decide]; omega]
theorem bg_sm (c : Nat → Bool) {n : Nat} (hn : n ≤ 10) : sm (bg c n) := fun i hi => by
  rw [bg_ib c i n hn, show decide (i < n) = false from by simp only [decide_eq_false_iff_not]; omega, Bool.false_and]
theorem inc1 (p : Nat) : Int32.ofNat p + Int32.ofInt 1 = Int32.ofNat (p + 1) := by rw [Int32.ofNat_add]; rfl
theorem ge_t (z : Nat) : px_cmp .ge (Int32.ofNat z) (Int32.ofNat z) = true := decide_eq_true (Int32.le_refl _)
theorem ge_f {p z : Nat} (h : p < z) (hz : z < 2147483648) : px_cmp .ge (Int32.ofNat p) (Int32.ofNat z) = false := by
  simp only [px_cmp, decide_eq_false_iff_not, Int32.le_iff_toInt_le, nm_ofNat_toInt p (by omega), nm_ofNat_toInt z hz]
  omega
theorem bg_loop {F : Nat → Int32 → Int32 → Option Int32} {c : Nat → Bool} {z : Nat} (h1 : ∀ (n : Nat) (v : Int32) (p : Nat), p < z → F (n + 1) v (Int32.ofNat p) = F n (bif c p then v ||| one p else v) (Int32.ofNat (p + 1))) (h2 : ∀ (n : Nat) (v : Int32), F (n + 1) v (Int32.ofNat z) = some v) : ∀ (m p n : Nat), p + m = z → m < n → F n (bg c p) (Int32.ofNat p) = some (bg c z) := by
  intro m
  induction m with
  | zero =>
    intro p n hm hn
    obtain ⟨n, rfl⟩ : ∃ k, n = k + 1 := ⟨n - 1, by omega⟩
    have : p = z := by omega
    subst this
    exact h2 n _
  | succ m ih =>
    intro p n hm hn
    obtain ⟨n, rfl⟩ : ∃ k, n = k + 1 := ⟨n - 1, by omega⟩
    rw [h1 n _ p (by omega)]
    exact ih (p + 1) n (by omega) (by omega)
section sz_2
variable {h : px_H} {z : Nat}
theorem vl_deadOn (hz : gI h 1 0 = Int32.ofNat z) (z9 : z ≤ 10) (day : Int32) : fn_Town_deadOn day h = some (bg (fun p => !px_cmp .lt day (aI h 6 p)) z) := by
  refine bg_loop (F := fn_Town_deadOn_L4 day h) (fun n v p hp => ?_) (fun n v => ?_) z 0 fu (by omega) (fu_lt (by omega))
  · show fb_Town_deadOn_L4 day h (fn_Town_deadOn_L4 day h n) v (Int32.ofNat p) = _
    unfold fb_Town_deadOn_L4
    rw [hz, ge_f hp (by omega), nm_inR p 10 (by omega) (by omega), nm_ofNat_clamp p (by omega), inc1]
    cases px_cmp .lt day (aI h 6 p) <;> rfl
  · show fb_Town_deadOn_L4 day h (fn_Town_deadOn_L4 day h n) v (Int32.ofNat z) = _
    unfold fb_Town_deadOn_L4
    rw [hz, ge_t]
    rfl
theorem vl_indebtedOn (hz : gI h 1 0 = Int32.ofNat z) (z9 : z ≤ 10) (day : Int32) : fn_Town_indebtedOn day h = some (bg (fun p => !px_cmp .ge day (aI h 3 p)) z) := by
  refine bg_loop (F := fn_Town_indebtedOn_L4 day h) (fun n v p hp => ?_) (fun n v => ?_) z 0 fu (by omega) (fu_lt (by omega))
  · show fb_Town_indebtedOn_L4 day h (fn_Town_indebtedOn_L4 day h n) v (Int32.ofNat p) = _
    unfold fb_Town_indebtedOn_L4
    rw [hz, ge_f hp (by omega), nm_inR p 10 (by omega) (by omega), nm_ofNat_clamp p (by omega), inc1]
    cases px_cmp .ge day (aI h 3 p) <;> rfl
  · show fb_Town_indebtedOn_L4 day h (fn_Town_indebtedOn_L4 day h n) v (Int32.ofNat z) = _
    unfold fb_Town_indebtedOn_L4
    rw [hz, ge_t]
    rfl
theorem vl_awayOn (hz : gI h 1 0 = Int32.ofNat z) (z9 : z ≤ 10) (day : Int32) : fn_Town_awayOn day h = some (bg (fun p => !px_cmp .lt day (aI h 4 p) && !px_cmp .gt day (aI h 5 p)) z) := by
  refine bg_loop (F := fn_Town_awayOn_L4 day h) (fun n v p hp => ?_) (fun n v => ?_) z 0 fu (by omega) (fu_lt (by omega))
  · show fb_Town_awayOn_L4 day h (fn_Town_awayOn_L4 day h n) v (Int32.ofNat p) = _
    unfold fb_Town_awayOn_L4
    rw [hz, ge_f hp (by omega), nm_inR p 10 (by omega) (by omega), nm_ofNat_clamp p (by omega), inc1]
    cases px_cmp .lt day (aI h 4 p) <;> cases px_cmp .gt day (aI h 5 p) <;> rfl
  · show fb_Town_awayOn_L4 day h (fn_Town_awayOn_L4 day h n) v (Int32.ofNat z) = _
    unfold fb_Town_awayOn_L4
    rw [hz, ge_t]
    rfl
theorem vl_ofHouse (hz : gI h 1 0 = Int32.ofNat z) (z9 : z ≤ 10) (a : Int32) : fn_Town_ofHouse a h = some (bg (fun p => !px_cmp .ne (aI h 2 p) a) z) := by
  refine bg_loop (F := fn_Town_ofHouse_L4 a h) (fun n v p hp => ?_) (fun n v => ?_) z 0 fu (by omega) (fu_lt (by omega))
  · show fb_Town_ofHouse_L4 a h (fn_Town_ofHouse_L4 a h n) v (Int32.ofNat p) = _
    unfold fb_Town_ofHouse_L4
    rw [hz, ge_f hp (by omega), nm_inR p 10 (by omega) (by omega), nm_ofNat_clamp p (by omega), inc1]
    cases px_cmp .ne (aI h 2 p) a <;> rfl
  · show fb_Town_ofHouse_L4 a h (fn_Town_ofHouse_L4 a h n) v (Int32.ofNat z) = _
    unfold fb_Town_ofHouse_L4
    rw [hz, ge_t]
    rfl
def qs (s first num : Int32) (p : Nat) : Bool := !px_cmp .lt (sq s p - Int32.ofInt 1) 0 && (!px_cmp .lt (sq s p - Int32.ofInt 1) first && !px_cmp .ge (sq s p - Int32.ofInt 1) num)
theorem vl_satSince (hz : gI h 1 0 = Int32.ofNat z) (z9 : z ≤ 10) (first s : Int32) : fn_Course_satSince first s h = some (bg (qs s first (gI h 21 4)) z) := by
  refine bg_loop (F := fn_Course_satSince_L5 first s h) (fun n v p hp => ?_) (fun n v => ?_) z 0 fu (by omega) (fu_lt (by omega))
  · show fb_Course_satSince_L5 first s h (fn_Course_satSince_L5 first s h n) v (Int32.ofNat p) = _
    unfold fb_Course_satSince_L5
    rw [hz, ge_f hp (by omega), inc1]
    unfold qs sq
    cases px_cmp .lt (((nm_us s ((Int32.ofInt 3) * Int32.ofNat p)) &&& (Int8.ofInt 7).toInt32) - (Int32.ofInt 1)) 0 <;> cases px_cmp .lt (((nm_us s ((Int32.ofInt 3) * Int32.ofNat p)) &&& (Int8.ofInt 7).toInt32) - (Int32.ofInt 1)) first <;> cases px_cmp .ge (((nm_us s ((Int32.ofInt 3) * Int32.ofNat p)) &&& (Int8.ofInt 7).toInt32) - (Int32.ofInt 1)) (gI h 21 4) <;> rfl
  · show fb_Course_satSince_L5 first s h (fn_Course_satSince_L5 first s h n) v (Int32.ofNat z) = _
    unfold fb_Course_satSince_L5
    rw [hz, ge_t]
    rfl
/-! kin -/
def kv (kn : Nat → Int32) (s : Int32) : Nat → Int32
  | 0 => Int32.ofInt 0
  | k + 1 => bif ib s k then kv kn s k ||| kn k else kv kn s k
theorem kv_ib (kn : Nat → Int32) (s : Int32) (i : Nat) : ∀ n : Nat, (ib (kv kn s n) i = true ↔ ∃ q, q < n ∧ ib s q = true ∧ ib (kn q) i = true)
  | 0 => by
    show ib (Int32.ofInt 0) i = true ↔ _
    rw [ib_z]
    constructor
    · intro h; cases h
    · rintro ⟨q, hq, -⟩; omega
  | n + 1 => by
    have ih := kv_ib kn s i n
    show ib (bif ib s n then kv kn s n ||| kn n else kv kn s n) i = true ↔ _
    cases hs : ib s n with
    | true =>
      show ib (kv kn s n ||| kn n) i = true ↔ _
      rw [ib_or, Bool.or_eq_true, ih]
      constructor
      · rintro (⟨q, h1, h2, h3⟩ | h1)
        · exact ⟨q, by omega, h2, h3⟩
        · exact ⟨n, by omega, hs, h1⟩
      · rintro ⟨q, h1, h2, h3⟩
        by_cases hq : q = n
        · subst hq; exact Or.inr h3
        · exact Or.inl ⟨q, by omega, h2, h3⟩
    | false =>
      show ib (kv kn s n) i = true ↔ _
      rw [ih]
      constructor
      · rintro ⟨q, h1, h2, h3⟩; exact ⟨q, by omega, h2, h3⟩
      · rintro ⟨q, h1, h2, h3⟩
        by_cases hq : q = n
        · subst hq; rw [hs] at h2; cases h2
        · exact ⟨q, by omega, h2, h3⟩
theorem kv_0 (kn : Nat → Int32) : ∀ n : Nat, kv kn 0 n = Int32.ofInt 0
  | 0 => rfl
  | n + 1 => by
    show (bif ib 0 n then kv kn 0 n ||| kn n else kv kn 0 n) = _
    rw [ib_0, kv_0 kn n]
    rfl
theorem vl_kinOf (hz : gI h 1 0 = Int32.ofNat z) (z9 : z ≤ 10) (s : Int32) : fn_Course_kinOf s h = some (kv (aI h 27) s z) := by
  have step : ∀ (m p n : Nat), p + m = z → m < n → px_cmp .eq s 0 = false → fn_Course_kinOf_L4 s h n (kv (aI h 27) s p) (Int32.ofNat p) = some (kv (aI h 27) s z) := by
    intro m
    induction m with
    | zero =>
      intro p n hm hn hs
      obtain ⟨n, rfl⟩ : ∃ k, n = k + 1 := ⟨n - 1, by omega⟩
      have : p = z := by omega
      subst this
      show fb_Course_kinOf_L4 s h (fn_Course_kinOf_L4 s h n) _ (Int32.ofNat p) = _
      unfold fb_Course_kinOf_L4
      rw [hz, ge_t]
      rfl
    | succ m ih =>
      intro p n hm hn hs
      obtain ⟨n, rfl⟩ : ∃ k, n = k + 1 := ⟨n - 1, by omega⟩
      have e := ih (p + 1) n (by omega) (by omega) hs
      show fb_Course_kinOf_L4 s h (fn_Course_kinOf_L4 s h n) _ (Int32.ofNat p) = _
      unfold fb_Course_kinOf_L4
      rw [hz, ge_f (show p < z by omega) (by omega), hs, hb_eq s (show p < 32 by omega), nm_inR p 10 (by omega) (by omega), nm_ofNat_clamp p (by omega), inc1, ← e]
      show (bif !ib s p then _ else _) = fn_Course_kinOf_L4 s h n (bif ib s p then kv (aI h 27) s p ||| aI h 27 p else kv (aI h 27) s p) _
      cases ib s p <;> rfl
  unfold fn_Course_kinOf
  cases hs : px_cmp .eq s 0 with
  | false => exact step z 0 fu (by omega) (fu_lt (by omega)) hs
  | true =>
    have e := sx_eq hs
    subst e
    rw [kv_0]
    obtain ⟨n, hn⟩ : ∃ n, fu = n + 1 := ⟨fu - 1, by have := fu_ge; omega⟩
    rw [hn]
    show fb_Course_kinOf_L4 0 h (fn_Course_kinOf_L4 0 h n) (Int32.ofInt 0) (Int32.ofInt 0) = _
    unfold fb_Course_kinOf_L4
    rw [hs]
    cases px_cmp .ge (Int32.ofInt 0) (gI h 1 0) <;> rfl
end sz_2
end mg_2

section mg_3
/-! frames of the functions -/
def fz (W : Nat → Nat → Bool) (V : Nat → Bool) (h h' : px_H) : Prop := (∀ c k, W c k = false → ac_fv h' c k = ac_fv h c k) ∧ ∀ c, V c = false → aI h' c = aI h c ∧ aL h' c = aL h c
section sz_3
variable {W W' : Nat → Nat → Bool} {V V' : Nat → Bool} {h h' h'' : px_H} {c k : Nat}
theorem fz_rf : fz W V h h := ⟨fun _ _ _ => rfl, fun _ _ => ⟨rfl, rfl⟩⟩
theorem fz_tr (a : fz W V h h') (b : fz W V h' h'') : fz W V h h'' := ⟨fun c k hw => (b.1 c k hw).trans (a.1 c k hw), fun c hv => ⟨(b.2 c hv).1.trans (a.2 c hv).1, (b.2 c hv).2.trans (a.2 c hv).2⟩⟩
theorem fz_mono (a : fz W V h h') (e1 : ∀ c k, W' c k = false → W c k = false) (e2 : ∀ c, V' c = false → V c = false) : fz W' V' h h' := ⟨fun c k hw => a.1 c k (e1 c k hw), fun c hv => a.2 c (e2 c hv)⟩
theorem fz_wF {v : Value} (hw : W c k = true) : fz W V h (wF h c k v) := by
  refine ⟨fun d j hd => fv_wF_ne (fun e => ?_), fun d _ => ⟨aI_wF, aL_wF⟩⟩
  rw [e.1, e.2, hw] at hd
  cases hd
theorem fz_uI {j : Nat} {x : Int32} (hv : V c = true) : fz W V h (uI h c j x) := by
  refine ⟨fun d j hd => fv_uI, fun d hd => ⟨aI_uI_ne (fun e => ?_), aL_uI⟩⟩
  rw [e, hv] at hd
  cases hd
theorem fz_uL {j : Nat} {x : Int64} (hv : V c = true) : fz W V h (uL h c j x) := by
  refine ⟨fun d j hd => fv_uL, fun d hd => ⟨aI_uL, aL_uL_ne (fun e => ?_)⟩⟩
  rw [e, hv] at hd
  cases hd
theorem fz_gI (a : fz W V h h') (hw : W c k = false) : gI h' c k = gI h c k := by unfold gI; rw [a.1 c k hw]
theorem fz_gL (a : fz W V h h') (hw : W c k = false) : gL h' c k = gL h c k := by unfold gL; rw [a.1 c k hw]
theorem fz_gR (a : fz W V h h') (hw : W c k = false) : gR h' c k = gR h c k := by unfold gR; rw [a.1 c k hw]
end sz_3
/-! what bars, in the class -/
def CE (z d ln : Nat) (K S F kn : Nat → Int32) (ow aw dd : Int32) (h : px_H) : Prop :=
  gI h 1 0 = Int32.ofNat z ∧ gI h 21 4 = Int32.ofNat d ∧ gI h (gR h 21 1) 3 = Int32.ofNat ln ∧ aI h (gR h (gR h 21 1) 0) = K ∧ aI h (gR h (gR h 21 1) 1) = S ∧ aI h (gR h (gR h 21 1) 2) = F ∧ aI h 27 = kn ∧ gI h 21 8 = ow ∧ gI h 21 9 = aw ∧ gI h 21 7 = dd
def cB (z d : Nat) (K S kn : Nat → Int32) (ow aw : Int32) (sit s : Int32) (k : Nat) : Int32 :=
  bif px_cmp .eq (K k) (Int32.ofInt 100) then ow else bif px_cmp .eq (K k) (Int32.ofInt 107) then kv kn sit z else bif px_cmp .eq (K k) (Int32.ofInt 115) then bg (qs s (Int32.ofNat d - S k) (Int32.ofNat d)) z else aw
def ff (b : Nat → Bool) : Nat → Nat → Option Nat
  | _, 0 => none
  | k, m + 1 => bif b k then some k else ff b (k + 1) m
def fr_ (o : Option Nat) : Int32 := match o with
  | some j => Int32.ofNat j
  | none => Int32.ofInt (-1)
def ob (f : Nat → Int32) : Nat → Int32
  | 0 => Int32.ofInt 0
  | k + 1 => ob f k ||| f k
theorem ob_ib (f : Nat → Int32) (i : Nat) : ∀ n : Nat, (ib (ob f n) i = true ↔ ∃ k, k < n ∧ ib (f k) i = true)
  | 0 => by
    show ib (Int32.ofInt 0) i = true ↔ _
    rw [ib_z]
    constructor
    · intro h; cases h
    · rintro ⟨q, hq, -⟩; omega
  | n + 1 => by
    show ib (ob f n ||| f n) i = true ↔ _
    rw [ib_or, Bool.or_eq_true, ob_ib f i n]
    constructor
    · rintro (⟨q, h1, h2⟩ | h1)
      · exact ⟨q, by omega, h2⟩
      · exact ⟨n, by omega, h1⟩
    · rintro ⟨q, h1, h2⟩
      by_cases hq : q = n
      · subst hq; exact Or.inr h2
      · exact Or.inl ⟨q, by omega, h2⟩
theorem ff_none {b : Nat → Bool} : ∀ {m k : Nat}, ff b k m = none ↔ ∀ j, k ≤ j → j < k + m → b j = false
  | 0, k => by
    constructor
    · intro _ j h1 h2; omega
    · intro _; rfl
  | m + 1, k => by
    show (bif b k then some k else ff b (k + 1) m) = none ↔ _
    cases hb : b k with
    | true =>
      constructor
      · intro h; cases h
      · intro h; rw [h k (by omega) (by omega)] at hb; cases hb
    | false =>
      show ff b (k + 1) m = none ↔ _
      rw [ff_none]
      constructor
      · intro h j h1 h2
        by_cases hj : j = k
        · subst hj; exact hb
        · exact h j (by omega) (by omega)
      · intro h j h1 h2; exact h j (by omega) (by omega)
theorem ff_some {b : Nat → Bool} {j : Nat} : ∀ {m k : Nat}, ff b k m = some j → k ≤ j ∧ j < k + m ∧ b j = true
  | 0, k, h => by cases h
  | m + 1, k, h => by
    have h : (bif b k then some k else ff b (k + 1) m) = some j := h
    cases hb : b k with
    | true =>
      rw [hb] at h
      cases h
      exact ⟨by omega, by omega, hb⟩
    | false =>
      rw [hb] at h
      have h : ff b (k + 1) m = some j := h
      obtain ⟨h1, h2, h3⟩ := ff_some h
      exact ⟨by omega, by omega, h3⟩
theorem ff_congr {b b' : Nat → Bool} : ∀ {m k : Nat}, (∀ j, k ≤ j → j < k + m → b j = b' j) → ff b k m = ff b' k m
  | 0, k, _ => rfl
  | m + 1, k, h => by
    show (bif b k then some k else ff b (k + 1) m) = (bif b' k then some k else ff b' (k + 1) m)
    rw [h k (by omega) (by omega), ff_congr (fun j h1 h2 => h j (by omega) (by omega))]
section sz_4
variable {z d ln : Nat} {K S F kn : Nat → Int32} {ow aw dd : Int32} {h : px_H}
theorem vl_barredBy (hE : CE z d ln K S F kn ow aw dd h) (z9 : z ≤ 10) (sit s : Int32) {k : Nat} (hk : k < 7) : fn_Course_barredBy (Int32.ofNat k) sit s h = some (cB z d K S kn ow aw sit s k) := by
  obtain ⟨e1, e2, e3, e4, e5, e6, e7, e8, e9, e10⟩ := hE
  unfold fn_Course_barredBy cB
  simp only [nm_inR k 7 hk (by omega), nm_ofNat_clamp k (by omega), cond_true, e4, e5, e8, e9, e2, vl_kinOf e1 z9, vl_satSince e1 z9, e7, Option.bind_some]
  cases px_cmp .eq (K k) (Int32.ofInt 100) <;> cases px_cmp .eq (K k) (Int32.ofInt 107) <;> cases px_cmp .eq (K k) (Int32.ofInt 115) <;> rfl
theorem vl_lineAgainst (hE : CE z d ln K S F kn ow aw dd h) (z9 : z ≤ 10) (l7 : ln ≤ 7) (s : Int32) {p : Nat} (hp : p < 10) : fn_Course_lineAgainst s (Int32.ofNat p) h = some (fr_ (ff (fun k => ib (cB z d K S kn ow aw (Int32.ofInt 0) s k) p) 0 ln)) := by
  have step : ∀ (m k n : Nat), k + m = ln → m < n → fn_Course_lineAgainst_L2 s (Int32.ofNat p) h n (Int32.ofNat k) = some (fr_ (ff (fun k => ib (cB z d K S kn ow aw (Int32.ofInt 0) s k) p) k m)) := by
    intro m
    induction m with
    | zero =>
      intro k n hm hn
      obtain ⟨n, rfl⟩ : ∃ k, n = k + 1 := ⟨n - 1, by omega⟩
      have : k = ln := by omega
      subst this
      show fb_Course_lineAgainst_L2 s (Int32.ofNat p) h (fn_Course_lineAgainst_L2 s (Int32.ofNat p) h n) (Int32.ofNat k) = _
      unfold fb_Course_lineAgainst_L2
      rw [hE.2.2.1, ge_t]
      rfl
    | succ m ih =>
      intro k n hm hn
      obtain ⟨n, rfl⟩ : ∃ k, n = k + 1 := ⟨n - 1, by omega⟩
      have e := ih (k + 1) n (by omega) (by omega)
      show fb_Course_lineAgainst_L2 s (Int32.ofNat p) h (fn_Course_lineAgainst_L2 s (Int32.ofNat p) h n) (Int32.ofNat k) = _
      unfold fb_Course_lineAgainst_L2
      rw [hE.2.2.1, ge_f (show k < ln by omega) (by omega), vl_barredBy hE z9 _ _ (show k < 7 by omega), Option.bind_some, hb_eq _ (show p < 32 by omega), inc1, e]
      show (bif !ib (cB z d K S kn ow aw (Int32.ofInt 0) s k) p then _ else _) = some (fr_ (bif ib (cB z d K S kn ow aw (Int32.ofInt 0) s k) p then some k else ff _ (k + 1) m))
      cases ib (cB z d K S kn ow aw (Int32.ofInt 0) s k) p <;> rfl
  exact step ln 0 fu (by omega) (fu_lt (by omega))
theorem vl_barredAtFirst (hE : CE z d ln K S F kn ow aw dd h) (z9 : z ≤ 10) (l7 : ln ≤ 7) (s : Int32) : fn_Course_barredAtFirst s h = some (ob (cB z d K S kn ow aw (Int32.ofInt 0) s) ln) := by
  have step : ∀ (m k n : Nat), k + m = ln → m < n → fn_Course_barredAtFirst_L4 s h n (ob (cB z d K S kn ow aw (Int32.ofInt 0) s) k) (Int32.ofNat k) = some (ob (cB z d K S kn ow aw (Int32.ofInt 0) s) ln) := by
    intro m
    induction m with
    | zero =>
      intro k n hm hn
      obtain ⟨n, rfl⟩ : ∃ k, n = k + 1 := ⟨n - 1, by omega⟩
      have : k = ln := by omega
      subst this
      show fb_Course_barredAtFirst_L4 s h (fn_Course_barredAtFirst_L4 s h n) _ (Int32.ofNat k) = _
      unfold fb_Course_barredAtFirst_L4
      rw [hE.2.2.1, ge_t]
      rfl
    | succ m ih =>
      intro k n hm hn
      obtain ⟨n, rfl⟩ : ∃ k, n = k + 1 := ⟨n - 1, by omega⟩
      have e := ih (k + 1) n (by omega) (by omega)
      show fb_Course_barredAtFirst_L4 s h (fn_Course_barredAtFirst_L4 s h n) _ (Int32.ofNat k) = _
      unfold fb_Course_barredAtFirst_L4
      rw [hE.2.2.1, ge_f (show k < ln by omega) (by omega), vl_barredBy hE z9 _ _ (show k < 7 by omega), Option.bind_some, inc1]
      exact e
  exact step ln 0 fu (by omega) (fu_lt (by omega))
/-! what becomes of each slip -/
def W3 (c k : Nat) : Bool := Nat.beq c 21 && (Nat.beq k 11 || (Nat.beq k 12 || Nat.beq k 13))
def V0 (_ : Nat) : Bool := false
theorem CE_fz {h' : px_H} (hE : CE z d ln K S F kn ow aw dd h) (a : fz W3 V0 h h') : CE z d ln K S F kn ow aw dd h' := by
  obtain ⟨e1, e2, e3, e4, e5, e6, e7, e8, e9, e10⟩ := hE
  have r : gR h' 21 1 = gR h 21 1 := fz_gR a rfl
  have n3 : W3 (gR h 21 1) 3 = false := by unfold W3; cases Nat.beq (gR h 21 1) 21 <;> rfl
  have n0 : W3 (gR h 21 1) 0 = false := by unfold W3; cases Nat.beq (gR h 21 1) 21 <;> rfl
  have n1 : W3 (gR h 21 1) 1 = false := by unfold W3; cases Nat.beq (gR h 21 1) 21 <;> rfl
  have n2 : W3 (gR h 21 1) 2 = false := by unfold W3; cases Nat.beq (gR h 21 1) 21 <;> rfl
  refine ⟨(fz_gI a rfl).trans e1, (fz_gI a rfl).trans e2, ?_, ?_, ?_, ?_, (a.2 27 rfl).1.trans e7, (fz_gI a rfl).trans e8, (fz_gI a rfl).trans e9, (fz_gI a rfl).trans e10⟩
  · rw [r, fz_gI a n3]; exact e3
  · rw [r, fz_gR a n0, (a.2 _ rfl).1]; exact e4
  · rw [r, fz_gR a n1, (a.2 _ rfl).1]; exact e5
  · rw [r, fz_gR a n2, (a.2 _ rfl).1]; exact e6
/-- one person's: may sit, is put by, is laid aside -/
def cf (b : Nat → Bool) (F : Nat → Int32) : Nat → Nat → Bool × Bool × Bool → Bool × Bool × Bool
  | _, 0, t => t
  | k, m + 1, t => cf b F (k + 1) m (t.1 && !(t.1 && b k), t.2.1 || (t.1 && b k && !px_cmp .ne (F k) (Int8.ofInt 98).toInt32), t.2.2 || (t.1 && b k && (px_cmp .ne (F k) (Int8.ofInt 98).toInt32 && !px_cmp .ne (F k) (Int8.ofInt 108).toInt32)))
theorem cf_f {b : Nat → Bool} {F : Nat → Int32} {x y : Bool} : ∀ {m k : Nat}, cf b F k m (false, x, y) = (false, x, y)
  | 0, _ => rfl
  | m + 1, k => by
    show cf b F (k + 1) m (false, x || false, y || false) = _
    rw [Bool.or_false, Bool.or_false, cf_f]
theorem cf_t {b : Nat → Bool} {F : Nat → Int32} : ∀ {m k : Nat}, cf b F k m (true, false, false) = match ff b k m with
    | none => (true, false, false)
    | some j => (false, !px_cmp .ne (F j) (Int8.ofInt 98).toInt32, px_cmp .ne (F j) (Int8.ofInt 98).toInt32 && !px_cmp .ne (F j) (Int8.ofInt 108).toInt32)
  | 0, _ => rfl
  | m + 1, k => by
    show cf b F (k + 1) m (true && !(true && b k), false || (true && b k && !px_cmp .ne (F k) (Int8.ofInt 98).toInt32), false || (true && b k && (px_cmp .ne (F k) (Int8.ofInt 98).toInt32 && !px_cmp .ne (F k) (Int8.ofInt 108).toInt32))) = match (bif b k then some k else ff b (k + 1) m) with
      | none => (true, false, false)
      | some j => (false, !px_cmp .ne (F j) (Int8.ofInt 98).toInt32, px_cmp .ne (F j) (Int8.ofInt 98).toInt32 && !px_cmp .ne (F j) (Int8.ofInt 108).toInt32)
    cases b k with
    | true =>
      show cf b F (k + 1) m (false, !px_cmp .ne (F k) (Int8.ofInt 98).toInt32, px_cmp .ne (F k) (Int8.ofInt 98).toInt32 && !px_cmp .ne (F k) (Int8.ofInt 108).toInt32) = _
      rw [cf_f]
      rfl
    | false =>
      show cf b F (k + 1) m (true, false, false) = _
      rw [cf_t]
      rfl
theorem vl_foretell_L (z9 : z ≤ 10) (l7 : ln ≤ 7) (sit s : Int32) : ∀ (m k n : Nat) (h : px_H), k + m = ln → m < n → oS h → CE z d ln K S F kn ow aw dd h → ∃ h', fn_Course_foretell_L25 sit s n (Int32.ofNat k) h = some h' ∧ oS h' ∧ fz W3 V0 h h' ∧ ∀ p, p < 10 → (ib (gI h' 21 11) p, ib (gI h' 21 12) p, ib (gI h' 21 13) p) = cf (fun k => ib (cB z d K S kn ow aw sit s k) p) F k m (ib (gI h 21 11) p, ib (gI h 21 12) p, ib (gI h 21 13) p) := by
  intro m
  induction m with
  | zero =>
    intro k n h hm hn hS hE
    obtain ⟨n, rfl⟩ : ∃ k, n = k + 1 := ⟨n - 1, by omega⟩
    have : k = ln := by omega
    subst this
    refine ⟨h, ?_, hS, fz_rf, fun p _ => rfl⟩
    show fb_Course_foretell_L25 sit s (fn_Course_foretell_L25 sit s n) (Int32.ofNat k) h = _
    unfold fb_Course_foretell_L25
    rw [hE.2.2.1, ge_t]
    rfl
  | succ m ih =>
    intro k n h hm hn hS hE
    obtain ⟨n, rfl⟩ : ∃ k, n = k + 1 := ⟨n - 1, by omega⟩
    obtain ⟨q, hq⟩ : ∃ q, q = cB z d K S kn ow aw sit s k := ⟨_, rfl⟩
    have hS1 : oS (wF h 21 11 (.int ((gI h 21 11) &&& (((gI h 21 11) &&& q) ^^^ (Int32.ofInt (-1)))))) := oS_wI (cs := [21]) (ci := 1) rfl List.mem_cons_self hS
    have f1 : fz W3 V0 h (wF h 21 11 (.int ((gI h 21 11) &&& (((gI h 21 11) &&& q) ^^^ (Int32.ofInt (-1)))))) := fz_wF rfl
    have g1 : gI (wF h 21 11 (.int ((gI h 21 11) &&& (((gI h 21 11) &&& q) ^^^ (Int32.ofInt (-1)))))) 21 11 = (gI h 21 11) &&& (((gI h 21 11) &&& q) ^^^ (Int32.ofInt (-1))) := gI_wF (cs := [21]) (ci := 1) rfl List.mem_cons_self hS
    have g2 : gI (wF h 21 11 (.int ((gI h 21 11) &&& (((gI h 21 11) &&& q) ^^^ (Int32.ofInt (-1)))))) 21 12 = gI h 21 12 := gI_wF_ne (by decide)
    have g3 : gI (wF h 21 11 (.int ((gI h 21 11) &&& (((gI h 21 11) &&& q) ^^^ (Int32.ofInt (-1)))))) 21 13 = gI h 21 13 := gI_wF_ne (by decide)
    have step : ∀ h2 : px_H, oS h2 → fz W3 V0 h h2 → (∀ p, p < 10 → (ib (gI h2 21 11) p, ib (gI h2 21 12) p, ib (gI h2 21 13) p) = (ib (gI h 21 11) p && !(ib (gI h 21 11) p && ib q p), ib (gI h 21 12) p || (ib (gI h 21 11) p && ib q p && !px_cmp .ne (F k) (Int8.ofInt 98).toInt32), ib (gI h 21 13) p || (ib (gI h 21 11) p && ib q p && (px_cmp .ne (F k) (Int8.ofInt 98).toInt32 && !px_cmp .ne (F k) (Int8.ofInt 108).toInt32)))) →
        ∃ h', fn_Course_foretell_L25 sit s n (Int32.ofNat k + Int32.ofInt 1) h2 = some h' ∧ oS h' ∧ fz W3 V0 h h' ∧ ∀ p, p < 10 → (ib (gI h' 21 11) p, ib (gI h' 21 12) p, ib (gI h' 21 13) p) = cf (fun k => ib (cB z d K S kn ow aw sit s k) p) F k (m + 1) (ib (gI h 21 11) p, ib (gI h 21 12) p, ib (gI h 21 13) p) := by
      intro h2 hS2 f2 hb
      rw [inc1]
      obtain ⟨h', a1, a2, a3, a4⟩ := ih (k + 1) n h2 (by omega) (by omega) hS2 (CE_fz hE f2)
      refine ⟨h', a1, a2, fz_tr f2 a3, fun p hp => ?_⟩
      rw [a4 p hp, hb p hp, hq]
      rfl
    have hE1 := CE_fz hE f1
    show ∃ h', fb_Course_foretell_L25 sit s (fn_Course_foretell_L25 sit s n) (Int32.ofNat k) h = some h' ∧ _
    unfold fb_Course_foretell_L25
    rw [hE.2.2.1, ge_f (show k < ln by omega) (by omega), vl_barredBy hE z9 _ _ (show k < 7 by omega), ← hq]
    simp only [Option.bind_some, cond_false, nm_inR k 7 (by omega) (by omega), cond_true, sb, nm_ofNat_clamp k (by omega), hE1.2.2.2.2.2.1]
    generalize wF h 21 11 (.int ((gI h 21 11) &&& (((gI h 21 11) &&& q) ^^^ (Int32.ofInt (-1))))) = h1 at hS1 f1 g1 g2 g3 hE1 ⊢
    cases c1 : px_cmp .ne (F k) (Int8.ofInt 98).toInt32 with
    | true =>
      cases c2 : px_cmp .ne (F k) (Int8.ofInt 108).toInt32 with
      | true =>
        refine step _ hS1 f1 (fun p hp => ?_)
        rw [g1, g2, g3, c1, c2, ib_and, ib_not _ (by omega), ib_and]
        simp
      | false =>
        have hS2 : oS (wF h1 21 13 (.int ((gI h1 21 13) ||| ((gI h 21 11) &&& q)))) := oS_wI (cs := [21]) (ci := 1) rfl List.mem_cons_self hS1
        have e1 : gI (wF h1 21 13 (.int ((gI h1 21 13) ||| ((gI h 21 11) &&& q)))) 21 11 = _ := (gI_wF_ne (by decide)).trans g1
        have e2 : gI (wF h1 21 13 (.int ((gI h1 21 13) ||| ((gI h 21 11) &&& q)))) 21 12 = _ := (gI_wF_ne (by decide)).trans g2
        have e3 : gI (wF h1 21 13 (.int ((gI h1 21 13) ||| ((gI h 21 11) &&& q)))) 21 13 = _ := gI_wF (cs := [21]) (ci := 1) rfl List.mem_cons_self hS1
        refine step _ hS2 (fz_tr f1 (fz_wF rfl)) (fun p hp => ?_)
        rw [e1, e2, e3, g3, c1, c2, ib_and, ib_not _ (by omega), ib_and, ib_or, ib_and]
        simp
    | false =>
      have hS2 : oS (wF h1 21 12 (.int ((gI h1 21 12) ||| ((gI h 21 11) &&& q)))) := oS_wI (cs := [21]) (ci := 1) rfl List.mem_cons_self hS1
      have e1 : gI (wF h1 21 12 (.int ((gI h1 21 12) ||| ((gI h 21 11) &&& q)))) 21 11 = _ := (gI_wF_ne (by decide)).trans g1
      have e3 : gI (wF h1 21 12 (.int ((gI h1 21 12) ||| ((gI h 21 11) &&& q)))) 21 13 = _ := (gI_wF_ne (by decide)).trans g3
      have e2 : gI (wF h1 21 12 (.int ((gI h1 21 12) ||| ((gI h 21 11) &&& q)))) 21 12 = _ := gI_wF (cs := [21]) (ci := 1) rfl List.mem_cons_self hS1
      refine step _ hS2 (fz_tr f1 (fz_wF rfl)) (fun p hp => ?_)
      rw [e1, e2, e3, g2, c1, ib_and, ib_not _ (by omega), ib_and, ib_or, ib_and]
      simp
theorem vl_foretell (hS : oS h) (hE : CE z d ln K S F kn ow aw dd h) (z9 : z ≤ 10) (l7 : ln ≤ 7) (th sit s : Int32) : ∃ h', fn_Course_foretell th sit s h = some h' ∧ oS h' ∧ fz W3 V0 h h' ∧ ∀ p, p < 10 → (ib (gI h' 21 11) p, ib (gI h' 21 12) p, ib (gI h' 21 13) p) = cf (fun k => ib (cB z d K S kn ow aw sit s k) p) F 0 ln (ib th p && !ib dd p, false, false) := by
  unfold fn_Course_foretell
  simp only [sb]
  have hS1 : oS (wF h 21 11 (.int (th &&& ((gI h 21 7) ^^^ (Int32.ofInt (-1)))))) := oS_wI (cs := [21]) (ci := 1) rfl List.mem_cons_self hS
  have hS2 := oS_wI (v := Int32.ofInt 0) (cs := [21]) (ci := 1) (k := 12) rfl List.mem_cons_self hS1
  have hS3 := oS_wI (v := Int32.ofInt 0) (cs := [21]) (ci := 1) (k := 13) rfl List.mem_cons_self hS2
  have f1 : fz W3 V0 h (wF h 21 11 (.int (th &&& ((gI h 21 7) ^^^ (Int32.ofInt (-1)))))) := fz_wF rfl
  have g1 : gI (wF h 21 11 (.int (th &&& ((gI h 21 7) ^^^ (Int32.ofInt (-1)))))) 21 11 = _ := gI_wF (cs := [21]) (ci := 1) rfl List.mem_cons_self hS
  generalize wF h 21 11 (.int (th &&& ((gI h 21 7) ^^^ (Int32.ofInt (-1))))) = h1 at hS1 hS2 hS3 f1 g1 ⊢
  have f2 : fz W3 V0 h (wF h1 21 12 (.int (Int32.ofInt 0))) := fz_tr f1 (fz_wF rfl)
  have g2 : gI (wF h1 21 12 (.int (Int32.ofInt 0))) 21 11 = _ := (gI_wF_ne (by decide)).trans g1
  have g3 : gI (wF h1 21 12 (.int (Int32.ofInt 0))) 21 12 = _ := gI_wF (cs := [21]) (ci := 1) rfl List.mem_cons_self hS1
  generalize wF h1 21 12 (.int (Int32.ofInt 0)) = h2 at hS2 hS3 f2 g2 g3 ⊢
  have f3 : fz W3 V0 h (wF h2 21 13 (.int (Int32.ofInt 0))) := fz_tr f2 (fz_wF rfl)
  have g4 : gI (wF h2 21 13 (.int (Int32.ofInt 0))) 21 11 = _ := (gI_wF_ne (by decide)).trans g2
  have g5 : gI (wF h2 21 13 (.int (Int32.ofInt 0))) 21 12 = _ := (gI_wF_ne (by decide)).trans g3
  have g6 : gI (wF h2 21 13 (.int (Int32.ofInt 0))) 21 13 = _ := gI_wF (cs := [21]) (ci := 1) rfl List.mem_cons_self hS2
  generalize wF h2 21 13 (.int (Int32.ofInt 0)) = h3 at hS3 f3 g4 g5 g6 ⊢
  obtain ⟨h', a1, a2, a3, a4⟩ := vl_foretell_L (sit := sit) (s := s) z9 l7 ln 0 fu h3 (by omega) (fu_lt (by omega)) hS3 (CE_fz hE f3)
  refine ⟨h', a1, a2, fz_tr f3 a3, fun p hp => ?_⟩
  rw [a4 p hp, g4, g5, g6, ib_and, ib_not _ (by omega), ib_z, hE.2.2.2.2.2.2.2.2.2]
end sz_4
end mg_3

section mg_4
/-! what bars, in the model -/
def b01 (b : Bool) : Int32 := bif b then Int32.ofInt 1 else Int32.ofInt 0
def mKin (h : px_H) (z p : Nat) : Bool := (ff (fun q => ib (gI h 69 33) q && !px_cmp .ne (aI h 71 q) (aI h 71 p)) 0 z).isSome
def mBar (h : px_H) (z : Nat) (kind : Int32) (p d : Nat) : Bool :=
  bif px_cmp .ne kind 0 then
    bif px_cmp .ne kind (Int8.ofInt 7).toInt32 then
      bif px_cmp .ne kind (Int8.ofInt 8).toInt32 then
        !px_cmp .le (aI h 90 p) 0 && !px_cmp .lt (aI h 90 p - Int32.ofInt 1) (Int32.ofNat d - kind)
      else ib (gI h 69 20) p || !px_cmp .eq (sx_in (aI h 78 d).toInt64 (aI h 73 p).toInt64 (aI h 74 p).toInt64) 0
    else !px_cmp .ge (aI h 78 d) (aI h 72 p)
  else mKin h z p
theorem has_ne (x : Int32) {p : Nat} (hp : p < 32) : px_cmp .ne (sx_has x (Int32.ofNat p)) 0 = ib x p := by
  rw [has_val x hp]
  cases ib x p <;> decide
section sz_5
variable {h : px_H} {z p d r ln : Nat}
theorem vl_doesBar_L (hz : gI h 69 3 = Int32.ofNat z) (z9 : z ≤ 10) (hp : p < 10) : ∀ (m q n : Nat), q + m = z → m < n → fn_M_doesBar_L15 (Int32.ofNat p) h n (Int32.ofNat q) = some (b01 (ff (fun q => ib (gI h 69 33) q && !px_cmp .ne (aI h 71 q) (aI h 71 p)) q m).isSome) := by
  intro m
  induction m with
  | zero =>
    intro q n hm hn
    obtain ⟨n, rfl⟩ : ∃ k, n = k + 1 := ⟨n - 1, by omega⟩
    have : q = z := by omega
    subst this
    show fb_M_doesBar_L15 (Int32.ofNat p) h (fn_M_doesBar_L15 (Int32.ofNat p) h n) (Int32.ofNat q) = _
    unfold fb_M_doesBar_L15
    rw [hz, ge_t]
    rfl
  | succ m ih =>
    intro q n hm hn
    obtain ⟨n, rfl⟩ : ∃ k, n = k + 1 := ⟨n - 1, by omega⟩
    have e := ih (q + 1) n (by omega) (by omega)
    show fb_M_doesBar_L15 (Int32.ofNat p) h (fn_M_doesBar_L15 (Int32.ofNat p) h n) (Int32.ofNat q) = _
    unfold fb_M_doesBar_L15
    rw [hz, ge_f (show q < z by omega) (by omega), has_eq _ (show q < 32 by omega), nm_inR q 10 (by omega) (by omega), nm_inR p 10 hp (by omega), nm_ofNat_clamp q (by omega), nm_ofNat_clamp p (by omega), inc1, e]
    show _ = some (b01 (bif ib (gI h 69 33) q && !px_cmp .ne (aI h 71 q) (aI h 71 p) then some q else ff _ (q + 1) m).isSome)
    cases ib (gI h 69 33) q <;> cases px_cmp .ne (aI h 71 q) (aI h 71 p) <;> rfl
theorem vl_doesBar (hz : gI h 69 3 = Int32.ofNat z) (z9 : z ≤ 10) (hp : p < 10) (hd : d < 6) (kind : Int32) : fn_M_doesBar kind (Int32.ofNat p) (Int32.ofNat d) h = some (b01 (mBar h z kind p d)) := by
  have e := vl_doesBar_L hz z9 hp z 0 fu (by omega) (fu_lt (by omega))
  have e : fn_M_doesBar_L15 (Int32.ofNat p) h fu (Int32.ofInt 0) = some (b01 (mKin h z p)) := e
  unfold fn_M_doesBar mBar
  simp only [nm_inR d 6 hd (by omega), nm_inR p 10 hp (by omega), cond_true, nm_ofNat_clamp p (by omega), nm_ofNat_clamp d (by omega), has_ne _ (show p < 32 by omega), e]
  cases px_cmp .ne kind 0 with
  | false => rfl
  | true =>
    simp only [cond_true]
    cases px_cmp .ne kind (Int8.ofInt 7).toInt32 with
    | false =>
      simp only [cond_false]
      cases px_cmp .ge (aI h 78 d) (aI h 72 p) <;> rfl
    | true =>
      simp only [cond_true]
      cases px_cmp .ne kind (Int8.ofInt 8).toInt32 with
      | true =>
        simp only [cond_true]
        cases px_cmp .le (aI h 90 p) 0 <;> cases px_cmp .lt (aI h 90 p - Int32.ofInt 1) (Int32.ofNat d - kind) <;> rfl
      | false =>
        simp only [cond_false]
        cases ib (gI h 69 20) p <;> cases px_cmp .eq (sx_in (aI h 78 d).toInt64 (aI h 73 p).toInt64 (aI h 74 p).toInt64) 0 <;> rfl
def ME (z r ln : Nat) (h : px_H) : Prop := gI h 69 3 = Int32.ofNat z ∧ gI h 69 15 = Int32.ofNat r ∧ aI h 81 r = Int32.ofNat ln
theorem ix7_t : (List.range 4).all (fun r => (List.range 7).all (fun k => decide (((Int8.ofInt 7).toInt32 * Int32.ofNat r) + Int32.ofNat k = Int32.ofNat (7 * r + k)))) = true := by decide +kernel
theorem ix7 {r k : Nat} (hr : r < 4) (hk : k < 7) : ((Int8.ofInt 7).toInt32 * Int32.ofNat r) + Int32.ofNat k = Int32.ofNat (7 * r + k) :=
  of_decide_eq_true (List.all_eq_true.mp (List.all_eq_true.mp ix7_t r (List.mem_range.mpr hr)) k (List.mem_range.mpr hk))
def mLine (h : px_H) (z r ln p d : Nat) : Option Nat := ff (fun k => mBar h z (aI h 83 (7 * r + k)) p d) 0 ln
theorem vl_MbarredBy (hE : ME z r ln h) (z9 : z ≤ 10) (r4 : r < 4) (l7 : ln ≤ 7) (hp : p < 10) (hd : d < 6) : fn_M_barredBy (Int32.ofNat p) (Int32.ofNat d) h = some (fr_ (mLine h z r ln p d)) := by
  obtain ⟨e1, e2, e3⟩ := hE
  have step : ∀ (m k n : Nat), k + m = ln → m < n → fn_M_barredBy_L2 (Int32.ofNat p) (Int32.ofNat d) h n (Int32.ofNat k) = some (fr_ (ff (fun k => mBar h z (aI h 83 (7 * r + k)) p d) k m)) := by
    intro m
    induction m with
    | zero =>
      intro k n hm hn
      obtain ⟨n, rfl⟩ : ∃ k, n = k + 1 := ⟨n - 1, by omega⟩
      have : k = ln := by omega
      subst this
      show fb_M_barredBy_L2 (Int32.ofNat p) (Int32.ofNat d) h (fn_M_barredBy_L2 (Int32.ofNat p) (Int32.ofNat d) h n) (Int32.ofNat k) = _
      unfold fb_M_barredBy_L2
      rw [e2, nm_inR r 4 r4 (by omega), nm_ofNat_clamp r (by omega), e3, ge_t]
      rfl
    | succ m ih =>
      intro k n hm hn
      obtain ⟨n, rfl⟩ : ∃ k, n = k + 1 := ⟨n - 1, by omega⟩
      have e := ih (k + 1) n (by omega) (by omega)
      show fb_M_barredBy_L2 (Int32.ofNat p) (Int32.ofNat d) h (fn_M_barredBy_L2 (Int32.ofNat p) (Int32.ofNat d) h n) (Int32.ofNat k) = _
      unfold fb_M_barredBy_L2
      rw [e2, nm_inR r 4 r4 (by omega), nm_ofNat_clamp r (by omega), e3, ge_f (show k < ln by omega) (by omega), ix7 r4 (show k < 7 by omega), nm_inR (7 * r + k) 28 (by omega) (by omega), nm_ofNat_clamp (7 * r + k) (by omega), vl_doesBar e1 z9 hp hd, Option.bind_some, inc1, e]
      show _ = some (fr_ (bif mBar h z (aI h 83 (7 * r + k)) p d then some k else ff _ (k + 1) m))
      cases mBar h z (aI h 83 (7 * r + k)) p d <;> rfl
  exact step ln 0 fu (by omega) (fu_lt (by omega))
theorem fr_ge {b : Nat → Bool} {m k : Nat} (hk : k + m < 2147483648) : px_cmp .ge (fr_ (ff b k m)) 0 = (ff b k m).isSome := by
  cases h : ff b k m with
  | none => decide
  | some j =>
    obtain ⟨h1, h2, -⟩ := ff_some h
    show px_cmp .ge (Int32.ofNat j) 0 = true
    simp only [px_cmp, decide_eq_true_eq, Int32.le_iff_toInt_le, nm_ofNat_toInt j (by omega)]
    show (0 : Int) ≤ _
    omega
theorem vl_isDead (hp : p < 10) (hd : d < 6) : fn_M_isDead (Int32.ofNat p) (Int32.ofNat d) h = some (b01 (!px_cmp .lt (aI h 78 d) (aI h 75 p))) := by
  unfold fn_M_isDead
  simp only [nm_inR d 6 hd (by omega), nm_inR p 10 hp (by omega), cond_true, nm_ofNat_clamp p (by omega), nm_ofNat_clamp d (by omega)]
  cases px_cmp .lt (aI h 78 d) (aI h 75 p) <;> rfl
/-! frames under which the bars stay as they are -/
def VC (c : Nat) : Bool := Nat.beq c 88 || Nat.beq c 89
def W0 (_ _ : Nat) : Bool := false
theorem mBar_fz {h' : px_H} (a : fz W0 VC h h') (kind : Int32) : mBar h' z kind p d = mBar h z kind p d := by
  unfold mBar mKin
  rw [fz_gI a rfl, fz_gI a rfl, (a.2 71 rfl).1, (a.2 72 rfl).1, (a.2 73 rfl).1, (a.2 74 rfl).1, (a.2 78 rfl).1, (a.2 90 rfl).1]
theorem mLine_fz {h' : px_H} (a : fz W0 VC h h') : mLine h' z r ln p d = mLine h z r ln p d := by
  unfold mLine
  refine ff_congr (fun j _ _ => ?_)
  rw [mBar_fz a, (a.2 83 rfl).1]
theorem ME_fz {h' : px_H} (a : fz W0 VC h h') (hE : ME z r ln h) : ME z r ln h' := by
  obtain ⟨e1, e2, e3⟩ := hE
  exact ⟨(fz_gI a rfl).trans e1, (fz_gI a rfl).trans e2, by rw [(a.2 81 rfl).1]; exact e3⟩
/-- those who come out again -/
def mOut (h : px_H) (z r ln d b p : Nat) : Bool := ib (aI h 89 b) p && (mLine h z r ln p d).isNone
theorem vl_opens_L {b : Nat} (z9 : z ≤ 10) (r4 : r < 4) (l7 : ln ≤ 7) (hd : d < 6) (hb : b < 2) : ∀ (m p n : Nat) (h : px_H), p + m = z → m < n → oS h → ME z r ln h → sm (aI h 88 b) → sm (aI h 89 b) → ∃ h', fn_M_opens_L57 (Int32.ofNat d) (Int32.ofNat b) n (Int32.ofNat p) h = some h' ∧ oS h' ∧ fz W0 VC h h' ∧ (∀ j, j ≠ b → aI h' 88 j = aI h 88 j ∧ aI h' 89 j = aI h 89 j) ∧ sm (aI h' 88 b) ∧ sm (aI h' 89 b) ∧ ∀ i, i < 10 → ib (aI h' 88 b) i = (ib (aI h 88 b) i || (decide (p ≤ i ∧ i < z) && mOut h z r ln d b i)) ∧ ib (aI h' 89 b) i = (ib (aI h 89 b) i && !(decide (p ≤ i ∧ i < z) && mOut h z r ln d b i)) := by
  intro m
  induction m with
  | zero =>
    intro p n h hm hn hS hE s8 s9
    obtain ⟨n, rfl⟩ : ∃ k, n = k + 1 := ⟨n - 1, by omega⟩
    have : p = z := by omega
    subst this
    refine ⟨h, ?_, hS, fz_rf, fun j _ => ⟨rfl, rfl⟩, s8, s9, fun i _ => ?_⟩
    · show fb_M_opens_L57 (Int32.ofNat d) (Int32.ofNat b) (fn_M_opens_L57 (Int32.ofNat d) (Int32.ofNat b) n) (Int32.ofNat p) h = _
      unfold fb_M_opens_L57
      rw [hE.1, ge_t]
      rfl
    · rw [show decide (p ≤ i ∧ i < p) = false from by simp only [decide_eq_false_iff_not]; omega]
      simp
  | succ m ih =>
    intro p n h hm hn hS hE s8 s9
    obtain ⟨n, rfl⟩ : ∃ k, n = k + 1 := ⟨n - 1, by omega⟩
    have skip : mOut h z r ln d b p = false → ∃ h', fn_M_opens_L57 (Int32.ofNat d) (Int32.ofNat b) n (Int32.ofNat (p + 1)) h = some h' ∧ oS h' ∧ fz W0 VC h h' ∧ (∀ j, j ≠ b → aI h' 88 j = aI h 88 j ∧ aI h' 89 j = aI h 89 j) ∧ sm (aI h' 88 b) ∧ sm (aI h' 89 b) ∧ ∀ i, i < 10 → ib (aI h' 88 b) i = (ib (aI h 88 b) i || (decide (p ≤ i ∧ i < z) && mOut h z r ln d b i)) ∧ ib (aI h' 89 b) i = (ib (aI h 89 b) i && !(decide (p ≤ i ∧ i < z) && mOut h z r ln d b i)) := by
      intro ho
      obtain ⟨h', a1, a2, a3, a4, a5, a6, a7⟩ := ih (p + 1) n h (by omega) (by omega) hS hE s8 s9
      refine ⟨h', a1, a2, a3, a4, a5, a6, fun i hi => ?_⟩
      by_cases hip : i = p
      · subst hip
        rw [(a7 i hi).1, (a7 i hi).2, ho, show decide (i + 1 ≤ i ∧ i < z) = false from by simp only [decide_eq_false_iff_not]; omega]
        simp
      · rw [(a7 i hi).1, (a7 i hi).2, show decide (p + 1 ≤ i ∧ i < z) = decide (p ≤ i ∧ i < z) from by simp only [decide_eq_decide]; omega]
        exact ⟨rfl, rfl⟩
    show ∃ h', fb_M_opens_L57 (Int32.ofNat d) (Int32.ofNat b) (fn_M_opens_L57 (Int32.ofNat d) (Int32.ofNat b) n) (Int32.ofNat p) h = some h' ∧ _
    unfold fb_M_opens_L57
    rw [hE.1, ge_f (show p < z by omega) (by omega)]
    simp only [cond_false, cond_true, nm_inR b 2 hb (by omega), nm_ofNat_clamp b (by omega), has_eq _ (show p < 32 by omega), vl_MbarredBy hE z9 r4 l7 (show p < 10 by omega) hd, Option.bind_some, inc1, sb]
    cases hA : ib (aI h 89 b) p with
    | false => exact skip (by unfold mOut; rw [hA, Bool.false_and])
    | true =>
      simp only [Bool.not_true, cond_false]
      have hge : px_cmp .ge (fr_ (mLine h z r ln p d)) 0 = (mLine h z r ln p d).isSome := fr_ge (by omega)
      rw [hge]
      cases hL : mLine h z r ln p d with
      | some j =>
        simp only [Option.isSome_some, cond_true]
        exact skip (by unfold mOut; rw [hL]; simp)
      | none =>
        simp only [Option.isSome_none, cond_false]
        have hS1 : oS (uI h 89 b ((aI h 89 b) &&& (((Int32.ofInt 1) <<< (Int32.ofNat p &&& 31)) ^^^ (Int32.ofInt (-1))))) := oS_uI (cs := [89]) (t := nr_aside) (n := 2) rfl List.mem_cons_self hS
        have x1 : aI (uI h 89 b ((aI h 89 b) &&& (((Int32.ofInt 1) <<< (Int32.ofNat p &&& 31)) ^^^ (Int32.ofInt (-1))))) 88 = aI h 88 := aI_uI_ne (by decide)
        have x2 : aI (uI h 89 b ((aI h 89 b) &&& (((Int32.ofInt 1) <<< (Int32.ofNat p &&& 31)) ^^^ (Int32.ofInt (-1))))) 89 = upd (aI h 89) b ((aI h 89 b) &&& (((Int32.ofInt 1) <<< (Int32.ofNat p &&& 31)) ^^^ (Int32.ofInt (-1)))) := aI_uI (cs := [89]) (t := nr_aside) (n := 2) rfl List.mem_cons_self hS
        rw [x1]
        generalize hh1 : uI h 89 b ((aI h 89 b) &&& (((Int32.ofInt 1) <<< (Int32.ofNat p &&& 31)) ^^^ (Int32.ofInt (-1)))) = h1 at hS1 x1 x2 ⊢
        have f1 : fz W0 VC h h1 := by rw [← hh1]; exact fz_uI rfl
        have hS2 : oS (uI h1 88 b ((aI h 88 b) ||| ((Int32.ofInt 1) <<< (Int32.ofNat p &&& 31)))) := oS_uI (cs := [88]) (t := nr_inBag) (n := 2) rfl List.mem_cons_self hS1
        have y1 : aI (uI h1 88 b ((aI h 88 b) ||| ((Int32.ofInt 1) <<< (Int32.ofNat p &&& 31)))) 89 = aI h1 89 := aI_uI_ne (by decide)
        have y2 : aI (uI h1 88 b ((aI h 88 b) ||| ((Int32.ofInt 1) <<< (Int32.ofNat p &&& 31)))) 88 = upd (aI h1 88) b ((aI h 88 b) ||| ((Int32.ofInt 1) <<< (Int32.ofNat p &&& 31))) := aI_uI (cs := [88]) (t := nr_inBag) (n := 2) rfl List.mem_cons_self hS1
        generalize hh2 : uI h1 88 b ((aI h 88 b) ||| ((Int32.ofInt 1) <<< (Int32.ofNat p &&& 31))) = h2 at hS2 y1 y2 ⊢
        have f2 : fz W0 VC h h2 := fz_tr f1 (by rw [← hh2]; exact fz_uI rfl)
        rw [x1] at y2
        rw [x2] at y1
        have b8 : aI h2 88 b = (aI h 88 b) ||| ((Int32.ofInt 1) <<< (Int32.ofNat p &&& 31)) := by rw [y2]; simp [upd]
        have b9 : aI h2 89 b = (aI h 89 b) &&& (((Int32.ofInt 1) <<< (Int32.ofNat p &&& 31)) ^^^ (Int32.ofInt (-1))) := by rw [y1]; simp [upd]
        obtain ⟨h', a1, a2, a3, a4, a5, a6, a7⟩ := ih (p + 1) n h2 (by omega) (by omega) hS2 (ME_fz f2 hE) (by rw [b8]; exact sm_or s8 (sm_one (by omega))) (by rw [b9]; exact sm_and s9 _)
        refine ⟨h', a1, a2, fz_tr f2 a3, fun j hj => ?_, a5, a6, fun i hi => ?_⟩
        · rw [(a4 j hj).1, (a4 j hj).2, y1, y2]
          simp [upd, hj]
        · rw [(a7 i hi).1, (a7 i hi).2]
          have hm2 : mOut h2 z r ln d b i = ((ib (aI h 89 b) i && !decide (i = p)) && (mLine h z r ln i d).isNone) := by
            unfold mOut
            rw [mLine_fz f2, b9, ib_and, ib_not _ (by omega), ib_one p i (by omega)]
          rw [hm2, b8, b9, ib_or, ib_and, ib_not _ (by omega), ib_one p i (by omega)]
          unfold mOut
          by_cases hip : i = p
          · subst hip
            rw [hA, hL, show decide (i ≤ i ∧ i < z) = true from by simp only [decide_eq_true_eq]; omega]
            simp
          · rw [show decide (i = p) = false from by simp only [decide_eq_false_iff_not]; exact hip, show decide (p + 1 ≤ i ∧ i < z) = decide (p ≤ i ∧ i < z) from by simp only [decide_eq_decide]; omega]
            simp
end sz_5
end mg_4

section mg_5
/-! the class's chest: opened, drawn from, closed -/
abbrev chs : List Nat := [19, 20, 47, 66, 67, 68]
abbrev ruls : List Nat := [14, 22, 54, 58, 62]
def Wc (c a k : Nat) : Bool := Nat.beq a c && Nat.ble k 1
theorem wc_no {c : Nat} (a k : Nat) (h : chs.all (fun c => !(Wc c a k)) = true) (hc : c ∈ chs) : Wc c a k = false := by
  have := List.all_eq_true.mp h c hc
  simpa using this
theorem wc_nr {c r : Nat} (k : Nat) (h : ruls.all (fun r => chs.all (fun c => !(Wc c r k))) = true) (hr : r ∈ ruls) (hc : c ∈ chs) : Wc c r k = false := wc_no r k (List.all_eq_true.mp h r hr) hc
theorem wc_k {c a : Nat} (k : Nat) (h : Nat.ble k 1 = false) : Wc c a k = false := by unfold Wc; rw [h, Bool.and_false]
section sz_6
variable {z d ln c b : Nat} {K S F kn : Nat → Int32} {ow aw dd : Int32} {h : px_H}
theorem rl_mem (hS : oS h) : gR h 21 1 ∈ ruls := by
  obtain ⟨fs, h1, h2, h3⟩ := bR_ok (cs := [21]) (ci := 1) (k := 1) (ds := ruls) (a := 21) rfl List.mem_cons_self hS
  exact h3
theorem CE_c {h' : px_H} (hS : oS h) (hc : c ∈ chs) (hE : CE z d ln K S F kn ow aw dd h) (a : fz (Wc c) V0 h h') : CE z d ln K S F kn ow aw dd h' := by
  obtain ⟨e1, e2, e3, e4, e5, e6, e7, e8, e9, e10⟩ := hE
  have hr := rl_mem hS
  have r : gR h' 21 1 = gR h 21 1 := fz_gR a (wc_no 21 1 rfl hc)
  refine ⟨(fz_gI a (wc_no 1 0 rfl hc)).trans e1, (fz_gI a (wc_k 4 rfl)).trans e2, ?_, ?_, ?_, ?_, (a.2 27 rfl).1.trans e7, (fz_gI a (wc_k 8 rfl)).trans e8, (fz_gI a (wc_k 9 rfl)).trans e9, (fz_gI a (wc_k 7 rfl)).trans e10⟩
  · rw [r, fz_gI a (wc_k 3 rfl)]; exact e3
  · rw [r, fz_gR a (wc_nr 0 rfl hr hc), (a.2 _ rfl).1]; exact e4
  · rw [r, fz_gR a (wc_nr 1 rfl hr hc), (a.2 _ rfl).1]; exact e5
  · rw [r, fz_gR a (wc_k 2 rfl), (a.2 _ rfl).1]; exact e6
theorem wc_c0 (c : Nat) : Wc c c 0 = true := by unfold Wc; rw [Nat.beq_refl]; rfl
theorem wc_c1 (c : Nat) : Wc c c 1 = true := by unfold Wc; rw [Nat.beq_refl]; rfl
theorem vl_part0 (c w : Nat) (h : px_H) : fn_Chest_part c (Int32.ofNat w) h = some (pv (gL h c 0) w) := rfl
/-- told so that no one takes it for a mere unfolding -/
theorem vl_part (c w : Nat) (h : px_H) : fn_Chest_part c (Int32.ofNat w) h = some (pv (gL h c 0) w) := Eq.trans (vl_part0 c w h) (Eq.refl _)
/-- a part is laid -/
theorem vl_setPart (hS : oS h) (hc : c ∈ chs) {w : Nat} (hw : w < 6) {x : Int32} (hx : sm x) : ∃ h', fn_Chest_setPart c (Int32.ofNat w) x h = some h' ∧ oS h' ∧ fz (Wc c) V0 h h' ∧ gI h' c 1 = gI h c 1 ∧ ∀ w', w' < 6 → pv (gL h' c 0) w' = if w' = w then x else pv (gL h c 0) w' := by
  refine ⟨wF h c 0 (.long (sv (gL h c 0) w x)), rfl, oS_wL (cs := chs) (ci := 0) rfl hc hS, fz_wF (wc_c0 c), gI_wF_ne (by omega), fun w' hw' => ?_⟩
  rw [gL_wF (cs := chs) (ci := 0) rfl hc hS]
  exact pv_sv _ hw hw' hx
theorem n2b {b : Nat} (hb : b < 2) : (Int32.ofInt 2) + Int32.ofNat b = Int32.ofNat (2 + b) := by
  match b, hb with
  | 0, _ => decide
  | 1, _ => decide
  | b + 2, h => omega
theorem vl_close (hS : oS h) (hc : c ∈ chs) (hb : gI h 21 5 = Int32.ofNat b) (b2 : b < 2) : ∃ h', fn_Chest_close c h = some h' ∧ oS h' ∧ fz (Wc c) V0 h h' ∧ gI h' c 1 = gI h c 1 ∧ ∀ w, w < 6 → pv (gL h' c 0) w = if w = 4 then Int32.ofInt 0 else if w = b then pv (gL h c 0) b ||| pv (gL h c 0) 4 else pv (gL h c 0) w := by
  obtain ⟨h1, a1, a2, a3, a4, a5⟩ := vl_setPart hS hc (w := b) (by omega) (sm_or (pv_sm (gL h c 0) b) (pv_sm (gL h c 0) 4))
  obtain ⟨h2, c1, c2, c3, c4, c5⟩ := vl_setPart a2 hc (w := 4) (by omega) sm_z
  refine ⟨h2, ?_, c2, fz_tr a3 c3, c4.trans a4, fun w hw => ?_⟩
  · unfold fn_Chest_close
    rw [hb, vl_part, Option.bind_some, show fn_Chest_part c (Int32.ofInt 4) h = some (pv (gL h c 0) 4) from rfl, Option.bind_some, a1, Option.bind_some, show fn_Chest_setPart c (Int32.ofInt 4) (Int32.ofInt 0) h1 = some h2 from c1]
    rfl
  · rw [c5 w hw]
    by_cases h4 : w = 4
    · rw [if_pos h4, if_pos h4]
    · rw [if_neg h4, if_neg h4, a5 w hw]
theorem vl_isOver (hb : gI h 21 5 = Int32.ofNat b) : fn_Chest_isOver c h = some (b01 (px_cmp .eq (pv (gL h c 0) b) 0 || !px_cmp .lt (nm_bc (pv (gL h c 0) 5)) (gI h 21 6))) := by
  unfold fn_Chest_isOver
  rw [hb, vl_part, Option.bind_some, show fn_Chest_part c (Int32.ofInt 5) h = some (pv (gL h c 0) 5) from rfl, Option.bind_some]
  cases px_cmp .eq (pv (gL h c 0) b) 0 <;> cases px_cmp .lt (nm_bc (pv (gL h c 0) 5)) (gI h 21 6) <;> rfl
/-- a slip drawn: where it comes to -/
def tgt (b : Nat) (se ba as : Bool) : Nat := bif se then 5 else bif ba then 4 else bif as then 2 + b else 9
theorem vl_takeOut (hS : oS h) (hc : c ∈ chs) (hb : gI h 21 5 = Int32.ofNat b) (b2 : b < 2) (hd : gI h 21 4 = Int32.ofNat d) (d6 : d < 6) {p : Nat} (hp : p < 10) : ∃ h', fn_Chest_takeOut c (Int32.ofNat p) h = some (b01 (ib (gI h 21 11) p), h') ∧ oS h' ∧ fz (Wc c) V0 h h' ∧ (gI h' c 1 = bif ib (gI h 21 11) p then su (gI h c 1) p (Int32.ofNat (d + 1)) else gI h c 1) ∧ ∀ w i, w < 6 → i < 10 → ib (pv (gL h' c 0) w) i = ((ib (pv (gL h c 0) w) i && !(decide (w = b) && decide (i = p))) || (decide (w = tgt b (ib (gI h 21 11) p) (ib (gI h 21 12) p) (ib (gI h 21 13) p)) && decide (i = p))) := by
  unfold fn_Chest_takeOut
  simp only [sb, hb]
  have hS1 : oS (wF h c 0 (.long (tk (gL h c 0) b p))) := oS_wL (cs := chs) (ci := 0) rfl hc hS
  have e0 : gL (wF h c 0 (.long (tk (gL h c 0) b p))) c 0 = tk (gL h c 0) b p := gL_wF (cs := chs) (ci := 0) rfl hc hS
  have e1 : gI (wF h c 0 (.long (tk (gL h c 0) b p))) c 1 = gI h c 1 := gI_wF_ne (by omega)
  have f1 : fz (Wc c) V0 h (wF h c 0 (.long (tk (gL h c 0) b p))) := fz_wF (wc_c0 c)
  have hT : ∀ w i, w < 6 → i < 10 → ib (pv (gL (wF h c 0 (.long (tk (gL h c 0) b p))) c 0) w) i = (ib (pv (gL h c 0) w) i && !(decide (w = b) && decide (i = p))) := by
    intro w i hw hi
    rw [e0]
    exact pv_tk _ (by omega) hw hp hi
  have g11 : gI (wF h c 0 (.long (tk (gL h c 0) b p))) 21 11 = gI h 21 11 := fz_gI f1 (wc_k 11 rfl)
  have g12 : gI (wF h c 0 (.long (tk (gL h c 0) b p))) 21 12 = gI h 21 12 := fz_gI f1 (wc_k 12 rfl)
  have g13 : gI (wF h c 0 (.long (tk (gL h c 0) b p))) 21 13 = gI h 21 13 := fz_gI f1 (wc_k 13 rfl)
  have g4 : gI (wF h c 0 (.long (tk (gL h c 0) b p))) 21 4 = Int32.ofNat d := (fz_gI f1 (wc_k 4 rfl)).trans hd
  have g5 : gI (wF h c 0 (.long (tk (gL h c 0) b p))) 21 5 = Int32.ofNat b := (fz_gI f1 (wc_k 5 rfl)).trans hb
  generalize hh : wF h c 0 (.long ((gL h c 0) &&& ((sx_lsl (sx_lsl (Int64.ofNat 1) (Int32.ofNat p)) ((Int8.ofInt 10).toInt32 * Int32.ofNat b)) ^^^ (Int64.ofInt (-1))))) = h1
  have hh : wF h c 0 (.long (tk (gL h c 0) b p)) = h1 := hh
  rw [hh] at hS1 e0 e1 f1 hT g11 g12 g13 g4 g5
  rw [g11, g12, g13, hb_eq _ (show p < 32 by omega), hb_eq _ (show p < 32 by omega), hb_eq _ (show p < 32 by omega)]
  have lay : ∀ w0 : Nat, w0 < 6 → ∀ i w, w < 6 → i < 10 → ib (pv (ly (gL h1 c 0) (10 * w0) p) w) i = ((ib (pv (gL h c 0) w) i && !(decide (w = b) && decide (i = p))) || (decide (w = w0) && decide (i = p))) := by
    intro w0 hw0 i w hw hi
    rw [pv_ly _ hw0 hw hp hi, hT w i hw hi]
  cases s1 : ib (gI h 21 11) p with
  | true =>
    simp only [Bool.not_true, cond_false]
    have hS2 : oS (wF h1 c 0 (.long (ly (gL h1 c 0) (10 * 5) p))) := oS_wL (cs := chs) (ci := 0) rfl hc hS1
    have k0 : gL (wF h1 c 0 (.long (ly (gL h1 c 0) (10 * 5) p))) c 0 = ly (gL h1 c 0) (10 * 5) p := gL_wF (cs := chs) (ci := 0) rfl hc hS1
    have k1 : gI (wF h1 c 0 (.long (ly (gL h1 c 0) (10 * 5) p))) c 1 = gI h c 1 := (gI_wF_ne (by omega)).trans e1
    have f2 : fz (Wc c) V0 h (wF h1 c 0 (.long (ly (gL h1 c 0) (10 * 5) p))) := fz_tr f1 (fz_wF (wc_c0 c))
    have k4 : gI (wF h1 c 0 (.long (ly (gL h1 c 0) (10 * 5) p))) 21 4 = Int32.ofNat d := (fz_gI f2 (wc_k 4 rfl)).trans hd
    refine ⟨wF (wF h1 c 0 (.long (ly (gL h1 c 0) (10 * 5) p))) c 1 (.int (su (gI h c 1) p (Int32.ofNat (d + 1)))), ?_, oS_wI (cs := chs) (ci := 0) rfl hc hS2, fz_tr f2 (fz_wF (wc_c1 c)), gI_wF (cs := chs) (ci := 0) rfl hc hS2, fun w i hw hi => ?_⟩
    · rw [← k1, ← inc1, ← k4]
      rfl
    · rw [gL_wF_ne (by omega), k0]
      exact lay 5 (by omega) i w hw hi
  | false =>
    simp only [Bool.not_false, cond_true]
    cases s2 : ib (gI h 21 12) p with
    | true =>
      simp only [Bool.not_true, cond_false]
      refine ⟨wF h1 c 0 (.long (ly (gL h1 c 0) (10 * 4) p)), rfl, oS_wL (cs := chs) (ci := 0) rfl hc hS1, fz_tr f1 (fz_wF (wc_c0 c)), (gI_wF_ne (by omega)).trans e1, fun w i hw hi => ?_⟩
      rw [gL_wF (cs := chs) (ci := 0) rfl hc hS1]
      exact lay 4 (by omega) i w hw hi
    | false =>
      simp only [Bool.not_false, cond_true]
      cases s3 : ib (gI h 21 13) p with
      | true =>
        simp only [Bool.not_true, cond_false]
        have e2 : (Int8.ofInt 20).toInt32 + ((Int8.ofInt 10).toInt32 * Int32.ofNat b) = Int32.ofNat (10 * (2 + b)) := by
          match b, b2 with
          | 0, _ => decide
          | 1, _ => decide
          | b + 2, h => omega
        rw [e2]
        refine ⟨wF h1 c 0 (.long (ly (gL h1 c 0) (10 * (2 + b)) p)), rfl, oS_wL (cs := chs) (ci := 0) rfl hc hS1, fz_tr f1 (fz_wF (wc_c0 c)), (gI_wF_ne (by omega)).trans e1, fun w i hw hi => ?_⟩
        rw [gL_wF (cs := chs) (ci := 0) rfl hc hS1]
        exact lay (2 + b) (by omega) i w hw hi
      | false =>
        simp only [Bool.not_false, cond_true]
        refine ⟨h1, rfl, hS1, f1, e1, fun w i hw hi => ?_⟩
        rw [hT w i hw hi, show decide (w = tgt b false false false) = false from by unfold tgt; simp only [cond_false, decide_eq_false_iff_not]; omega, Bool.false_and, Bool.or_false]
end sz_6
end mg_5

section mg_6
/-! a drawing is opened, in the class -/
section sz_7
variable {z d ln c b : Nat} {K S F kn : Nat → Int32} {ow aw dd : Int32} {h : px_H}
theorem vl_open_r (hS : oS h) (hc : c ∈ chs) (hE : CE z d ln K S F kn ow aw dd h) (z9 : z ≤ 10) (l7 : ln ≤ 7) (hb : gI h 21 5 = Int32.ofNat b) (b2 : b < 2) : ∃ h', ((fn_Chest_part c (Int32.ofInt 2 + gI h 21 5) h).bind fun q9 => bif px_cmp .eq q9 0 then some h else (fn_Course_barredAtFirst (gI h c 1) h).bind fun q13 => (fn_Chest_part c (gI h 21 5) h).bind fun q16 => (fn_Chest_setPart c (gI h 21 5) (q16 ||| (q9 &&& (q13 ^^^ (Int32.ofInt (-1))))) h).bind fun q19 => (fn_Chest_setPart c ((Int32.ofInt 2) + (gI h 21 5)) (q9 &&& ((q9 &&& (q13 ^^^ (Int32.ofInt (-1)))) ^^^ (Int32.ofInt (-1)))) q19).bind fun q23 => some q23) = some h' ∧ oS h' ∧ fz (Wc c) V0 h h' ∧ gI h' c 1 = gI h c 1 ∧ (∀ w, w < 6 → w ≠ b → w ≠ 2 + b → pv (gL h' c 0) w = pv (gL h c 0) w) ∧ ∀ i, i < 10 → ib (pv (gL h' c 0) b) i = (ib (pv (gL h c 0) b) i || (ib (pv (gL h c 0) (2 + b)) i && !ib (ob (cB z d K S kn ow aw (Int32.ofInt 0) (gI h c 1)) ln) i)) ∧ ib (pv (gL h' c 0) (2 + b)) i = (ib (pv (gL h c 0) (2 + b)) i && ib (ob (cB z d K S kn ow aw (Int32.ofInt 0) (gI h c 1)) ln) i) := by
  rw [hb, n2b b2]
  simp only [vl_part, Option.bind_some, vl_barredAtFirst hE z9 l7]
  generalize ob (cB z d K S kn ow aw (Int32.ofInt 0) (gI h c 1)) ln = q
  cases h0 : px_cmp .eq (pv (gL h c 0) (2 + b)) 0 with
  | true =>
    have e := (eq0_iff (pv_sm _ _)).mp h0
    refine ⟨h, rfl, hS, fz_rf, rfl, fun _ _ _ _ => rfl, fun i hi => ?_⟩
    rw [e i hi]
    simp
  | false =>
    simp only [cond_false]
    obtain ⟨h1, a1, a2, a3, a4, a5⟩ := vl_setPart hS hc (w := b) (by omega) (sm_or (pv_sm (gL h c 0) b) (sm_and (pv_sm (gL h c 0) (2 + b)) (q ^^^ (Int32.ofInt (-1)))))
    obtain ⟨h2, c1, c2, c3, c4, c5⟩ := vl_setPart a2 hc (w := 2 + b) (by omega) (sm_and (pv_sm (gL h c 0) (2 + b)) ((pv (gL h c 0) (2 + b) &&& (q ^^^ (Int32.ofInt (-1)))) ^^^ (Int32.ofInt (-1))))
    refine ⟨h2, ?_, c2, fz_tr a3 c3, c4.trans a4, fun w hw w1 w2 => ?_, fun i hi => ?_⟩
    · rw [a1, Option.bind_some, c1]
      rfl
    · rw [c5 w hw, if_neg w2, a5 w hw, if_neg w1]
    · rw [c5 b (by omega), if_neg (by omega), a5 b (by omega), if_pos rfl, c5 (2 + b) (by omega), if_pos rfl, ib_or, ib_and, ib_and, ib_not _ (by omega), ib_not _ (by omega), ib_and, ib_not _ (by omega)]
      cases ib (pv (gL h c 0) b) i <;> cases ib (pv (gL h c 0) (2 + b)) i <;> cases ib q i <;> exact ⟨rfl, rfl⟩
/-- whether the bag is filled anew -/
def anew (h : px_H) (c b : Nat) : Bool := px_cmp .eq (pv (gL h c 0) b) 0 && !px_cmp .eq (aI h 8 b) 0
theorem vl_open (hS : oS h) (hc : c ∈ chs) (hE : CE z d ln K S F kn ow aw dd h) (z9 : z ≤ 10) (l7 : ln ≤ 7) (hb : gI h 21 5 = Int32.ofNat b) (b2 : b < 2) (hp : sm (aI h 26 b)) : ∃ h', fn_Chest_open c h = some h' ∧ oS h' ∧ fz (Wc c) V0 h h' ∧ gI h' c 1 = gI h c 1 ∧ pv (gL h' c 0) 5 = Int32.ofInt 0 ∧ (∀ w, w < 5 → w ≠ b → w ≠ 2 + b → pv (gL h' c 0) w = pv (gL h c 0) w) ∧ ∀ i, i < 10 → ib (pv (gL h' c 0) b) i = (bif anew h c b then ib (aI h 26 b) i else ib (pv (gL h c 0) b) i || (ib (pv (gL h c 0) (2 + b)) i && !ib (ob (cB z d K S kn ow aw (Int32.ofInt 0) (gI h c 1)) ln) i)) ∧ ib (pv (gL h' c 0) (2 + b)) i = (bif anew h c b then false else ib (pv (gL h c 0) (2 + b)) i && ib (ob (cB z d K S kn ow aw (Int32.ofInt 0) (gI h c 1)) ln) i) := by
  obtain ⟨h1, a1, a2, a3, a4, a5⟩ := vl_setPart hS hc (w := 5) (by omega) sm_z
  have hb1 : gI h1 21 5 = Int32.ofNat b := (fz_gI a3 (wc_k 5 rfl)).trans hb
  have hE1 := CE_c hS hc hE a3
  have pb : pv (gL h1 c 0) b = pv (gL h c 0) b := by rw [a5 b (by omega), if_neg (by omega)]
  have pa : pv (gL h1 c 0) (2 + b) = pv (gL h c 0) (2 + b) := by rw [a5 (2 + b) (by omega), if_neg (by omega)]
  have p5 : pv (gL h1 c 0) 5 = Int32.ofInt 0 := by rw [a5 5 (by omega), if_pos rfl]
  have po : ∀ w, w < 5 → pv (gL h1 c 0) w = pv (gL h c 0) w := fun w hw => by rw [a5 w (by omega), if_neg (by omega)]
  have x8 : aI h1 8 = aI h 8 := (a3.2 8 rfl).1
  have x26 : aI h1 26 = aI h 26 := (a3.2 26 rfl).1
  have rest := vl_open_r a2 hc hE1 z9 l7 hb1 b2
  unfold fn_Chest_open
  rw [show fn_Chest_setPart c (Int32.ofInt 5) (Int32.ofInt 0) h = some h1 from a1, Option.bind_some]
  have hpart : fn_Chest_part c (gI h1 21 5) h1 = some (pv (gL h c 0) b) := by rw [hb1, vl_part, pb]
  have old : anew h c b = false → ∃ h', ((fn_Chest_part c (Int32.ofInt 2 + gI h1 21 5) h1).bind fun q9 => bif px_cmp .eq q9 0 then some h1 else (fn_Course_barredAtFirst (gI h1 c 1) h1).bind fun q13 => (fn_Chest_part c (gI h1 21 5) h1).bind fun q16 => (fn_Chest_setPart c (gI h1 21 5) (q16 ||| (q9 &&& (q13 ^^^ (Int32.ofInt (-1))))) h1).bind fun q19 => (fn_Chest_setPart c ((Int32.ofInt 2) + (gI h1 21 5)) (q9 &&& ((q9 &&& (q13 ^^^ (Int32.ofInt (-1)))) ^^^ (Int32.ofInt (-1)))) q19).bind fun q23 => some q23) = some h' ∧ oS h' ∧ fz (Wc c) V0 h h' ∧ gI h' c 1 = gI h c 1 ∧ pv (gL h' c 0) 5 = Int32.ofInt 0 ∧ (∀ w, w < 5 → w ≠ b → w ≠ 2 + b → pv (gL h' c 0) w = pv (gL h c 0) w) ∧ ∀ i, i < 10 → ib (pv (gL h' c 0) b) i = (bif anew h c b then ib (aI h 26 b) i else ib (pv (gL h c 0) b) i || (ib (pv (gL h c 0) (2 + b)) i && !ib (ob (cB z d K S kn ow aw (Int32.ofInt 0) (gI h c 1)) ln) i)) ∧ ib (pv (gL h' c 0) (2 + b)) i = (bif anew h c b then false else ib (pv (gL h c 0) (2 + b)) i && ib (ob (cB z d K S kn ow aw (Int32.ofInt 0) (gI h c 1)) ln) i) := by
    intro hn
    obtain ⟨h', r1, r2, r3, r4, r5, r6⟩ := rest
    refine ⟨h', r1, r2, fz_tr a3 r3, r4.trans a4, ?_, fun w hw w1 w2 => ?_, fun i hi => ?_⟩
    · rw [r5 5 (by omega) (by omega) (by omega), p5]
    · rw [r5 w (by omega) w1 w2, po w hw]
    · rw [(r6 i hi).1, (r6 i hi).2, pb, pa, a4, hn]
      exact ⟨rfl, rfl⟩
  rw [hpart, Option.bind_some]
  cases h0 : px_cmp .eq (pv (gL h c 0) b) 0 with
  | false =>
    rw [show px_cmp .ne (pv (gL h c 0) b) 0 = true from by simp only [px_cmp, decide_eq_false_iff_not, decide_eq_true_eq] at h0 ⊢; exact h0]
    have := old (by unfold anew; rw [h0, Bool.false_and])
    rw [hpart] at this
    exact this
  | true =>
    rw [show px_cmp .ne (pv (gL h c 0) b) 0 = false from by simp only [px_cmp, decide_eq_false_iff_not, decide_eq_true_eq] at h0 ⊢; exact fun e => e h0, hb1, nm_inR b 2 b2 (by omega), nm_ofNat_clamp b (by omega), x8, x26]
    simp only [cond_false, cond_true]
    cases h8 : px_cmp .eq (aI h 8 b) 0 with
    | true =>
      have := old (by unfold anew; rw [h8, Bool.not_true, Bool.and_false])
      rw [hpart, hb1] at this
      exact this
    | false =>
      simp only [cond_false]
      have hn : anew h c b = true := by unfold anew; rw [h0, h8]; rfl
      obtain ⟨h2, c1, c2, c3, c4, c5⟩ := vl_setPart a2 hc (w := b) (by omega) hp
      obtain ⟨h3, g1, g2, g3, g4, g5⟩ := vl_setPart c2 hc (w := 2 + b) (by omega) sm_z
      refine ⟨h3, ?_, g2, fz_tr a3 (fz_tr c3 g3), g4.trans (c4.trans a4), ?_, fun w hw w1 w2 => ?_, fun i hi => ?_⟩
      · rw [c1, Option.bind_some, n2b b2, g1]
        rfl
      · rw [g5 5 (by omega), if_neg (by omega), c5 5 (by omega), if_neg (by omega), p5]
      · rw [g5 w (by omega), if_neg w2, c5 w (by omega), if_neg w1, po w hw]
      · rw [hn, g5 b (by omega), if_neg (by omega), c5 b (by omega), if_pos rfl, g5 (2 + b) (by omega), if_pos rfl]
        exact ⟨rfl, ib_z i⟩
end sz_7
end mg_6

section mg_7
/-! the model's chest: a slip taken, a drawing closed, opened -/
def WM (c k : Nat) : Bool := Nat.beq c 69 && (Nat.beq k 32 || Nat.beq k 33)
def VM (c : Nat) : Bool := Nat.beq c 88 || (Nat.beq c 89 || Nat.beq c 90)
def mDead (h : px_H) (p d : Nat) : Bool := !px_cmp .lt (aI h 78 d) (aI h 75 p)
def mDoes (h : px_H) (r : Nat) (o : Option Nat) (x : Int32) : Bool := match o with
  | some k => !px_cmp .ne (aI h 84 (7 * r + k)) x
  | none => false
section sz_8
variable {h : px_H} {z p d r ln b : Nat}
theorem fz_VC {h' : px_H} (a : fz W0 VC h h') : fz WM VM h h' := fz_mono a (fun _ _ _ => rfl) (fun c hc => by
  unfold VM at hc
  unfold VC
  cases h1 : Nat.beq c 88 <;> cases h2 : Nat.beq c 89 <;> simp_all)
theorem vl_takes (hS : oS h) (hE : ME z r ln h) (z9 : z ≤ 10) (r4 : r < 4) (l7 : ln ≤ 7) (hd : d < 6) (hp : p < 10) (hb : aI h 79 d = Int32.ofNat b) (b2 : b < 2) (s8 : sm (aI h 88 b)) (s9 : sm (aI h 89 b)) (s2 : sm (gI h 69 32)) (s3 : sm (gI h 69 33)) :
    ∃ h', fn_M_takes (Int32.ofNat d) (Int32.ofNat p) h = some (b01 (!mDead h p d && (mLine h z r ln p d).isNone), h') ∧ oS h' ∧ fz WM VM h h' ∧ (∀ j, j ≠ b → aI h' 88 j = aI h 88 j ∧ aI h' 89 j = aI h 89 j) ∧ sm (aI h' 88 b) ∧ sm (aI h' 89 b) ∧ sm (gI h' 69 32) ∧ sm (gI h' 69 33) ∧ (∀ q, aI h' 90 q = if (!mDead h p d && (mLine h z r ln p d).isNone) = true ∧ q = p then Int32.ofNat (d + 1) else aI h 90 q) ∧
      ∀ i, i < 10 → ib (aI h' 88 b) i = (ib (aI h 88 b) i && !decide (i = p)) ∧ ib (gI h' 69 33) i = (ib (gI h 69 33) i || ((!mDead h p d && (mLine h z r ln p d).isNone) && decide (i = p))) ∧ ib (gI h' 69 32) i = (ib (gI h 69 32) i || ((!mDead h p d && mDoes h r (mLine h z r ln p d) 0) && decide (i = p))) ∧ ib (aI h' 89 b) i = (ib (aI h 89 b) i || ((!mDead h p d && mDoes h r (mLine h z r ln p d) (Int32.ofInt 2)) && decide (i = p))) := by
  have hS1 : oS (uI h 88 b ((aI h 88 b) &&& (((Int32.ofInt 1) <<< (Int32.ofNat p &&& 31)) ^^^ (Int32.ofInt (-1))))) := oS_uI (cs := [88]) (t := nr_inBag) (n := 2) rfl List.mem_cons_self hS
  have x8 : aI (uI h 88 b ((aI h 88 b) &&& (((Int32.ofInt 1) <<< (Int32.ofNat p &&& 31)) ^^^ (Int32.ofInt (-1))))) 88 = upd (aI h 88) b ((aI h 88 b) &&& (((Int32.ofInt 1) <<< (Int32.ofNat p &&& 31)) ^^^ (Int32.ofInt (-1)))) := aI_uI (cs := [88]) (t := nr_inBag) (n := 2) rfl List.mem_cons_self hS
  have f1 : fz W0 VC h (uI h 88 b ((aI h 88 b) &&& (((Int32.ofInt 1) <<< (Int32.ofNat p &&& 31)) ^^^ (Int32.ofInt (-1))))) := fz_uI rfl
  have x9 : aI (uI h 88 b ((aI h 88 b) &&& (((Int32.ofInt 1) <<< (Int32.ofNat p &&& 31)) ^^^ (Int32.ofInt (-1))))) 89 = aI h 89 := aI_uI_ne (by decide)
  unfold fn_M_takes
  simp only [nm_inR d 6 hd (by omega), nm_ofNat_clamp d (by omega), hb, nm_inR b 2 b2 (by omega), nm_ofNat_clamp b (by omega), cond_true, sb]
  generalize uI h 88 b ((aI h 88 b) &&& (((Int32.ofInt 1) <<< (Int32.ofNat p &&& 31)) ^^^ (Int32.ofInt (-1)))) = h1 at hS1 x8 x9 f1 ⊢
  have g2 : gI h1 69 32 = gI h 69 32 := fz_gI f1 rfl
  have g3 : gI h1 69 33 = gI h 69 33 := fz_gI f1 rfl
  have x0 : aI h1 90 = aI h 90 := (f1.2 90 rfl).1
  have x4 : aI h1 84 = aI h 84 := (f1.2 84 rfl).1
  have b8 : aI h1 88 b = (aI h 88 b) &&& (((Int32.ofInt 1) <<< (Int32.ofNat p &&& 31)) ^^^ (Int32.ofInt (-1))) := by rw [x8]; simp [upd]
  have o8 : ∀ j, j ≠ b → aI h1 88 j = aI h 88 j := fun j hj => by rw [x8]; simp [upd, hj]
  have t8 : ∀ i, i < 10 → ib (aI h1 88 b) i = (ib (aI h 88 b) i && !decide (i = p)) := fun i hi => by rw [b8, ib_and, ib_not _ (by omega), ib_one p i (by omega)]
  have s81 : sm (aI h1 88 b) := by rw [b8]; exact sm_and s8 _
  have hE1 := ME_fz f1 hE
  have hL : mLine h1 z r ln p d = mLine h z r ln p d := mLine_fz f1
  have hD : (!px_cmp .lt (aI h1 78 d) (aI h1 75 p)) = mDead h p d := by unfold mDead; rw [(f1.2 78 rfl).1, (f1.2 75 rfl).1]
  rw [vl_isDead hp hd, Option.bind_some, hD, vl_MbarredBy hE1 z9 r4 l7 hp hd, Option.bind_some, hL]
  cases hd0 : mDead h p d with
  | true =>
    refine ⟨h1, rfl, hS1, fz_VC f1, fun j hj => ⟨o8 j hj, by rw [x9]⟩, s81, by rw [x9]; exact s9, by rw [g2]; exact s2, by rw [g3]; exact s3, fun q => by rw [x0]; simp, fun i hi => ⟨t8 i hi, by rw [g3]; simp, by rw [g2]; simp, by rw [x9]; simp⟩⟩
  | false =>
    rw [show px_cmp .eq (b01 false) 0 = true from by decide, cond_true]
    have hge : px_cmp .ge (fr_ (mLine h z r ln p d)) 0 = (mLine h z r ln p d).isSome := fr_ge (by omega)
    rw [hge]
    cases hl : mLine h z r ln p d with
    | none =>
      simp only [Option.isSome_none, cond_false, nm_inR p 10 hp (by omega), cond_true, nm_ofNat_clamp p (by omega), inc1]
      have hS2 : oS (wF h1 69 33 (.int ((gI h1 69 33) ||| ((Int32.ofInt 1) <<< (Int32.ofNat p &&& 31))))) := oS_wI (cs := [69]) (ci := 9) rfl List.mem_cons_self hS1
      have y3 : gI (wF h1 69 33 (.int ((gI h1 69 33) ||| ((Int32.ofInt 1) <<< (Int32.ofNat p &&& 31))))) 69 33 = (gI h 69 33) ||| ((Int32.ofInt 1) <<< (Int32.ofNat p &&& 31)) := by rw [gI_wF (cs := [69]) (ci := 9) rfl List.mem_cons_self hS1, g3]
      have y2 : gI (wF h1 69 33 (.int ((gI h1 69 33) ||| ((Int32.ofInt 1) <<< (Int32.ofNat p &&& 31))))) 69 32 = gI h 69 32 := by rw [gI_wF_ne (by decide), g2]
      have f2 : fz WM VM h (wF h1 69 33 (.int ((gI h1 69 33) ||| ((Int32.ofInt 1) <<< (Int32.ofNat p &&& 31))))) := fz_tr (fz_VC f1) (fz_wF rfl)
      have y8 : aI (wF h1 69 33 (.int ((gI h1 69 33) ||| ((Int32.ofInt 1) <<< (Int32.ofNat p &&& 31))))) 88 = aI h1 88 := aI_wF
      have y9 : aI (wF h1 69 33 (.int ((gI h1 69 33) ||| ((Int32.ofInt 1) <<< (Int32.ofNat p &&& 31))))) 89 = aI h 89 := aI_wF.trans x9
      have y0 : aI (wF h1 69 33 (.int ((gI h1 69 33) ||| ((Int32.ofInt 1) <<< (Int32.ofNat p &&& 31))))) 90 = aI h 90 := aI_wF.trans x0
      generalize wF h1 69 33 (.int ((gI h1 69 33) ||| ((Int32.ofInt 1) <<< (Int32.ofNat p &&& 31)))) = h2 at hS2 y3 y2 f2 y8 y9 y0 ⊢
      have z8 : aI (uI h2 90 p (Int32.ofNat (d + 1))) 88 = aI h1 88 := (aI_uI_ne (by decide)).trans y8
      have z9' : aI (uI h2 90 p (Int32.ofNat (d + 1))) 89 = aI h 89 := (aI_uI_ne (by decide)).trans y9
      have z0 : aI (uI h2 90 p (Int32.ofNat (d + 1))) 90 = upd (aI h 90) p (Int32.ofNat (d + 1)) := by rw [aI_uI (cs := [90]) (t := nr_satLast) (n := 10) rfl List.mem_cons_self hS2, y0]
      refine ⟨uI h2 90 p (Int32.ofNat (d + 1)), rfl, oS_uI (cs := [90]) (t := nr_satLast) (n := 10) rfl List.mem_cons_self hS2, fz_tr f2 (fz_uI rfl), fun j hj => ⟨by rw [z8]; exact o8 j hj, by rw [z9']⟩, by rw [z8]; exact s81, by rw [z9']; exact s9, by rw [gI_uI, y2]; exact s2, by rw [gI_uI, y3]; exact sm_or s3 (sm_one hp), fun q => ?_, fun i hi => ⟨by rw [z8]; exact t8 i hi, ?_, by rw [gI_uI, y2]; simp [mDoes], by rw [z9']; simp [mDoes]⟩⟩
      · rw [z0]
        simp [upd]
      · rw [gI_uI, y3, ib_or, ib_one p i (by omega)]
        simp
    | some k =>
      obtain ⟨-, hk, -⟩ := ff_some hl
      have hk7 : k < 7 := by omega
      have hfr : fr_ (some k) = Int32.ofNat k := rfl
      simp only [Option.isSome_some, cond_true, hfr, hE1.2.1, ix7 r4 hk7, nm_inR (7 * r + k) 28 (by omega) (by omega), nm_ofNat_clamp (7 * r + k) (by omega), x4]
      have fin : ∀ (v2 v9 : Int32) (u2 u9 : Bool), sm v2 → sm v9 → (∀ i, i < 10 → ib v2 i = (u2 && decide (i = p))) → (∀ i, i < 10 → ib v9 i = (u9 && decide (i = p))) → u2 = mDoes h r (some k) 0 → u9 = mDoes h r (some k) (Int32.ofInt 2) →
          ∃ h', some (Int32.ofInt 0, uI (wF h1 69 32 (.int ((gI h1 69 32) ||| v2))) 89 b ((aI (wF h1 69 32 (.int ((gI h1 69 32) ||| v2))) 89 b) ||| v9)) = some (b01 (!false && (some k).isNone), h') ∧ oS h' ∧ fz WM VM h h' ∧ (∀ j, j ≠ b → aI h' 88 j = aI h 88 j ∧ aI h' 89 j = aI h 89 j) ∧ sm (aI h' 88 b) ∧ sm (aI h' 89 b) ∧ sm (gI h' 69 32) ∧ sm (gI h' 69 33) ∧ (∀ q, aI h' 90 q = if (!false && (some k).isNone) = true ∧ q = p then Int32.ofNat (d + 1) else aI h 90 q) ∧
            ∀ i, i < 10 → ib (aI h' 88 b) i = (ib (aI h 88 b) i && !decide (i = p)) ∧ ib (gI h' 69 33) i = (ib (gI h 69 33) i || ((!false && (some k).isNone) && decide (i = p))) ∧ ib (gI h' 69 32) i = (ib (gI h 69 32) i || ((!false && mDoes h r (some k) 0) && decide (i = p))) ∧ ib (aI h' 89 b) i = (ib (aI h 89 b) i || ((!false && mDoes h r (some k) (Int32.ofInt 2)) && decide (i = p))) := by
        intro v2 v9 u2 u9 q2 q9 w2 w9 e2 e9
        have hS2 : oS (wF h1 69 32 (.int ((gI h1 69 32) ||| v2))) := oS_wI (cs := [69]) (ci := 9) rfl List.mem_cons_self hS1
        have y2 : gI (wF h1 69 32 (.int ((gI h1 69 32) ||| v2))) 69 32 = (gI h 69 32) ||| v2 := by rw [gI_wF (cs := [69]) (ci := 9) rfl List.mem_cons_self hS1, g2]
        have y3 : gI (wF h1 69 32 (.int ((gI h1 69 32) ||| v2))) 69 33 = gI h 69 33 := by rw [gI_wF_ne (by decide), g3]
        have f2 : fz WM VM h (wF h1 69 32 (.int ((gI h1 69 32) ||| v2))) := fz_tr (fz_VC f1) (fz_wF rfl)
        have y8 : aI (wF h1 69 32 (.int ((gI h1 69 32) ||| v2))) 88 = aI h1 88 := aI_wF
        have y9 : aI (wF h1 69 32 (.int ((gI h1 69 32) ||| v2))) 89 = aI h 89 := aI_wF.trans x9
        have y0 : aI (wF h1 69 32 (.int ((gI h1 69 32) ||| v2))) 90 = aI h 90 := aI_wF.trans x0
        generalize wF h1 69 32 (.int ((gI h1 69 32) ||| v2)) = h2 at hS2 y2 y3 f2 y8 y9 y0 ⊢
        rw [y9]
        have z8 : aI (uI h2 89 b ((aI h 89 b) ||| v9)) 88 = aI h1 88 := (aI_uI_ne (by decide)).trans y8
        have z9' : aI (uI h2 89 b ((aI h 89 b) ||| v9)) 89 = upd (aI h 89) b ((aI h 89 b) ||| v9) := by rw [aI_uI (cs := [89]) (t := nr_aside) (n := 2) rfl List.mem_cons_self hS2, y9]
        have z0 : aI (uI h2 89 b ((aI h 89 b) ||| v9)) 90 = aI h 90 := (aI_uI_ne (by decide)).trans y0
        have z9b : aI (uI h2 89 b ((aI h 89 b) ||| v9)) 89 b = (aI h 89 b) ||| v9 := by rw [z9']; simp [upd]
        refine ⟨_, rfl, oS_uI (cs := [89]) (t := nr_aside) (n := 2) rfl List.mem_cons_self hS2, fz_tr f2 (fz_uI rfl), fun j hj => ⟨by rw [z8]; exact o8 j hj, by rw [z9']; simp [upd, hj]⟩, by rw [z8]; exact s81, by rw [z9b]; exact sm_or s9 q9, by rw [gI_uI, y2]; exact sm_or s2 q2, by rw [gI_uI, y3]; exact s3, fun q => by rw [z0]; simp, fun i hi => ⟨by rw [z8]; exact t8 i hi, by rw [gI_uI, y3]; simp, ?_, ?_⟩⟩
        · rw [gI_uI, y2, ib_or, w2 i hi, e2]
          simp
        · rw [z9b, ib_or, w9 i hi, e9]
          simp
      have z1 : ∀ i, i < 10 → ib (Int32.ofInt 0) i = (false && decide (i = p)) := fun i _ => by rw [ib_z]; simp
      have z2 : ∀ i, i < 10 → ib ((Int32.ofInt 1) <<< (Int32.ofNat p &&& 31)) i = (true && decide (i = p)) := fun i _ => by rw [ib_one p i (by omega)]; simp
      cases c1 : px_cmp .ne (aI h 84 (7 * r + k)) 0 <;> cases c2 : px_cmp .ne (aI h 84 (7 * r + k)) (Int32.ofInt 2)
      · exact fin _ _ true true (sm_one hp) (sm_one hp) z2 z2 (by unfold mDoes; simp only [c1]; rfl) (by unfold mDoes; simp only [c2]; rfl)
      · exact fin _ _ true false (sm_one hp) sm_z z2 z1 (by unfold mDoes; simp only [c1]; rfl) (by unfold mDoes; simp only [c2]; rfl)
      · exact fin _ _ false true sm_z (sm_one hp) z1 z2 (by unfold mDoes; simp only [c1]; rfl) (by unfold mDoes; simp only [c2]; rfl)
      · exact fin _ _ false false sm_z sm_z z1 z1 (by unfold mDoes; simp only [c1]; rfl) (by unfold mDoes; simp only [c2]; rfl)
end sz_8
end mg_7

section mg_8
/-! the class's and the model's state told in one another's words: bars -/
def awR (f t f' t' : Int32) : Prop := (f = f' ∧ t = t') ∨ (f = Int32.ofInt 1 ∧ t = Int32.ofInt 0 ∧ f' = Int32.ofInt 0 ∧ t' = Int32.ofInt (-1))
def kR (K S m : Int32) : Prop := (K = Int32.ofInt 107 ∧ m = Int32.ofInt 0) ∨ (K = Int32.ofInt 100 ∧ m = Int32.ofInt 7) ∨ (K = Int32.ofInt 119 ∧ m = Int32.ofInt 8) ∨ (K = Int32.ofInt 115 ∧ m = S ∧ ∃ v : Nat, 1 ≤ v ∧ v ≤ 6 ∧ S = Int32.ofNat v)
def fR (F m : Int32) : Prop := (F = Int32.ofInt 98 ∧ m = Int32.ofInt 0) ∨ (F = Int32.ofInt 116 ∧ m = Int32.ofInt 1) ∨ (F = Int32.ofInt 108 ∧ m = Int32.ofInt 2)
/-- bits below a number -/
def sz (z : Nat) (x : Int32) : Prop := ∀ i, z ≤ i → ib x i = false
theorem sz_sm {z : Nat} {x : Int32} (z9 : z ≤ 10) (h : sz z x) : sm x := fun i hi => h i (by omega)
/-- what stands fast in a drawing -/
def EN (z d ln r b : Nat) (K S F kn : Nat → Int32) (ow aw dd : Int32) (hM : px_H) : Prop :=
  z ≤ 10 ∧ d < 6 ∧ ln ≤ 7 ∧ r < 4 ∧ b < 2 ∧ ME z r ln hM ∧ aI hM 79 d = Int32.ofNat b ∧ (∀ k, k < ln → kR (K k) (S k) (aI hM 83 (7 * r + k)) ∧ fR (F k) (aI hM 84 (7 * r + k))) ∧
  ∀ p, p < z → ib dd p = mDead hM p d ∧ ib ow p = (!px_cmp .ge (aI hM 78 d) (aI hM 72 p)) ∧ ib aw p = (ib (gI hM 69 20) p || !px_cmp .eq (sx_in (aI hM 78 d).toInt64 (aI hM 73 p).toInt64 (aI hM 74 p).toInt64) 0) ∧ ∀ q, q < z → ib (kn q) p = !px_cmp .ne (aI hM 71 p) (aI hM 71 q)
theorem satT : (List.range 8).all (fun v => (List.range 6).all (fun d => (List.range 7).all (fun s => decide (d < v) || (decide (s = 0) || decide ((!px_cmp .lt (Int32.ofNat v - Int32.ofInt 1) 0 && (!px_cmp .lt (Int32.ofNat v - Int32.ofInt 1) (Int32.ofNat d - Int32.ofNat s) && !px_cmp .ge (Int32.ofNat v - Int32.ofInt 1) (Int32.ofNat d))) = (!px_cmp .le (Int32.ofNat v) 0 && !px_cmp .lt (Int32.ofNat v - Int32.ofInt 1) (Int32.ofNat d - Int32.ofNat s))))))) = true := by decide +kernel
theorem sat_eq {v d s : Nat} (hv : v ≤ d) (hd : d < 6) (s1 : 1 ≤ s) (s6 : s ≤ 6) : (!px_cmp .lt (Int32.ofNat v - Int32.ofInt 1) 0 && (!px_cmp .lt (Int32.ofNat v - Int32.ofInt 1) (Int32.ofNat d - Int32.ofNat s) && !px_cmp .ge (Int32.ofNat v - Int32.ofInt 1) (Int32.ofNat d))) = (!px_cmp .le (Int32.ofNat v) 0 && !px_cmp .lt (Int32.ofNat v - Int32.ofInt 1) (Int32.ofNat d - Int32.ofNat s)) := by
  have := List.all_eq_true.mp (List.all_eq_true.mp (List.all_eq_true.mp satT v (List.mem_range.mpr (by omega))) d (List.mem_range.mpr hd)) s (List.mem_range.mpr (by omega))
  simp only [Bool.or_eq_true, decide_eq_true_eq] at this
  rcases this with h | h | h
  · omega
  · omega
  · exact h
theorem s3nz_t : (List.range 7).all (fun s => decide (s = 0) || (px_cmp .ne (Int32.ofNat s) 0 && (px_cmp .ne (Int32.ofNat s) (Int8.ofInt 7).toInt32 && px_cmp .ne (Int32.ofNat s) (Int8.ofInt 8).toInt32))) = true := by decide +kernel
theorem s3nz {s : Nat} (s1 : 1 ≤ s) (s6 : s ≤ 6) : px_cmp .ne (Int32.ofNat s) 0 = true ∧ px_cmp .ne (Int32.ofNat s) (Int8.ofInt 7).toInt32 = true ∧ px_cmp .ne (Int32.ofNat s) (Int8.ofInt 8).toInt32 = true := by
  have := List.all_eq_true.mp s3nz_t s (List.mem_range.mpr (by omega))
  simp only [Bool.or_eq_true, Bool.and_eq_true, decide_eq_true_eq] at this
  rcases this with h | h
  · omega
  · exact h
theorem ff_isSome {b : Nat → Bool} {k m : Nat} : (ff b k m).isSome = true ↔ ∃ j, k ≤ j ∧ j < k + m ∧ b j = true := by
  cases h : ff b k m with
  | none =>
    have := ff_none.mp h
    constructor
    · intro e; cases e
    · rintro ⟨j, h1, h2, h3⟩
      rw [this j h1 h2] at h3
      cases h3
  | some j =>
    obtain ⟨h1, h2, h3⟩ := ff_some h
    exact ⟨fun _ => ⟨j, h1, h2, h3⟩, fun _ => rfl⟩
section sz_9
variable {z d ln r b : Nat} {K S F kn : Nat → Int32} {ow aw dd : Int32} {hM : px_H}
/-- a line bars in the class just where it bars in the model -/
theorem bar_eq (hN : EN z d ln r b K S F kn ow aw dd hM) {sit s : Int32} {p k v : Nat} (hp : p < z) (hk : k < ln) (hsit : ∀ q, q < 10 → ib sit q = ib (gI hM 69 33) q) (hs : sq s p = aI hM 90 p) (hv : aI hM 90 p = Int32.ofNat v) (vd : v ≤ d) : ib (cB z d K S kn ow aw sit s k) p = mBar hM z (aI hM 83 (7 * r + k)) p d := by
  obtain ⟨z9, d6, l7, r4, b2, hE, hb, hR, hP⟩ := hN
  obtain ⟨p1, p2, p3, p4⟩ := hP p hp
  unfold cB mBar
  rcases (hR k hk).1 with ⟨e1, e2⟩ | ⟨e1, e2⟩ | ⟨e1, e2⟩ | ⟨e1, e2, w, w1, w6, e3⟩
  · rw [e1, e2, show px_cmp .eq (Int32.ofInt 107) (Int32.ofInt 100) = false from by decide, show px_cmp .eq (Int32.ofInt 107) (Int32.ofInt 107) = true from by decide, show px_cmp .ne (Int32.ofInt 0) 0 = false from by decide]
    simp only [cond_false, cond_true]
    unfold mKin
    rw [Bool.eq_iff_iff, kv_ib, ff_isSome]
    constructor
    · rintro ⟨q, h1, h2, h3⟩
      refine ⟨q, by omega, by omega, ?_⟩
      rw [hsit q (by omega)] at h2
      rw [p4 q h1] at h3
      rw [h2, Bool.true_and]
      simp only [Bool.not_eq_true', px_cmp, decide_eq_false_iff_not, Decidable.not_not] at h3 ⊢
      exact h3.symm
    · rintro ⟨q, h1, h2, h3⟩
      simp only [Bool.and_eq_true] at h3
      refine ⟨q, by omega, by rw [hsit q (by omega)]; exact h3.1, ?_⟩
      rw [p4 q (by omega)]
      have h4 := h3.2
      simp only [Bool.not_eq_true', px_cmp, decide_eq_false_iff_not, Decidable.not_not] at h4 ⊢
      exact h4.symm
  · rw [e1, e2, show px_cmp .eq (Int32.ofInt 100) (Int32.ofInt 100) = true from by decide, show px_cmp .ne (Int32.ofInt 7) 0 = true from by decide, show px_cmp .ne (Int32.ofInt 7) (Int8.ofInt 7).toInt32 = false from by decide]
    exact p2
  · rw [e1, e2, show px_cmp .eq (Int32.ofInt 119) (Int32.ofInt 100) = false from by decide, show px_cmp .eq (Int32.ofInt 119) (Int32.ofInt 107) = false from by decide, show px_cmp .eq (Int32.ofInt 119) (Int32.ofInt 115) = false from by decide, show px_cmp .ne (Int32.ofInt 8) 0 = true from by decide, show px_cmp .ne (Int32.ofInt 8) (Int8.ofInt 7).toInt32 = true from by decide, show px_cmp .ne (Int32.ofInt 8) (Int8.ofInt 8).toInt32 = false from by decide]
    exact p3
  · obtain ⟨n1, n2, n3⟩ := s3nz w1 w6
    rw [e1, e2, e3, show px_cmp .eq (Int32.ofInt 115) (Int32.ofInt 100) = false from by decide, show px_cmp .eq (Int32.ofInt 115) (Int32.ofInt 107) = false from by decide, show px_cmp .eq (Int32.ofInt 115) (Int32.ofInt 115) = true from by decide, n1, n2, n3]
    simp only [cond_false, cond_true]
    rw [bg_ib _ _ _ z9, show decide (p < z) = true from by simp only [decide_eq_true_eq]; exact hp, Bool.true_and]
    unfold qs
    rw [hs, hv]
    exact sat_eq vd d6 w1 w6
theorem line_eq (hN : EN z d ln r b K S F kn ow aw dd hM) {sit s : Int32} {p v : Nat} (hp : p < z) (hsit : ∀ q, q < 10 → ib sit q = ib (gI hM 69 33) q) (hs : sq s p = aI hM 90 p) (hv : aI hM 90 p = Int32.ofNat v) (vd : v ≤ d) : ff (fun k => ib (cB z d K S kn ow aw sit s k) p) 0 ln = mLine hM z r ln p d := by
  unfold mLine
  exact ff_congr (fun j _ hj => bar_eq hN hp (by omega) hsit hs hv vd)
theorem fate_eq {F m : Int32} (h : fR F m) : (!px_cmp .ne F (Int8.ofInt 98).toInt32) = (!px_cmp .ne m 0) ∧ (px_cmp .ne F (Int8.ofInt 98).toInt32 && !px_cmp .ne F (Int8.ofInt 108).toInt32) = (!px_cmp .ne m (Int32.ofInt 2)) := by
  rcases h with ⟨rfl, rfl⟩ | ⟨rfl, rfl⟩ | ⟨rfl, rfl⟩ <;> decide
/-- what becomes of a slip that is there -/
theorem fates_eq (hN : EN z d ln r b K S F kn ow aw dd hM) {sit s : Int32} {p v : Nat} (hp : p < z) (hsit : ∀ q, q < 10 → ib sit q = ib (gI hM 69 33) q) (hs : sq s p = aI hM 90 p) (hv : aI hM 90 p = Int32.ofNat v) (vd : v ≤ d) : cf (fun k => ib (cB z d K S kn ow aw sit s k) p) F 0 ln (true && !ib dd p, false, false) = (!mDead hM p d && (mLine hM z r ln p d).isNone, !mDead hM p d && mDoes hM r (mLine hM z r ln p d) 0, !mDead hM p d && mDoes hM r (mLine hM z r ln p d) (Int32.ofInt 2)) := by
  have e := line_eq hN hp hsit hs hv vd
  obtain ⟨z9, d6, l7, r4, b2, hE, hb, hR, hP⟩ := hN
  rw [(hP p hp).1, Bool.true_and]
  cases hD : mDead hM p d with
  | true =>
    show cf _ F 0 ln (false, false, false) = _
    rw [cf_f]
    rfl
  | false =>
    show cf _ F 0 ln (true, false, false) = _
    rw [cf_t, e]
    cases hl : mLine hM z r ln p d with
    | none => rfl
    | some k =>
      obtain ⟨-, hk, -⟩ := ff_some hl
      obtain ⟨q1, q2⟩ := fate_eq (hR k (by omega)).2
      show (false, _, _) = (false, _, _)
      rw [q1, q2]
      rfl
end sz_9
end mg_8

section mg_9
/-! one drawing on both sides -/
/-- the chest with the drawing that goes on -/
def DR (z d b c : Nat) (hX hM : px_H) : Prop :=
  (pv (gL hX c 0) 0 = aI hM 88 0 ∧ pv (gL hX c 0) 1 = aI hM 88 1 ∧ pv (gL hX c 0) 2 = aI hM 89 0 ∧ pv (gL hX c 0) 3 = aI hM 89 1 ∧ pv (gL hX c 0) 4 = gI hM 69 32 ∧ pv (gL hX c 0) 5 = gI hM 69 33) ∧
  (∀ p, p < 10 → sq (gI hX c 1) p = aI hM 90 p ∧ ∃ v : Nat, v ≤ d + 1 ∧ aI hM 90 p = Int32.ofNat v ∧ (ib (gI hM 69 33) p = false → v ≤ d)) ∧
  (∀ j, j < 2 → sz z (aI hM 88 j) ∧ sz z (aI hM 89 j)) ∧ sz z (gI hM 69 32) ∧ ∀ p, p < 10 → ib (aI hM 88 b) p = true → ib (gI hM 69 33) p = false
/-- the chest between drawings -/
def CL (z nx c : Nat) (hX hM : px_H) : Prop :=
  (pv (gL hX c 0) 0 = aI hM 88 0 ∧ pv (gL hX c 0) 1 = aI hM 88 1 ∧ pv (gL hX c 0) 2 = aI hM 89 0 ∧ pv (gL hX c 0) 3 = aI hM 89 1 ∧ pv (gL hX c 0) 4 = Int32.ofInt 0 ∧ gI hM 69 32 = Int32.ofInt 0 ∧ gI hM 69 33 = Int32.ofInt 0) ∧
  (∀ p, p < 10 → sq (gI hX c 1) p = aI hM 90 p ∧ ∃ v : Nat, v ≤ nx ∧ aI hM 90 p = Int32.ofNat v) ∧ ∀ j, j < 2 → sz z (aI hM 88 j) ∧ sz z (aI hM 89 j)
section sy_1
variable {z d b c : Nat} {hX hM : px_H}
theorem DR_b (b2 : b < 2) (h : DR z d b c hX hM) : pv (gL hX c 0) b = aI hM 88 b ∧ pv (gL hX c 0) (2 + b) = aI hM 89 b := by
  obtain ⟨⟨h0, h1, h2, h3, h4, h5⟩, -⟩ := h
  match b, b2 with
  | 0, _ => exact ⟨h0, h2⟩
  | 1, _ => exact ⟨h1, h3⟩
  | b + 2, hb => omega
theorem CL_b {nx : Nat} (b2 : b < 2) (h : CL z nx c hX hM) : pv (gL hX c 0) b = aI hM 88 b ∧ pv (gL hX c 0) (2 + b) = aI hM 89 b := by
  obtain ⟨⟨h0, h1, h2, h3, h4, h5⟩, -⟩ := h
  match b, b2 with
  | 0, _ => exact ⟨h0, h2⟩
  | 1, _ => exact ⟨h1, h3⟩
  | b + 2, hb => omega
theorem pv_ext {x : Int64} {w : Nat} {y : Int32} (hy : sm y) (h : ∀ i, i < 10 → ib (pv x w) i = ib y i) : pv x w = y := sm_ext (pv_sm x w) hy h
theorem dd_f {a b : Nat} (h : a ≠ b) : decide (a = b) = false := by simp only [decide_eq_false_iff_not]; exact h
theorem DR_eq {hX' hM' : px_H} (h : DR z d b c hX hM) (e0 : gL hX' c 0 = gL hX c 0) (e1 : gI hX' c 1 = gI hX c 1) (m8 : aI hM' 88 = aI hM 88) (m9 : aI hM' 89 = aI hM 89) (m0 : aI hM' 90 = aI hM 90) (m2 : gI hM' 69 32 = gI hM 69 32) (m3 : gI hM' 69 33 = gI hM 69 33) : DR z d b c hX' hM' := by
  unfold DR
  rw [e0, e1, m8, m9, m0, m2, m3]
  exact h
theorem CL_eq {nx : Nat} {hX' hM' : px_H} (h : CL z nx c hX hM) (e0 : gL hX' c 0 = gL hX c 0) (e1 : gI hX' c 1 = gI hX c 1) (m8 : aI hM' 88 = aI hM 88) (m9 : aI hM' 89 = aI hM 89) (m0 : aI hM' 90 = aI hM 90) (m2 : gI hM' 69 32 = gI hM 69 32) (m3 : gI hM' 69 33 = gI hM 69 33) : CL z nx c hX' hM' := by
  unfold CL
  rw [e0, e1, m8, m9, m0, m2, m3]
  exact h
variable {ln r : Nat} {K S F kn : Nat → Int32} {ow aw dd : Int32}
/-- a slip is drawn on both sides -/
theorem sim_take (hN : EN z d ln r b K S F kn ow aw dd hM) (hc : c ∈ chs) (hSX : oS hX) (hSM : oS hM) (hbX : gI hX 21 5 = Int32.ofNat b) (hdX : gI hX 21 4 = Int32.ofNat d) (hD : DR z d b c hX hM) {p : Nat} (hp : p < 10) (hin : ib (aI hM 88 b) p = true)
    (hF : (ib (gI hX 21 11) p, ib (gI hX 21 12) p, ib (gI hX 21 13) p) = cf (fun k => ib (cB z d K S kn ow aw (pv (gL hX c 0) 5) (gI hX c 1) k) p) F 0 ln (ib (pv (gL hX c 0) b) p && !ib dd p, false, false)) :
    ∃ (t : Bool) (h2 h3 : px_H), fn_Chest_takeOut c (Int32.ofNat p) hX = some (b01 t, h2) ∧ oS h2 ∧ fz (Wc c) V0 hX h2 ∧ fn_M_takes (Int32.ofNat d) (Int32.ofNat p) hM = some (b01 t, h3) ∧ oS h3 ∧ fz WM VM hM h3 ∧ DR z d b c h2 h3 ∧ (∀ i, i < 10 → ib (gI h3 69 33) i = (ib (gI hM 69 33) i || (t && decide (i = p)))) ∧ sm (gI h3 69 33) ∧ ∀ i, i < 10 → ib (aI h3 88 b) i = (ib (aI hM 88 b) i && !decide (i = p)) := by
  obtain ⟨db, dba⟩ := DR_b hN.2.2.2.2.1 hD
  have hN0 := hN
  obtain ⟨z9, d6, l7, r4, b2, hE, hb, hR, hP⟩ := hN
  obtain ⟨⟨q0, q1, q2, q3, q4, q5⟩, hs, hz, hz2, hex⟩ := hD
  have hpz : p < z := by
    rcases Nat.lt_or_ge p z with h | h
    · exact h
    · rw [(hz b b2).1 p h] at hin; cases hin
  obtain ⟨hs1, v, v1, v2, v3⟩ := hs p hp
  have hsit0 := hex p hp hin
  have vd := v3 hsit0
  rw [db, hin, fates_eq hN0 hpz (fun q _ => by rw [q5]) hs1 v2 vd] at hF
  simp only [Prod.mk.injEq] at hF
  obtain ⟨F1, F2, F3⟩ := hF
  obtain ⟨h2, a1, a2, a3, a4, a5⟩ := vl_takeOut hSX hc hbX b2 hdX d6 hp
  obtain ⟨h3, c1, c2, c3, c4, c5, c6, c7, c8, c9, c10⟩ := vl_takes hSM hE z9 r4 l7 d6 hp hb b2 (sz_sm z9 (hz b b2).1) (sz_sm z9 (hz b b2).2) (sz_sm z9 hz2) (by rw [← q5]; exact pv_sm _ _)
  rw [F1, F2, F3] at a5
  rw [F1] at a1 a4
  generalize ht : (!mDead hM p d && (mLine hM z r ln p d).isNone) = t at a1 a4 a5 c1 c9 c10
  generalize hpb : (!mDead hM p d && mDoes hM r (mLine hM z r ln p d) 0) = pb at a5 c10
  generalize hla : (!mDead hM p d && mDoes hM r (mLine hM z r ln p d) (Int32.ofInt 2)) = la at a5 c10
  have x1 : t = true → pb = false ∧ la = false := by
    intro e
    rw [← hpb, ← hla]
    rw [e] at ht
    simp only [Bool.and_eq_true, Option.isNone_iff_eq_none] at ht
    rw [ht.2]
    unfold mDoes
    simp
  have x2 : pb = true → la = false := by
    intro e
    rw [← hla]
    rw [e] at hpb
    simp only [Bool.and_eq_true] at hpb
    cases hl : mLine hM z r ln p d with
    | none => unfold mDoes; simp
    | some k =>
      rw [hl] at hpb
      have h9 := hpb.2
      unfold mDoes at h9 ⊢
      simp only [px_cmp, Bool.not_eq_true', decide_eq_false_iff_not, Decidable.not_not] at h9
      simp only
      rw [h9, show px_cmp .ne (0 : Int32) (Int32.ofInt 2) = true from by decide]
      simp
  refine ⟨t, h2, h3, a1, a2, a3, c1, c2, c3, ?_, fun i hi => (c10 i hi).2.1, c8, fun i hi => (c10 i hi).1⟩
  have s8 : ∀ j, j < 2 → sm (aI h3 88 j) ∧ sm (aI h3 89 j) := by
    intro j hj
    by_cases e : j = b
    · subst e; exact ⟨c5, c6⟩
    · rw [(c4 j e).1, (c4 j e).2]; exact ⟨sz_sm z9 (hz j hj).1, sz_sm z9 (hz j hj).2⟩
  have P8 : ∀ j, j < 2 → pv (gL hX c 0) j = aI hM 88 j := fun j hj => by
    match j, hj with
    | 0, _ => exact q0
    | 1, _ => exact q1
    | j + 2, h => omega
  have P9 : ∀ j, j < 2 → pv (gL hX c 0) (2 + j) = aI hM 89 j := fun j hj => by
    match j, hj with
    | 0, _ => exact q2
    | 1, _ => exact q3
    | j + 2, h => omega
  have B8 : ∀ j, j < 2 → pv (gL h2 c 0) j = aI h3 88 j := by
    intro j hj
    refine pv_ext (s8 j hj).1 (fun i hi => ?_)
    rw [a5 j i (by omega) hi, P8 j hj]
    have e9 : decide (j = tgt b t pb la) = false := by
      refine dd_f ?_
      unfold tgt
      cases t <;> cases pb <;> cases la <;> simp only [cond_true, cond_false] <;> omega
    rw [e9, Bool.false_and, Bool.or_false]
    by_cases e : j = b
    · subst e
      rw [(c10 i hi).1]
      simp
    · rw [(c4 j e).1, dd_f e]
      simp
  have B9 : ∀ j, j < 2 → pv (gL h2 c 0) (2 + j) = aI h3 89 j := by
    intro j hj
    refine pv_ext (s8 j hj).2 (fun i hi => ?_)
    rw [a5 (2 + j) i (by omega) hi, P9 j hj, dd_f (show 2 + j ≠ b by omega), Bool.false_and, Bool.not_false, Bool.and_true]
    by_cases e : j = b
    · subst e
      rw [(c10 i hi).2.2.2]
      have e9 : decide (2 + j = tgt j t pb la) = la := by
        unfold tgt
        cases ht9 : t with
        | true =>
          rw [(x1 ht9).2]
          simp only [cond_true]
          exact dd_f (by omega)
        | false =>
          cases hp9 : pb with
          | true =>
            rw [x2 hp9]
            simp only [cond_true, cond_false]
            exact dd_f (by omega)
          | false =>
            cases la with
            | true => simp
            | false =>
              simp only [cond_false]
              exact dd_f (by omega)
      rw [e9]
    · rw [(c4 j e).2]
      have e9 : decide (2 + j = tgt b t pb la) = false := by
        refine dd_f ?_
        unfold tgt
        cases t <;> cases pb <;> cases la <;> simp only [cond_true, cond_false] <;> omega
      rw [e9, Bool.false_and, Bool.or_false]
  refine ⟨⟨B8 0 (by omega), B8 1 (by omega), B9 0 (by omega), B9 1 (by omega), ?_, ?_⟩, fun q hq => ?_, fun j hj => ?_, ?_, fun q hq h9 => ?_⟩
  · refine pv_ext c7 (fun i hi => ?_)
    rw [a5 4 i (by omega) hi, q4, (c10 i hi).2.2.1, dd_f (show 4 ≠ b by omega), Bool.false_and, Bool.not_false, Bool.and_true]
    have e9 : decide (4 = tgt b t pb la) = pb := by
      unfold tgt
      cases ht9 : t with
      | true =>
        rw [(x1 ht9).1]
        rfl
      | false =>
        cases pb with
        | true => rfl
        | false =>
          cases la <;> simp only [cond_true, cond_false]
          · rfl
          · exact dd_f (by omega)
    rw [e9]
  · refine pv_ext c8 (fun i hi => ?_)
    rw [a5 5 i (by omega) hi, q5, (c10 i hi).2.1, dd_f (show 5 ≠ b by omega), Bool.false_and, Bool.not_false, Bool.and_true]
    have e9 : decide (5 = tgt b t pb la) = t := by
      unfold tgt
      cases t with
      | true => rfl
      | false =>
        cases pb <;> cases la <;> simp only [cond_true, cond_false]
        · rfl
        · exact dd_f (by omega)
        · rfl
        · rfl
    rw [e9]
  · obtain ⟨w1, w, w2, w3, w4⟩ := hs q hq
    rw [a4, c9 q]
    cases t with
    | true =>
      simp only [cond_true, true_and]
      rw [sq_su _ hp hq (s3_of (by omega))]
      by_cases e : q = p
      · rw [if_pos e, if_pos e]
        refine ⟨rfl, d + 1, by omega, rfl, fun h9 => ?_⟩
        rw [(c10 q hq).2.1, e] at h9
        simp at h9
      · rw [if_neg e, if_neg e]
        refine ⟨w1, w, w2, w3, fun h9 => w4 ?_⟩
        rw [(c10 q hq).2.1, dd_f e] at h9
        simpa using h9
    | false =>
      simp only [cond_false, Bool.false_eq_true, false_and, if_false]
      refine ⟨w1, w, w2, w3, fun h9 => w4 ?_⟩
      rw [(c10 q hq).2.1] at h9
      simpa using h9
  · by_cases e : j = b
    · subst e
      refine ⟨fun i hi => ?_, fun i hi => ?_⟩
      · by_cases i9 : i < 10
        · rw [(c10 i i9).1, (hz j hj).1 i hi, Bool.false_and]
        · exact c5 i (by omega)
      · by_cases i9 : i < 10
        · rw [(c10 i i9).2.2.2, (hz j hj).2 i hi, dd_f (show i ≠ p by omega), Bool.and_false, Bool.or_false]
        · exact c6 i (by omega)
    · rw [(c4 j e).1, (c4 j e).2]
      exact hz j hj
  · intro i hi
    by_cases i9 : i < 10
    · rw [(c10 i i9).2.2.1, hz2 i hi, dd_f (show i ≠ p by omega), Bool.and_false, Bool.or_false]
    · exact c7 i (by omega)
  · rw [(c10 q hq).1] at h9
    simp only [Bool.and_eq_true, Bool.not_eq_true', decide_eq_false_iff_not] at h9
    rw [(c10 q hq).2.1, hex q hq h9.1, dd_f h9.2, Bool.and_false, Bool.or_false]
end sy_1
end mg_9
