/-! goesThrough: the bag in an entry is the bag that was -/
theorem nm_x10 {x : Int32} (h0 : 0 ≤ x.toInt) (h1 : x.toInt ≤ 1023) {i : Nat} (hi : 10 ≤ i) : x.toBitVec.getLsbD i = false := by
  obtain ⟨n, rfl, hn⟩ := nm_nat32 x h0
  have e : (Int32.ofNat n).toBitVec.toNat = n := by
    show n % 2 ^ 32 = n
    omega
  rw [BitVec.getLsbD, e]
  exact Nat.testBit_lt_two_pow (Nat.lt_of_lt_of_le (show n < 2 ^ 10 by omega) (Nat.pow_le_pow_right (by decide) hi))
theorem nm_1023 (i : Nat) : (Int64.ofInt 1023).toBitVec.getLsbD i = decide (i < 10) := by
  have e : (Int64.ofInt 1023).toBitVec.toNat = 2 ^ 10 - 1 := by decide
  rw [BitVec.getLsbD, e, Nat.testBit_two_pow_sub_one]
theorem nm_sh_b (x : Int32) (k : Int) (n : Nat) (hk : ((((Int8.ofInt k).toInt32.toInt64 &&& 63).toBitVec).smod 64).toNat = n) (i : Nat) (hi : i < n) : (nm_sh x.toInt64 k).toBitVec.getLsbD i = false := by
  unfold nm_sh
  rw [Int64.toBitVec_shiftLeft, BitVec.shiftLeft_eq', hk, BitVec.getLsbD_shiftLeft]
  simp [hi]
theorem nm_fst_b (x0 x1 a0 a1 pb sv : Int32) (i : Nat) (hi : i < 20) : (nm_fst x0 x1 a0 a1 pb sv).toBitVec.getLsbD i = (x0.toBitVec.getLsbD i || (!decide (i < 10) && x1.toBitVec.getLsbD (i - 10))) := by
  unfold nm_fst
  simp only [Int64.toBitVec_or, BitVec.getLsbD_or]
  rw [nm_sh_b a0 20 20 (by decide) i hi, nm_sh_b a1 30 30 (by decide) i (by omega), nm_sh_b pb 40 40 (by decide) i (by omega), nm_sh_b sv 50 50 (by decide) i (by omega)]
  have e : ((((Int8.ofInt 10).toInt32 &&& 31).toBitVec).smod 32).toNat = 10 := by decide
  rw [Int32.toBitVec_toInt64, BitVec.getLsbD_signExtend, Int32.toBitVec_or, Int32.toBitVec_shiftLeft, BitVec.shiftLeft_eq', e]
  simp [show i < 64 by omega, show i < 32 by omega, BitVec.getLsbD_shiftLeft]
  rw [BitVec.getLsbD_eq_getElem (show i - 10 < 32 by omega)]
theorem nm_bg0_b (v : Int64) (i : Nat) (hi : i < 32) : (nm_bg0 v).toBitVec.getLsbD i = (v.toBitVec.getLsbD i && decide (i < 10)) := by
  unfold nm_bg0
  rw [Int64.toBitVec_toInt32, BitVec.getLsbD_signExtend, Int64.toBitVec_and]
  simp only [BitVec.getLsbD_and, nm_1023]
  simp [hi, show i < 64 by omega]
theorem nm_bg1_b (v : Int64) (i : Nat) (hi : i < 32) : (nm_bg1 v).toBitVec.getLsbD i = (v.toBitVec.getLsbD (10 + i) && decide (i < 10)) := by
  unfold nm_bg1
  have e : ((((Int8.ofInt 10).toInt32.toInt64 &&& 63).toBitVec).smod 64).toNat = 10 := by decide
  rw [Int64.toBitVec_toInt32, BitVec.getLsbD_signExtend, Int64.toBitVec_and, Int64.toBitVec_shiftRight, BitVec.sshiftRight_eq', e]
  simp only [BitVec.getLsbD_and, nm_1023, BitVec.getLsbD_sshiftRight]
  simp [hi, show i < 64 by omega, show ¬ (64 ≤ i) by omega, show 10 + i < 64 by omega]
theorem nm_bg0_fst {x0 x1 a0 a1 pb sv : Int32} (h0 : 0 ≤ x0.toInt) (h1 : x0.toInt ≤ 1023) : nm_bg0 (nm_fst x0 x1 a0 a1 pb sv) = x0 := by
  apply Int32.toBitVec_inj.mp
  apply BitVec.eq_of_getLsbD_eq
  intro i hi
  rw [nm_bg0_b _ i hi]
  by_cases h : i < 10
  · rw [nm_fst_b _ _ _ _ _ _ i (by omega)]
    simp [h]
  · rw [nm_x10 h0 h1 (by omega)]
    simp [h]
theorem nm_bg1_fst {x0 x1 a0 a1 pb sv : Int32} (h0 : 0 ≤ x0.toInt) (h1 : x0.toInt ≤ 1023) (h2 : 0 ≤ x1.toInt) (h3 : x1.toInt ≤ 1023) : nm_bg1 (nm_fst x0 x1 a0 a1 pb sv) = x1 := by
  apply Int32.toBitVec_inj.mp
  apply BitVec.eq_of_getLsbD_eq
  intro i hi
  rw [nm_bg1_b _ i hi]
  by_cases h : i < 10
  · rw [nm_fst_b _ _ _ _ _ _ (10 + i) (by omega), nm_x10 h0 h1 (by omega)]
    simp [h]
  · rw [nm_x10 h2 h3 (by omega)]
    simp [h]
