/-! run -/
section px_q5
variable {T : px_T} {X : Option (Nat × (Nat → Int32))} {P : List px_M} {M : px_M}
variable {pc len : Nat} {lv : List (Nat × Value)} {st : List Value} {hp hp' : px_H} {r : Option Value}
theorem px_q_aln {j : Fin 4} {a : Nat} (hf : px_find pc (px_cd M) = some (len, .aload_n j)) (hv : px_find j lv = some (.ref a)) (hR : px_Z T X P M (pc + len) lv (.ref a :: st) hp r hp') : px_Z T X P M pc lv st hp r hp' :=
  px_Z_its 1 (fun call N0 nc ns => by simp only [px_its, px_step, hf, px_alu, hv]) hR
theorem px_q_iln {j : Fin 4} {a : Int32} (hf : px_find pc (px_cd M) = some (len, .iload_n j)) (hv : px_find j lv = some (.int a)) (hR : px_Z T X P M (pc + len) lv (.int a :: st) hp r hp') : px_Z T X P M pc lv st hp r hp' :=
  px_Z_its 1 (fun call N0 nc ns => by simp only [px_its, px_step, hf, px_alu, hv]) hR
theorem px_q_il {j : Nat} {a : Int32} (hf : px_find pc (px_cd M) = some (len, .iload j)) (hv : px_find j lv = some (.int a)) (hR : px_Z T X P M (pc + len) lv (.int a :: st) hp r hp') : px_Z T X P M pc lv st hp r hp' :=
  px_Z_its 1 (fun call N0 nc ns => by simp only [px_its, px_step, hf, px_alu, hv]) hR
theorem px_q_iinc {j : Nat} {n : Int} {x : Int32} (hf : px_find pc (px_cd M) = some (len, .iinc j n)) (hv : px_find j lv = some (.int x)) (hm : decide (j < px_ml M) = true) (hR : px_Z T X P M (pc + len) (px_st1 lv j (.int (x + Int32.ofInt n))) st hp r hp') : px_Z T X P M pc lv st hp r hp' :=
  px_Z_its 1 (fun call N0 nc ns => by simp only [px_its, px_step, hf, px_alu, hv, hm]) hR
end px_q5
theorem px_st1_at (lv : List (Nat × Value)) (j : Nat) (v : Value) : px_find j (px_st1 lv j v) = some v := by
  unfold px_st1 px_find
  rw [Nat.beq_refl]
theorem px_st1_ne {lv : List (Nat × Value)} {j k : Nat} {v : Value} {x : Int32} (h : px_find k lv = some (.int x)) (hk : k ≠ j ∧ k + 1 ≠ j := by decide) : px_find k (px_st1 lv j v) = some (.int x) := ab_sto1_find h (by omega) (fun _ hc => by cases hc)
theorem px_st1_nr {lv : List (Nat × Value)} {j k : Nat} {v : Value} {x : Nat} (h : px_find k lv = some (.ref x)) (hk : k ≠ j := by decide) : px_find k (px_st1 lv j v) = some (.ref x) := ab_sto1_find h (by omega) (fun _ hc => by cases hc)
/-- the bits -/
def nm_bt (n p : Nat) : Bool :=
  bif decide (nm_hb (Int32.ofNat n) (Int32.ofNat p) = 1) then decide ((nm_bc (nm_out (Int32.ofNat n) (Int32.ofNat p))).toInt + 1 = (nm_bc (Int32.ofNat n)).toInt) else decide ((nm_bc (Int32.ofNat n ||| nm_bit (Int32.ofNat p))).toInt = (nm_bc (Int32.ofNat n)).toInt + 1)
set_option maxRecDepth 1000000 in
theorem nm_bt_tab : (List.range 1024).all (fun n => (List.range 10).all (fun p => nm_bt n p)) = true := by decide +kernel
theorem nm_nat32 (x : Int32) (h0 : 0 ≤ x.toInt) : ∃ n : Nat, x = Int32.ofNat n ∧ (n : Int) = x.toInt := by
  refine ⟨x.toInt.toNat, ?_, by omega⟩
  have := ab_i32 x
  simp only [ab_in, ab_topi] at this
  rw [← Int32.toInt_inj, nm_ofNat_toInt _ (by omega)]
  omega
theorem nm_hb_and (s w p : Int32) : nm_hb (s &&& w) p = nm_hb s p &&& nm_hb w p := by
  unfold nm_hb
  have e : (s &&& w) >>> (p &&& 31) = (s >>> (p &&& 31)) &&& (w >>> (p &&& 31)) := by
    apply Int32.toBitVec_inj.mp
    simp only [Int32.toBitVec_shiftRight, Int32.toBitVec_and, BitVec.sshiftRight_eq', BitVec.sshiftRight_and_distrib]
  rw [e]
  generalize s >>> (p &&& 31) = a
  generalize w >>> (p &&& 31) = b
  apply Int32.toBitVec_inj.mp
  simp only [Int32.toBitVec_and]
  apply BitVec.eq_of_getLsbD_eq
  intro i hi
  simp only [BitVec.getLsbD_and]
  cases a.toBitVec.getLsbD i <;> cases b.toBitVec.getLsbD i <;> cases (Int32.toBitVec 1).getLsbD i <;> rfl
theorem nm_dis_out {s w b : Int32} (h : s &&& w = 0) : (s ||| b) &&& (w &&& (b ^^^ -1)) = 0 ∧ s &&& (w &&& (b ^^^ -1)) = 0 := by
  have h2 : ∀ i : Nat, (s.toBitVec.getLsbD i && w.toBitVec.getLsbD i) = false := by
    intro i
    have := congrArg (fun x : Int32 => x.toBitVec.getLsbD i) h
    simpa only [Int32.toBitVec_and, BitVec.getLsbD_and, show Int32.toBitVec 0 = (0#32) from rfl, BitVec.getLsbD_zero] using this
  constructor
  · apply Int32.toBitVec_inj.mp
    simp only [Int32.toBitVec_and, Int32.toBitVec_or, Int32.toBitVec_xor, show Int32.toBitVec (-1) = BitVec.allOnes 32 from rfl, show Int32.toBitVec 0 = (0#32) from rfl]
    apply BitVec.eq_of_getLsbD_eq
    intro i hi
    have := h2 i
    simp only [BitVec.getLsbD_and, BitVec.getLsbD_or, BitVec.getLsbD_xor, BitVec.getLsbD_allOnes, BitVec.getLsbD_zero, decide_eq_true hi]
    revert this
    cases s.toBitVec.getLsbD i <;> cases w.toBitVec.getLsbD i <;> cases b.toBitVec.getLsbD i <;> simp
  · rw [← Int32.and_assoc, h, Int32.zero_and]
theorem nm_bits {s w p : Int32} (s0 : 0 ≤ s.toInt) (s1 : s.toInt ≤ 1023) (w0 : 0 ≤ w.toInt) (w1 : w.toInt ≤ 1023) (p0 : 0 ≤ p.toInt) (p9 : p.toInt ≤ 9) (hp : nm_hb w p = 1) (hd : s &&& w = 0) :
    (nm_bc (nm_out w p)).toInt + 1 = (nm_bc w).toInt ∧ (nm_bc (s ||| nm_bit p)).toInt = (nm_bc s).toInt + 1 ∧ (s ||| nm_bit p) &&& nm_out w p = 0 ∧ s &&& nm_out w p = 0 := by
  have hns : nm_hb s p ≠ 1 := by
    intro h
    have e := nm_hb_and s w p
    rw [h, hp, hd] at e
    have e0 : nm_hb 0 p = 0 := by
      unfold nm_hb
      rw [Int32.zero_shiftRight, Int32.zero_and]
    rw [e0] at e
    exact absurd e (by decide)
  refine ⟨?_, ?_, (nm_dis_out hd).1, (nm_dis_out hd).2⟩
  · obtain ⟨m, rfl, hm⟩ := nm_nat32 w w0
    obtain ⟨q, rfl, hq⟩ := nm_nat32 p p0
    have t2 := List.all_eq_true.mp (List.all_eq_true.mp nm_bt_tab m (List.mem_range.mpr (by omega))) q (List.mem_range.mpr (by omega))
    unfold nm_bt at t2
    rw [decide_eq_true hp] at t2
    exact of_decide_eq_true t2
  · obtain ⟨n, rfl, hn⟩ := nm_nat32 s s0
    obtain ⟨q, rfl, hq⟩ := nm_nat32 p p0
    have t1 := List.all_eq_true.mp (List.all_eq_true.mp nm_bt_tab n (List.mem_range.mpr (by omega))) q (List.mem_range.mpr (by omega))
    unfold nm_bt at t1
    rw [decide_eq_false hns] at t1
    exact of_decide_eq_true t1
theorem nm_nf_ok {w q : Int32} (w0 : 0 ≤ w.toInt) (w1 : w.toInt ≤ 1023) (q0 : 0 ≤ q.toInt) (q9 : q.toInt ≤ 9) (h : q.toInt < (nm_bc w).toInt) : 0 ≤ (nm_nf w 10 q).toInt ∧ (nm_nf w 10 q).toInt ≤ 9 ∧ nm_hb w (nm_nf w 10 q) = 1 := by
  obtain ⟨n, rfl, hn⟩ := nm_nat32 w w0
  obtain ⟨k, rfl, hk⟩ := nm_nat32 q q0
  have t := List.all_eq_true.mp (List.all_eq_true.mp nm_nf_tab n (List.mem_range.mpr (by omega))) k (List.mem_range.mpr (by omega))
  simp only [Bool.or_eq_true, Bool.and_eq_true, decide_eq_true_eq] at t
  rcases t with t | t
  · omega
  · exact ⟨t.1, t.2.1, t.2.2⟩
