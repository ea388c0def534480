/-! goesThrough: what first answers, and the bag in it -/
def nm_sh (x : Int64) (k : Int) : Int64 := x <<< ((Int8.ofInt k).toInt32.toInt64 &&& 63)
def nm_fst (x0 x1 a0 a1 pb sv : Int32) : Int64 := (x0 ||| (x1 <<< ((Int8.ofInt 10).toInt32 &&& 31))).toInt64 ||| (((nm_sh a0.toInt64 20 ||| nm_sh a1.toInt64 30) ||| nm_sh pb.toInt64 40) ||| nm_sh sv.toInt64 50)
theorem nm_first_C {hp : px_H} {fs : List Value} (hG : ab_h nm_GH hp) (hx : hp[69]? = some (.inr (9, fs))) {gB gA : Nat → Int32} {pb sv : Int32} (hB : hp[na_inBag]? = some (.inl (nr_inBag, 2, .inl gB))) (hA : hp[na_aside]? = some (.inl (nr_aside, 2, .inl gA))) (hpb : fs[nf_putBy]? = some (.int pb)) (hs : fs[nf_sitting]? = some (.int sv)) :
    px_C nm_T nm_P mi_M_first [.ref 69] hp (some (.long (nm_fst (gB 0) (gB 1) (gA 0) (gA 1) pb sv))) hp := by
  refine px_C_of (N := mm_M_first) rfl (Nat.le_of_ble_eq_true rfl) ?_
  refine px_Z_its (pc1 := 1) (lv1 := [(0, .ref 69)]) (st1 := [.ref 69]) (hp1 := hp) 1 (fun _ _ _ _ => rfl) ?_
  refine px_q_get (len := 3) (ci := 9) (k := nf_inBag) (fs := fs) (v := .ref na_inBag) rfl rfl hx (nm_f hG hx rfl) ?_
  refine px_Z_its (pc1 := 5) (lv1 := [(0, .ref 69)]) (st1 := [.int 0, .ref na_inBag]) (hp1 := hp) 1 (fun _ _ _ _ => rfl) ?_
  refine px_q_iald (len := 1) rfl hB rfl rfl ?_
  refine px_Z_its (pc1 := 7) (lv1 := [(0, .ref 69)]) (st1 := [.ref 69, .int (gB 0)]) (hp1 := hp) 1 (fun _ _ _ _ => rfl) ?_
  refine px_q_get (len := 3) (ci := 9) (k := nf_inBag) (fs := fs) (v := .ref na_inBag) rfl rfl hx (nm_f hG hx rfl) ?_
  refine px_Z_its (pc1 := 11) (lv1 := [(0, .ref 69)]) (st1 := [.int 1, .ref na_inBag, .int (gB 0)]) (hp1 := hp) 1 (fun _ _ _ _ => rfl) ?_
  refine px_q_iald (len := 1) rfl hB rfl rfl ?_
  generalize hv : (gB 0 ||| (gB 1 <<< ((Int8.ofInt 10).toInt32 &&& 31))).toInt64 = v
  refine px_Z_its (pc1 := 20) (lv1 := [(1, .long v), (0, .ref 69)]) (st1 := [.ref 69, .long v]) (hp1 := hp) 7 (fun _ _ _ _ => by rw [← hv]; rfl) ?_
  refine px_q_get (len := 3) (ci := 9) (k := nf_aside) (fs := fs) (v := .ref na_aside) rfl rfl hx (nm_f hG hx rfl) ?_
  refine px_Z_its (pc1 := 24) (lv1 := [(1, .long v), (0, .ref 69)]) (st1 := [.int 0, .ref na_aside, .long v]) (hp1 := hp) 1 (fun _ _ _ _ => rfl) ?_
  refine px_q_iald (len := 1) rfl hA rfl rfl ?_
  refine px_Z_its (pc1 := 30) (lv1 := [(1, .long v), (0, .ref 69)]) (st1 := [.ref 69, .long (nm_sh (gA 0).toInt64 20), .long v]) (hp1 := hp) 4 (fun _ _ _ _ => rfl) ?_
  refine px_q_get (len := 3) (ci := 9) (k := nf_aside) (fs := fs) (v := .ref na_aside) rfl rfl hx (nm_f hG hx rfl) ?_
  refine px_Z_its (pc1 := 34) (lv1 := [(1, .long v), (0, .ref 69)]) (st1 := [.int 1, .ref na_aside, .long (nm_sh (gA 0).toInt64 20), .long v]) (hp1 := hp) 1 (fun _ _ _ _ => rfl) ?_
  refine px_q_iald (len := 1) rfl hA rfl rfl ?_
  refine px_Z_its (pc1 := 41) (lv1 := [(1, .long v), (0, .ref 69)]) (st1 := [.ref 69, .long (nm_sh (gA 0).toInt64 20 ||| nm_sh (gA 1).toInt64 30), .long v]) (hp1 := hp) 5 (fun _ _ _ _ => rfl) ?_
  refine px_q_get (len := 3) (ci := 9) (k := nf_putBy) (fs := fs) (v := .int pb) rfl rfl hx hpb ?_
  refine px_Z_its (pc1 := 50) (lv1 := [(1, .long v), (0, .ref 69)]) (st1 := [.ref 69, .long ((nm_sh (gA 0).toInt64 20 ||| nm_sh (gA 1).toInt64 30) ||| nm_sh pb.toInt64 40), .long v]) (hp1 := hp) 5 (fun _ _ _ _ => rfl) ?_
  refine px_q_get (len := 3) (ci := 9) (k := nf_sitting) (fs := fs) (v := .int sv) rfl rfl hx hs ?_
  generalize hw : nm_fst (gB 0) (gB 1) (gA 0) (gA 1) pb sv = w
  refine px_Z_its (pc1 := 61) (lv1 := [(1, .long w), (0, .ref 69)]) (st1 := [.long w]) (hp1 := hp) 7 (fun _ _ _ _ => by rw [← hw, ← hv]; rfl) ?_
  exact px_q_lret (len := 1) rfl rfl
/-- the bag b in an entry -/
def nm_bg0 (v : Int64) : Int32 := (v &&& Int64.ofInt 1023).toInt32
def nm_bg1 (v : Int64) : Int32 := ((v >>> ((Int8.ofInt 10).toInt32.toInt64 &&& 63)) &&& Int64.ofInt 1023).toInt32
