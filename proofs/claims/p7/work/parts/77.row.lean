/-! ROW: the law's own row, which catches what NamesInBags.row throws -/
theorem nm_in_ALL {w : Cond} (h : w ∈ lw_tbl) (hg : goodWord w = true) : w ∈ nm_ALL := List.mem_filter.mpr ⟨h, hg⟩
theorem nm_xw {w : Cond} (h : w ∈ nm_xws) : w ∈ nm_ALL := nm_in_ALL (nm_x3 w h).1 (nm_x3 w h).2
/-- the words of a throw that warm otherwise -/
def nm_Nx (U : State) : Prop := ∀ w ∈ vx_at0 "NamesInBags" nm_xic nm_nse nm_sup, nm_isD w = true → va_Nw w U
theorem nm_Nx.moved {s U : State} (hW : s.WarmedH U.vm) (h : nm_Nx s) : nm_Nx U := by
  intro w hw hd
  have h1 := h w hw hd
  unfold nm_isD at hd
  split at hd
  · exact va_Nw.warmD hW h1
  · exact va_Nw.warmC hW h1
  · cases hd
theorem nm_Nx.same {s U : State} (hvm : s.vm = U.vm) (h : nm_Nx s) : nm_Nx U := by
  intro w hw hd
  have h1 := h w hw hd
  unfold nm_isD at hd
  split at hd
  · exact va_Nw.same rfl hvm h1
  · exact va_Nw.same rfl hvm h1
  · cases hd
theorem nm_Nx.of {args : Array Value} {s : State} (hts : ∀ w ∈ lw_tbl, w.before args s = true) : nm_Nx s := by
  intro w hw hd
  have h1 := hts w (nm_x0 w hw)
  unfold nm_isD at hd
  split at hd
  · exact va_Nw.of rfl h1
  · exact va_Nw.of rfl h1
  · cases hd
theorem nm_xat {args : Array Value} {s : State} (hg : ∀ w ∈ nm_ALL, w.before args s = true) (hn : nm_Nx s) {w : Cond} (h : w ∈ vx_at0 "NamesInBags" nm_xic nm_nse nm_sup) : w.before args s = true := by
  rcases nm_x1 w h with h1 | hd
  · exact hg w (nm_in_ALL (nm_x0 w h) h1)
  · have h1 := hn w h hd
    unfold nm_isD at hd
    split at hd
    · exact va_any rfl h1
    · exact va_any rfl h1
    · cases hd
section nm_r1
variable {p : Program} {l : Launch} {e : Env} {R : Room} {s : State} {m : MethodId} {args : Array Value} {below : List Frame} {meth : Method} {c : Code} {Q : State → Prop} {base b : Nat} {D : va_G} {dA : Nat → ClassId}
def nm_GW (p : Program) (l : Launch) (e : Env) (R : Room) (s : State) (m : MethodId) (args : Array Value) (below : List Frame) (meth : Method) (c : Code) (Q : State → Prop) (base b : Nat) (D : va_G) (dA : Nat → ClassId) (ml : Nat) (S : px_S) : Prop :=
  ∀ (H : Heap) (locs : List Loc) (ls : Array Slot), px_Rel base b D nm_cl dA S.2.2.2.1 H → va_S (fun q => base ≤ q) s.heap H locs → lv_has ls ml (px_trL base b S.2.1) →
    W p l e R s m args below meth c H locs S.2.2.2.2.1 S.2.2.2.2.2 Q (F0 m S.1 ls (S.2.2.1.map (px_tr base b)))
theorem nm_GW_its {Ts : List Cond} {M : px_M} (hx : p.tables.exec = Jvm.exec) (hb : c.code = px_by M) (hml : c.maxLocals = px_ml M) (hown : s.vm.findClass (px_nm M).cls = some m.cls) (hts : ∀ w ∈ Ts, w.before args s = true) (hK : va_K D nm_cl (px_tys nm_T dA) s) (hE : px_Ex nm_EXT s) (hnm : meth.name = (px_nm M).name)
    (hwd : nm_Wd M) (hall : ∀ w ∈ nm_ALL, w ∈ Ts) (hbase : base ≤ s.heap.size) (n : Nat) : ∀ (k : Nat) (S S' : px_S), px_its nm_T none nm_P (nm_call n) M (s.heap.size - base) k S = some S' →
      nm_GW p l e (px_rm M) s m args below meth c Q base b D dA (px_ml M) S' → nm_GW p l e (px_rm M) s m args below meth c Q base b D dA (px_ml M) S := by
  obtain ⟨CW, CE, o, kM, cM, hokM, hCW, hCE, ho, hkM⟩ := hwd
  intro k
  induction k with
  | zero => intro S S' h hG; cases h; exact hG
  | succ k ih =>
    intro S S' h hG
    unfold px_its at h
    split at h
    · rename_i S1 h1
      have hG1 := ih S1 S' h hG
      obtain ⟨pc, lv, st, hp, nc, ns⟩ := S
      intro H locs ls hR hS hl
      exact px_sim (M := M) (Ts := Ts) (ALL := nm_ALL) (EXT := nm_EXT) hx hb hml hown hts hK hE nm_isX (fun _ => hnm) hokM hCW hCE ho nm_Mf hkM nm_okK nm_okL hall nm_good rfl
        (fun mi N av hp r hp' h1 h2 => px_call_sim nm_Ok (fun _ _ _ _ _ _ _ h => by cases h) n mi N av hp r hp' h1 h2)
        (fun x hx => by cases hx) hbase (fun _ => by omega) h1 hR hS hl (fun H' locs' ls' hR' hS' hl' => hG1 H' locs' ls' hR' hS' hl')
    · cases h
/-- what holds at the entry of row, the class's and the law's -/
def nm_rPc (base b : Nat) (D : va_G) (dA : Nat → ClassId) (av : List Value) (hp : px_H) : Array Value → State → Prop := fun v U =>
  v = (av.map (px_tr base b)).toArray ∧ px_Rel base b D nm_cl dA hp U.heap ∧ va_K D nm_cl (px_tys nm_T dA) U ∧ px_Ex nm_EXT U ∧ base ≤ U.heap.size ∧
    nm_Nx U ∧ vx_Zq Bundle.tN "UNASSIGNED_STACK" Bundle.steD (fun q => base ≤ q) U U.heap ∧ vx_Zq Bundle.tN "SUPPRESSED_SENTINEL" Bundle.listD (fun q => base ≤ q) U U.heap
theorem nm_rBlind (base b : Nat) (D : va_G) (dA : Nat → ClassId) (av : List Value) (hp : px_H) : FrameBlind (nm_rPc base b D dA av hp) := by
  intro a U g mk q
  obtain ⟨q0, q1, q2, q3, q4, q7, q5, q6⟩ := q
  exact ⟨q0, q1, va_K.moved (u := U) (U := U.calling g mk a) (Vm.Alike.refl U.vm) q2, px_Ex.same nm_isX (s := U) (U := U.calling g mk a) rfl q3, q4, nm_Nx.same (s := U) (U := U.calling g mk a) rfl q7,
    vx_Zq.moved (u := U) (U := U.calling g mk a) (Vm.Alike.refl U.vm) q5, vx_Zq.moved (u := U) (U := U.calling g mk a) (Vm.Alike.refl U.vm) q6⟩
def nm_rX (base b : Nat) (D : va_G) (dA : Nat → ClassId) (hp : px_H) : String → State → State → Prop :=
  vx_X (fun _ : Unit => True) (fun E _ t => E = nm_nse ∧ px_Rel base b D nm_cl dA hp t.heap) (fun q => base ≤ q)
def nm_rQ (base : Nat) : Array Value → State → Outcome → State → Prop := va_Ql (fun (_ : Int64) (_ : Unit) => False) (fun _ _ => True) (fun q => base ≤ q)
set_option maxHeartbeats 4000000 in
set_option maxRecDepth 1000000 in
theorem nm_xthrow (hl0 : l.stackTraces = false) {hp : px_H} {fs : List Value} {nums : Value} {sz i : Int32} (hx0 : hp[0]? = some (.inr (8, fs))) (h9 : fs[9]? = some (.ref 48)) (h48 : hp[48]? = some (.inr (2, [nums, .int sz]))) (hi : i.toInt < 0 ∨ sz.toInt ≤ i.toInt) :
    vx_Met l (px_nm nm_xrow1) (px_ws nm_ALL nm_xrow1) (px_rm nm_xrow1) (nm_rPc base b D dA [.ref 0, .int i] hp) (nm_rQ base) (nm_rX base b D dA hp) 1 6 (fun q => base ≤ q) := by
  refine vx_ofW (cc := px_by nm_xrow1) (maxL := 2) (ret := some .long) (by decide) rfl ?_
  intro p e s m args below meth c s₁ B hml hnt hv
  obtain ⟨rfl, hR, hK, hE, hbase, hNx, hU, hN⟩ := hv
  have hts := atoms_spec (ws := px_ws nm_ALL nm_xrow1) B.pre
  have hall : ∀ w ∈ nm_ALL, w ∈ px_ws nm_ALL nm_xrow1 := fun w hw => List.mem_cons_of_mem _ hw
  have hown := findClass_of_methodNamed B.named
  have hl := lv_entry (([.ref 0, .int i] : List Value).map (px_tr base b)) (n := 2) (by rw [px_lg_sl]; exact Nat.le_of_ble_eq_true rfl)
  rw [lg_entry_eq]
  generalize (lg_sl (([.ref 0, .int i] : List Value).map (px_tr base b)) ++ List.replicate (2 - (lg_sl (([.ref 0, .int i] : List Value).map (px_tr base b))).length) Slot.unset).toArray = ls at hl ⊢
  rw [px_lv_args] at hl
  have its := nm_GW_its (Q := vx_MQ below (nm_rQ base) (nm_rX base b D dA hp) (([.ref 0, .int i] : List Value).map (px_tr base b)).toArray s 1 6 (fun q => base ≤ q)) (below := below) (l := l) (e := e) (b := b) (M := nm_xrow1) B.exec B.bytes hml hown hts hK hE (name_of_methodNamed B.named B.method).1 nm_wd_xrow1 hall hbase 0
  have thr : nm_GW p l e (px_rm nm_xrow1) s m (([.ref 0, .int i] : List Value).map (px_tr base b)).toArray below meth c (vx_MQ below (nm_rQ base) (nm_rX base b D dA hp) (([.ref 0, .int i] : List Value).map (px_tr base b)).toArray s 1 6 (fun q => base ≤ q)) base b D dA 2 (15, [(0, .ref 0), (1, .int i)], [], hp, 0, 0) := by
    intro H locs ls hR hS hl
    show W p l e (px_rm nm_xrow1) s m (([.ref 0, .int i] : List Value).map (px_tr base b)).toArray below meth c H locs 0 0 (vx_MQ below (nm_rQ base) (nm_rX base b D dA hp) (([.ref 0, .int i] : List Value).map (px_tr base b)).toArray s 1 6 (fun q => base ≤ q)) (F0 m 15 ls [])
    refine vx_throw0 (R := px_rm nm_xrow1) (rest := []) (cc := px_by nm_xrow1) (A := fun q => base ≤ q) B.exec B.bytes hl0 (own := "NamesInBags") (cls := nm_nse) (names := nm_sup) (ik := nm_xik) (ic := nm_xic) (mc := 1) (ms := 6) hown (by decide) (by decide)
      (hts _ (hall _ (nm_xw (by decide +kernel)))) (hts _ (hall _ (nm_xw (by decide +kernel)))) (fun w hw => nm_xat (fun w h => hts _ (hall _ h)) hNx hw) nm_x2 hU hN hS (by rw [hl.1, hml]) (by decide +kernel) (by decide +kernel) (by decide +kernel) (by decide +kernel)
      (fun x hx => (hnt x hx).elim) (by decide) (by decide) (by decide) (by decide) B.notSynchronized (fun t hvm hsz hq => ⟨(), trivial, ⟨rfl, ?_⟩, ?_⟩) hS.2.2 (by decide) (by decide)
    · exact va_P.kept hR (fun k q hk => hq q.1 (hR k q hk).lt)
    · exact ⟨Nat.le_trans hS.1 hsz, fun q h1 h2 => by rw [hq q (Nat.lt_of_lt_of_le h1 hS.1)]; exact hS.2.1 q h1 h2⟩
  refine (?_ : nm_GW p l e (px_rm nm_xrow1) s m (([.ref 0, .int i] : List Value).map (px_tr base b)).toArray below meth c (vx_MQ below (nm_rQ base) (nm_rX base b D dA hp) (([.ref 0, .int i] : List Value).map (px_tr base b)).toArray s 1 6 (fun q => base ≤ q)) base b D dA 2 (0, [(0, .ref 0), (1, .int i)], [], hp, 0, 0)) s.heap [] ls hR va_S.rf hl
  refine its 1 _ (1, [(0, .ref 0), (1, .int i)], [.int i], hp, 0, 0) rfl ?_
  have f1 : px_find 1 (px_cd nm_xrow1) = some (3, .ifCond .lt 14) := rfl
  by_cases hneg : i.toInt < 0
  · have hc : px_cmp .lt i 0 = true := by
      simp only [px_cmp, decide_eq_true_eq, Int32.lt_iff_toInt_lt, Int32.toInt_zero]
      exact hneg
    exact its 1 _ (15, [(0, .ref 0), (1, .int i)], [], hp, 0, 0) (by simp only [px_its, px_step, f1, px_alu, hc]; rfl) thr
  · have hc : px_cmp .lt i 0 = false := by
      simp only [px_cmp, decide_eq_false_iff_not, Int32.lt_iff_toInt_lt, Int32.toInt_zero]
      exact hneg
    refine its 1 _ (4, [(0, .ref 0), (1, .int i)], [], hp, 0, 0) (by simp only [px_its, px_step, f1, px_alu, hc]) ?_
    refine its 2 _ (6, [(0, .ref 0), (1, .int i)], [.ref 0, .int i], hp, 0, 0) rfl ?_
    have f6 : px_find 6 (px_cd nm_xrow1) = some (3, .getfield 63) := rfl
    have j6 : px_find 63 (px_cp nm_xrow1) = some (0, 8, 9, 3) := rfl
    have f9 : px_find 9 (px_cd nm_xrow1) = some (3, .getfield 210) := rfl
    have j9 : px_find 210 (px_cp nm_xrow1) = some (0, 2, 1, 0) := rfl
    have f12 : px_find 12 (px_cd nm_xrow1) = some (3, .if_icmp .lt 11) := rfl
    have hc2 : px_cmp .lt i sz = false := by
      simp only [px_cmp, decide_eq_false_iff_not, Int32.lt_iff_toInt_lt]
      omega
    refine its 1 _ (9, [(0, .ref 0), (1, .int i)], [.ref 48, .int i], hp, 0, 0) (by simp only [px_its, px_step, f6, px_alu, j6, hx0, Nat.beq_refl, h9]) ?_
    refine its 1 _ (12, [(0, .ref 0), (1, .int i)], [.int sz, .int i], hp, 0, 0) (by simp only [px_its, px_step, f9, px_alu, j9, h48, Nat.beq_refl]; rfl) ?_
    exact its 1 _ (15, [(0, .ref 0), (1, .int i)], [], hp, 0, 0) (by simp only [px_its, px_step, f12, px_alu, hc2]) thr
abbrev nm_lws : List Cond := .codeWith nm_ly (px_by nm_lrow1) 4 (some .int) nm_lhh :: nm_ALL
set_option maxHeartbeats 4000000 in
set_option maxRecDepth 1000000 in
theorem nm_lthrow (hl0 : l.stackTraces = false) {hp : px_H} {fs : List Value} {nums : Value} {sz i : Int32} (hx0 : hp[0]? = some (.inr (8, fs))) (h9 : fs[9]? = some (.ref 48)) (h48 : hp[48]? = some (.inr (2, [nums, .int sz]))) (hi : i.toInt < 0 ∨ sz.toInt ≤ i.toInt) :
    Met l nm_ly nm_lws (px_rm nm_lrow1) (nm_rPc base b D dA [.ref 0, .int i, .ref 105] hp) (px_Qc base b D nm_cl dA (some (.int 1)) hp) 1 6 (fun q => base ≤ q) := by
  refine va_MetW (cc := px_by nm_lrow1) (maxL := 4) (ret := some .int) (hh := nm_lhh) (by decide) rfl ?_
  intro p e s m args below meth c s₁ B hml hv
  obtain ⟨rfl, hR, hK, hE, hbase, hNx, hU, hN⟩ := hv
  have hts := atoms_spec (ws := nm_lws) B.pre
  have hall : ∀ w ∈ nm_ALL, w ∈ nm_lws := fun w hw => List.mem_cons_of_mem _ hw
  have hown := findClass_of_methodNamed B.named
  have htab := vx_table (x := nm_ly) B (hts _ List.mem_cons_self)
  have hl := lv_entry (([.ref 0, .int i, .ref 105] : List Value).map (px_tr base b)) (n := 4) (by rw [px_lg_sl]; exact Nat.le_of_ble_eq_true rfl)
  rw [lg_entry_eq]
  generalize (lg_sl (([.ref 0, .int i, .ref 105] : List Value).map (px_tr base b)) ++ List.replicate (4 - (lg_sl (([.ref 0, .int i, .ref 105] : List Value).map (px_tr base b))).length) Slot.unset).toArray = ls at hl ⊢
  rw [px_lv_args] at hl
  have its := nm_GW_its (Q := MQ below (px_Qc base b D nm_cl dA (some (.int 1)) hp) (([.ref 0, .int i, .ref 105] : List Value).map (px_tr base b)).toArray s 1 6 (fun q => base ≤ q)) (below := below) (l := l) (e := e) (b := b) (M := nm_lrow1) B.exec B.bytes hml hown hts hK hE (name_of_methodNamed B.named B.method).1 nm_wd_lrow1 hall hbase 0
  refine (?_ : nm_GW p l e (px_rm nm_lrow1) s m (([.ref 0, .int i, .ref 105] : List Value).map (px_tr base b)).toArray below meth c (MQ below (px_Qc base b D nm_cl dA (some (.int 1)) hp) (([.ref 0, .int i, .ref 105] : List Value).map (px_tr base b)).toArray s 1 6 (fun q => base ≤ q)) base b D dA 4 (0, [(0, .ref 0), (1, .int i), (2, .ref 105)], [], hp, 0, 0)) s.heap [] ls hR va_S.rf hl
  refine its 4 _ (4, [(0, .ref 0), (1, .int i), (2, .ref 105)], [.int i, .ref 0, .int 0, .ref 105], hp, 0, 0) rfl ?_
  intro H locs ls hR hS hl
  show W p l e (px_rm nm_lrow1) s m (([.ref 0, .int i, .ref 105] : List Value).map (px_tr base b)).toArray below meth c H locs 0 0 (MQ below (px_Qc base b D nm_cl dA (some (.int 1)) hp) (([.ref 0, .int i, .ref 105] : List Value).map (px_tr base b)).toArray s 1 6 (fun q => base ≤ q)) (F0 m 4 ls (([.int i, .ref 0, .int 0, .ref 105] : List Value).map (px_tr base b)))
  have hd1 : decode (px_by nm_lrow1) 4 = .ok (.invokevirtual nm_vix, 3) := by decide +kernel
  have hG : GoodIn nm_lws (wsV "NamesInBagsLaw" nm_vix "NamesInBags" (px_nm nm_xrow1) (px_ws nm_ALL nm_xrow1)) := by
    intro w hw
    have h1 : w ∈ nm_ALL := by
      rcases List.mem_append.mp hw with h | h
      · simp only [List.mem_cons, List.not_mem_nil, or_false] at h
        rcases h with rfl | rfl | rfl | rfl
        · exact nm_x5
        · exact nm_x6
        · exact nm_x7
        · exact nm_x8
      · rcases List.mem_cons.mp h with rfl | h
        · exact nm_x9
        · exact h
    exact ⟨hall _ h1, nm_good _ h1⟩
  have hrun := vx_runV (p := p) (e := e) (below := below) (meth := meth) (H := H) (locs := locs) (cells := 0) (slots := 0) (R := px_rm nm_lrow1) (g := F0 m 4 ls (([.int i, .ref 0, .int 0, .ref 105] : List Value).map (px_tr base b))) (As := [.int i]) (rest := [.int 0, .ref (base + 105)]) (b := base + 0) (C := "NamesInBags") (own := "NamesInBagsLaw") (index := nm_vix) (cc := px_by nm_lrow1) (nL := 4)
    ⟨B.exec, B.bytes, hml, hown, hts⟩ (nm_xthrow (l := l) (base := base) (b := b) (D := D) (dA := dA) hl0 hx0 h9 h48 hi) (cwV 1 hts hG rfl rfl rfl (by decide) (by decide))
    ⟨nm_rBlind base b D dA _ hp, va_recv hK hR (show nm_cl[8]? = some ("NamesInBags", nm_F8, 17) from rfl) (px_trH_get hx0), fun U hUH hW => ⟨rfl, by rw [hUH]; exact hR, va_K.moved hW.alike hK, px_Ex.moved nm_isX hW hE, by rw [hUH]; exact Nat.le_trans hbase hS.1, nm_Nx.moved hW hNx,
      by rw [hUH]; exact vx_Zq.moved hW.alike (hU.kept hS.2.1), by rw [hUH]; exact vx_Zq.moved hW.alike (hN.kept hS.2.1)⟩⟩ rfl rfl hl.1 rfl (lv_room (Nat.le_of_ble_eq_true rfl)) hd1 (by decide)
  refine vx_calll (A0 := fun q => base ≤ q) (H0 := s.heap) hrun hS (fun q _ h => h) (fun q h => h) (fun q _ h => h) ?_ (fun r u t H1 locs1 _ _ hp1 => hp1.elim)
  intro E ce q9 u t H1 locs1 ht hvm _ hB _ _ hS1 hce hcv hcl
  obtain ⟨rfl, hR1⟩ := hB
  rw [ht] at hR1
  refine vx_catch (own := "NamesInBagsLaw") (name := nm_nse) (E := nm_nse) hown [] ⟨0, 8, 11, nm_kix⟩ [] (by rw [htab]; rfl) (fun z hz => by cases hz) (by decide) (by decide) (hts _ (hall _ (nm_xw (by decide +kernel)))) (nm_xat (fun w h => hts _ (hall _ h)) hNx (by decide +kernel)) hce hcv hcl ?_
  refine lv_astore_n (k := 3) (cc := px_by nm_lrow1) (nL := 4) (i := 3) B.exec B.bytes (by decide +kernel) rfl hl (by decide) rfl (fun ls' hl' => ?_)
  refine lv_iconst (n := 1) (v := 1) (cc := px_by nm_lrow1) B.exec B.bytes (by decide +kernel) rfl ?_
  exact W.iret (cc := px_by nm_lrow1) B.exec B.bytes B.returns (fun t2 ht2 hW2 => ⟨rfl, by rw [ht2]; exact hR1, by rw [ht2]; exact hS1.1, fun q h1 h2 => by rw [ht2]; exact hS1.2.1 q h1 h2⟩) hS1.2.2 (by decide +kernel)
end nm_r1
section nm_r2
variable {p : Program} {l : Launch} {e : Env} {s : State} {m : MethodId} {below : List Frame} {meth : Method} {c : Code} {b L : Nat} {xs : Nat → Int32} {D : va_G} {dA : Nat → ClassId}
theorem nm_Zq {args : Array Value} {C n d : String} (hl : (Cond.laysStatic C n d).before args s = true) (hi : (Cond.initialized C).before args s = true) (hr : (Cond.isRef (.static C n d)).before args s = true) : vx_Zq C n d (fun q => s.heap.size ≤ q) s s.heap :=
  vx_Zqof hl hi hr (fun a h1 h2 => by omega)
set_option maxHeartbeats 4000000 in
set_option maxRecDepth 1000000 in
/-- the law's call of row where it throws -/
theorem nm_row_throw (hl0 : l.stackTraces = false) (C0 : lw_At p s m meth c b L xs) (hK : va_K D nm_cl (px_tys nm_T dA) s) {hp : px_H} {fs : List Value} {nums : Value} {sz i : Int32} {nc ns : Nat} {lv : List (Nat × Value)} (hx0 : hp[0]? = some (.inr (8, fs))) (h9 : fs[9]? = some (.ref 48)) (h48 : hp[48]? = some (.inr (2, [nums, .int sz]))) (hi : i.toInt < 0 ∨ sz.toInt ≤ i.toInt)
    (hnc : nc + 1 ≤ nm_rc) (hns : ns + 6 ≤ nm_rs) (h : nm_G p l e s m below meth c b D dA (nm_rpc + 3, lv, [.int 1], hp, nc + 1, ns + 6)) : nm_G p l e s m below meth c b D dA (nm_rpc, lv, [.ref 105, .int i, .ref 0], hp, nc, ns) := by
  obtain ⟨hx, hb, hr, hml, hown, hts, hX, hbl, hlocks, hgv⟩ := C0
  have hE := nm_Ex hts
  have hfl := flat_of_before _ hgv
  have hU : vx_Zq Bundle.tN "UNASSIGNED_STACK" Bundle.steD (fun q => s.heap.size ≤ q) s s.heap := nm_Zq (hts _ (nm_x4 _ List.mem_cons_self)) (hts _ (nm_x3 (Cond.initialized Bundle.tN) (by decide +kernel)).1) (hfl _ (by decide +kernel))
  have hN : vx_Zq Bundle.tN "SUPPRESSED_SENTINEL" Bundle.listD (fun q => s.heap.size ≤ q) s s.heap := nm_Zq (hts _ (nm_x4 _ (List.mem_cons_of_mem _ List.mem_cons_self))) (hts _ (nm_x3 (Cond.initialized Bundle.tN) (by decide +kernel)).1) (hfl _ (by decide +kernel))
  intro H locs ls hR hS hl
  show W p l e room_1 s m #[Value.ref b] below meth c H locs nc ns (lw_Z below #[Value.ref b] s) (F0 m nm_rpc ls (([.ref 105, .int i, .ref 0] : List Value).map (px_tr s.heap.size b)))
  have hd1 : decode code nm_rpc = .ok (.invokestatic nm_rix, 3) := by decide +kernel
  have hG : GoodIn lw_tbl (va_wsS "NamesInBagsLaw" nm_rix nm_ly nm_lws) := by
    intro w hw
    have h1 : w ∈ lw_tbl ∧ goodWord w = true := by
      rcases List.mem_append.mp hw with h | h
      · simp only [List.mem_cons, List.not_mem_nil, or_false] at h
        rcases h with rfl | rfl | rfl
        · exact nm_x3 _ (by decide +kernel)
        · exact nm_x3 _ (by decide +kernel)
        · exact nm_x3 _ (by decide +kernel)
      · rcases List.mem_cons.mp h with rfl | h
        · exact nm_x3 _ (by decide +kernel)
        · exact List.mem_filter.mp h
    exact ⟨h1.1, good_of_word h1.2⟩
  have hrun := vx_runSW (p := p) (e := e) (below := below) (meth := meth) (H := H) (locs := locs) (cells := nc) (slots := ns) (R := room_1) (g := F0 m nm_rpc ls (([.ref 105, .int i, .ref 0] : List Value).map (px_tr s.heap.size b))) (As := ([.ref 0, .int i, .ref 105] : List Value).map (px_tr s.heap.size b)) (rest := []) (own := "NamesInBagsLaw") (index := nm_rix) (cc := code) (nL := 8)
    ⟨hx, hb, hml, hown, hts⟩ (nm_lthrow (l := l) (base := s.heap.size) (b := b) (D := D) (dA := dA) hl0 hx0 h9 h48 hi) (vx_cwSW 3 hts hG rfl rfl rfl (by decide) (by decide))
    ⟨nm_rBlind s.heap.size b D dA _ hp, fun U hUH hW => ⟨rfl, by rw [hUH]; exact hR, va_K.moved hW.alike hK, px_Ex.moved nm_isX hW hE, by rw [hUH]; exact hS.1, nm_Nx.moved hW (nm_Nx.of hts),
      by rw [hUH]; exact vx_Zq.moved hW.alike (hU.kept hS.2.1), by rw [hUH]; exact vx_Zq.moved hW.alike (hN.kept hS.2.1)⟩⟩ rfl rfl hl.1 rfl (lv_room (by decide)) hd1 ⟨hnc, hns⟩
  refine px_W_call hrun hS (fun st o t _ h => h.2.2) (fun v st2 t locs1 e1 hQ hS1 => ?_)
  obtain ⟨ev, hR1, -⟩ := hQ
  cases ev
  exact h t.heap locs1 ls hR1 hS1 hl
end nm_r2
