theorem px_tgt_ok {pc : Nat} {off : Int} (h : 0 ≤ (pc : Int) + off) : (pc : Int) + off = ((px_tgt pc off : Nat) : Int) := by
  unfold px_tgt
  omega
theorem px_alu_len {i : Instr} {st st' : List Value} {pc len : Nat} (h : px_alu i st = some st') (ho : px_okI pc len i = true) : len = px_len i := by
  cases i <;> first | (simpa [px_okI] using ho) | (simp [px_alu] at h)
theorem px_inR_in {j : Int32} {n : Nat} (h : px_inR j n = true) : vp_in j n := by
  rw [vp_in_iff]
  simpa [px_inR] using h
theorem px_fits_ok {ty : FieldType} {v : Value} (base b : Nat) (h : px_fits ty v = true) : narrow ty (px_tr base b v) = px_tr base b v ∧ fits ty (px_tr base b v) = true := by
  unfold px_fits at h
  split at h
  · exact ⟨rfl, rfl⟩
  · exact ⟨rfl, rfl⟩
  · exact ⟨rfl, rfl⟩
  · exact ⟨rfl, rfl⟩
  · cases h
theorem px_getD {α : Type} {l : List α} {k : Nat} {d v : α} (h : l[k]? = some v) : l.getD k d = v := by
  rw [List.getD_eq_getElem?_getD, h]
  rfl
theorem px_trA_fst (base : Nat) (a : vp_A) : (px_trA base a).1 = a.1 := by
  unfold px_trA
  split <;> rfl
theorem px_eqr {R : Room} {s : State} {args : Array Value} {own : String} {index : Nat} {y : MethodName} {bytes : ByteArray} {maxL : Nat} {ret : Option FieldType} {ws : List Cond} {rm : Room} {mc ms n : Nat} (h : ret = none) (k : CallB R s args own index y bytes maxL ret ws rm mc ms n) : CallB R s args own index y bytes maxL none ws rm mc ms n := by subst h; exact k
theorem px_eqn {R : Room} {s : State} {args : Array Value} {own host : String} {index : Nat} {y : MethodName} {bytes : ByteArray} {maxL : Nat} {ret : Option FieldType} {ws : List Cond} {rm : Room} {mc ms n : Nat} (h : ret = none) (k : va_CN R s args own index y host bytes maxL ret ws rm mc ms n) : va_CN R s args own index y host bytes maxL none ws rm mc ms n := by subst h; exact k
theorem px_dv (base b : Nat) (tys : List FieldType) (j : Nat) (h : j < tys.length) : defaultValue (tys.getD j .int) = vp_V ((tys.map defaultValue).map (px_tr base b)) j := by
  have e : ∀ ty : FieldType, px_tr base b (defaultValue ty) = defaultValue ty := by intro ty; cases ty <;> rfl
  simp [vp_V, List.getD_eq_getElem?_getD, h, e]
theorem px_dflt_ok {base n : Nat} {ty : FieldType} {a0 : vp_A} (h : px_dflt n ty = some a0) : (∀ cA : ClassId, vp_cell cA (px_trA base a0) = arrV cA n (fun _ => defaultValue ty)) ∧ a0.1 = n ∧ True := by
  unfold px_dflt at h
  split at h
  · cases h; exact ⟨fun _ => rfl, rfl, trivial⟩
  · cases h; exact ⟨fun _ => rfl, rfl, trivial⟩
  · cases h; exact ⟨fun _ => rfl, rfl, trivial⟩
  · cases h; exact ⟨fun _ => rfl, rfl, trivial⟩
  · cases h
theorem px_clamp {n : Int32} (h0 : 0 ≤ n.toInt) (h1 : n.toInt ≤ 100000) : n.toNatClampNeg ≤ 100000 := by
  have : n.toNatClampNeg = n.toInt.toNat := rfl
  omega
def px_prim (ty : FieldType) : Bool :=
  match ty with
  | .object _ => false
  | _ => true
theorem px_RA {U : State} {cA : ClassId} {ty : FieldType} (hp : px_prim ty = true) (h : va_RA U cA ty) : U.vm.findClass ("[" ++ ty.toString) = some cA := by
  cases ty <;> first | exact h | cases hp
theorem px_upq (base : Nat) (f : Nat → Option Nat) (k v : Nat) : (fun j => (va_up f k (some v) j).map (fun q => base + q)) = va_up (fun j => (f j).map (fun q => base + q)) k (some (base + v)) := by
  funext j
  unfold va_up
  split <;> rfl
theorem px_cb (ty : FieldType) : componentBytes ty ≤ 8 := by cases ty <;> simp [componentBytes]
section px_s3
variable {p : Program} {l : Launch} {e : Env} {R : Room} {s : State} {m : MethodId} {args : Array Value} {below : List Frame} {meth : Method} {c : Code} {H : Heap} {locs : List Loc} {Q : State → Prop}
variable {base b : Nat} {D : va_G} {cl : List vw_C} {T : px_T} {dA : Nat → ClassId} {P : List px_M} {ALL EXT Ts : List Cond} {ow : List String} {CW CE : List px_Cw} {mf : List (Nat × Nat × Nat)} {o kM cM : Nat} {host : String} {M : px_M} {X : Option (Nat × (Nat → Int32))} {call : Nat → List Value → px_H → Option px_A}
variable {pc nc ns N0 : Nat} {lv : List (Nat × Value)} {st : List Value} {hp : px_H} {s' : px_S} {ls : Array Slot} {H0 : Heap}
set_option maxHeartbeats 8000000 in
set_option maxRecDepth 10000 in
/-- one step of the pure machine is a step of the machine -/
theorem px_sim (hx : p.tables.exec = Jvm.exec) (hb : c.code = px_by M) (hml : c.maxLocals = px_ml M) (hown : s.vm.findClass (px_nm M).cls = some m.cls) (hts : ∀ w ∈ Ts, w.before args s = true) (hK : va_K D cl (px_tys T dA) s) (hE : px_Ex EXT s) (hEx : ∀ w ∈ EXT, px_isX w = true) (hnm : kM = 2 → meth.name = (px_nm M).name)
    (hok : px_okM cl T P CW CE mf o kM cM M = true) (hCW : ∀ q ∈ CW, px_w ow cl T P host q ∈ ALL) (hCE : ∀ q ∈ CE, px_w ow cl T P host q ∈ EXT) (ho : ow.getD o "" = (px_nm M).cls) (hmf : px_Mf cl P mf) (hkM : kM = 2 → (px_nm M).name = "<init>" ∧ ∀ (C : String) (F : u_T) (N9 : Nat), cl[cM]? = some (C, F, N9) → C = (px_nm M).cls) (hokK : px_okK cl T ALL) (hokL : ∀ ci : Nat, cl[ci]? = none → T.2[ci]? = none) (hall : ∀ w ∈ ALL, w ∈ Ts) (hgood : ∀ w ∈ ALL, (w.onTables && w.keeps) = true ∨ ∃ ty, w = .arrayClass ty) (hRM : R = px_rm M)
    (hcall : ∀ mi N av hp r hp', P[mi]? = some N → call mi av hp = some (r, hp') → px_Met l base b D cl T dA ALL EXT N av hp r hp')
    (hX : ∀ x, X = some x → va_X b x.1 x.2 s H0 ∧ b < H0.size ∧ b < base) (hbase : base ≤ H0.size) (hN0 : (px_rm M).cells ≠ 0 → s.heap.size = base + N0)
    (hs : px_step T X P call M N0 (pc, lv, st, hp, nc, ns) = some (.inl s')) (hR : px_Rel base b D cl dA hp H) (hS : va_S (fun q => base ≤ q) H0 H locs) (hl : lv_has ls (px_ml M) (px_trL base b lv))
    (kk : ∀ (H' : Heap) (locs' : List Loc) (ls' : Array Slot), px_Rel base b D cl dA s'.2.2.2.1 H' → va_S (fun q => base ≤ q) H0 H' locs' → lv_has ls' (px_ml M) (px_trL base b s'.2.1) →
      W p l e R s m args below meth c H' locs' s'.2.2.2.2.1 s'.2.2.2.2.2 Q (F0 m s'.1 ls' (s'.2.2.1.map (px_tr base b)))) :
    W p l e R s m args below meth c H locs nc ns Q (F0 m pc ls (st.map (px_tr base b))) := by
  have hokC : px_okC M = true := by
    have := hok
    simp only [px_okM, Bool.and_eq_true] at this
    exact this.1
  have hokP : ∀ q ∈ px_cp M, px_okR cl T P CW CE mf o kM cM M q = true := by
    have := hok
    simp only [px_okM, Bool.and_eq_true, List.all_eq_true] at this
    exact this.2
  have hal : ∀ q ∈ CW, px_w ow cl T P host q ∈ Ts := fun w h => hall _ (hCW w h)
  have hA : ∀ q, H0.size ≤ q → base ≤ q := fun q h => Nat.le_trans hbase h
  have hD := px_trH_D base b dA hp
  simp only [px_step] at hs
  split at hs
  · cases hs
  rename_i len i hf
  have hI := List.all_eq_true.mp hokC _ (px_find_mem hf)
  simp only [Bool.and_eq_true, decide_eq_true_eq] at hI
  obtain ⟨hd, hoi⟩ := hI
  split at hs
  · rename_i st' ha
    cases hs
    exact px_alu_sim hx hb hd (px_alu_len ha hoi) ha (kk H locs ls hR hS hl)
  rename_i ha
  cases i
  case iload j =>
    have hlen : len = 2 := of_decide_eq_true hoi
    subst hlen
    simp only at hs
    split at hs
    · rename_i x hj
      cases hs
      exact lv_iload hx hb hd (px_trL_find hl hj) (kk H locs ls hR hS hl)
    · cases hs
  case iload_n j =>
    have hlen : len = 1 := of_decide_eq_true hoi
    subst hlen
    simp only at hs
    split at hs
    · rename_i x hj
      cases hs
      exact lv_iload_n hx hb hd rfl (px_trL_find hl hj) (kk H locs ls hR hS hl)
    · cases hs
  case lload j =>
    have hlen : len = 2 := of_decide_eq_true hoi
    subst hlen
    simp only at hs
    split at hs
    · rename_i x hj
      cases hs
      exact lv_lload hx hb hd (px_trL_find hl hj) (kk H locs ls hR hS hl)
    · cases hs
  case lload_n j =>
    have hlen : len = 1 := of_decide_eq_true hoi
    subst hlen
    simp only at hs
    split at hs
    · rename_i x hj
      cases hs
      exact lv_lload_n hx hb hd rfl (px_trL_find hl hj) (kk H locs ls hR hS hl)
    · cases hs
  case aload j =>
    have hlen : len = 2 := of_decide_eq_true hoi
    subst hlen
    simp only at hs
    split at hs
    · rename_i x hj
      cases hs
      exact lv_aload hx hb hd (px_trL_find hl hj) (kk H locs ls hR hS hl)
    · rename_i x hj
      cases hs
      exact lv_aload hx hb hd (px_trL_find hl hj) (kk H locs ls hR hS hl)
    · cases hs
  case aload_n j =>
    have hlen : len = 1 := of_decide_eq_true hoi
    subst hlen
    simp only at hs
    split at hs
    · rename_i x hj
      cases hs
      exact lv_aload_n hx hb hd rfl (px_trL_find hl hj) (kk H locs ls hR hS hl)
    · rename_i x hj
      cases hs
      exact lv_aload_n hx hb hd rfl (px_trL_find hl hj) (kk H locs ls hR hS hl)
    · cases hs
  case istore j =>
    have hlen : len = 2 := of_decide_eq_true hoi
    subst hlen
    simp only at hs
    split at hs
    · rename_i x r
      split at hs
      · rename_i hj
        cases hs
        exact lv_istore hx hb hd hl (of_decide_eq_true hj) (px_trL_st1 base b lv j (.int x)) (fun ls' hl' => kk H locs ls' hR hS hl')
      · cases hs
    · cases hs
  case istore_n j =>
    have hlen : len = 1 := of_decide_eq_true hoi
    subst hlen
    simp only at hs
    split at hs
    · rename_i x r
      split at hs
      · rename_i hj
        cases hs
        exact lv_istore_n hx hb hd rfl hl (of_decide_eq_true hj) (px_trL_st1 base b lv j (.int x)) (fun ls' hl' => kk H locs ls' hR hS hl')
      · cases hs
    · cases hs
  case astore j =>
    have hlen : len = 2 := of_decide_eq_true hoi
    subst hlen
    simp only at hs
    split at hs
    · rename_i x r
      split at hs
      · rename_i hj
        cases hs
        exact lv_astore hx hb hd hl (of_decide_eq_true hj) (px_trL_st1 base b lv j (.ref x)) (fun ls' hl' => kk H locs ls' hR hS hl')
      · cases hs
    · cases hs
  case astore_n j =>
    have hlen : len = 1 := of_decide_eq_true hoi
    subst hlen
    simp only at hs
    split at hs
    · rename_i x r
      split at hs
      · rename_i hj
        cases hs
        exact lv_astore_n hx hb hd rfl hl (of_decide_eq_true hj) (px_trL_st1 base b lv j (.ref x)) (fun ls' hl' => kk H locs ls' hR hS hl')
      · cases hs
    · cases hs
  case lstore j =>
    have hlen : len = 2 := of_decide_eq_true hoi
    subst hlen
    simp only at hs
    split at hs
    · rename_i x r
      split at hs
      · rename_i hj
        cases hs
        exact lv_lstore hx hb hd hl (of_decide_eq_true hj) (px_trL_st2 base b lv j (.long x)) (fun ls' hl' => kk H locs ls' hR hS hl')
      · cases hs
    · cases hs
  case lstore_n j =>
    have hlen : len = 1 := of_decide_eq_true hoi
    subst hlen
    simp only at hs
    split at hs
    · rename_i x r
      split at hs
      · rename_i hj
        cases hs
        exact lv_lstore_n hx hb hd rfl hl (of_decide_eq_true hj) (px_trL_st2 base b lv j (.long x)) (fun ls' hl' => kk H locs ls' hR hS hl')
      · cases hs
    · cases hs
  case iinc j n =>
    have hlen : len = 3 := of_decide_eq_true hoi
    subst hlen
    simp only at hs
    split at hs
    · rename_i x hj1 hj
      cases hs
      obtain ⟨k, hk⟩ := px_trL_mem (base := base) (b := b) hj1
      exact lv_iinc hx hb hd hl hk rfl (of_decide_eq_true hj) (px_trL_st1 base b lv j (.int (x + Int32.ofInt n))) (fun ls' hl' => kk H locs ls' hR hS hl')
    · cases hs
  case ifCond cd off =>
    simp only [px_okI, Bool.and_eq_true, decide_eq_true_eq] at hoi
    obtain ⟨rfl, ho⟩ := hoi
    simp only at hs
    split at hs
    · rename_i x r
      cases cd
      · refine lv_if_eq hx hb hd (px_tgt_ok ho) (fun h => ?_) (fun h => ?_)
        · simp only [px_cmp, h, decide_true] at hs; cases hs; exact kk H locs ls hR hS hl
        · simp only [px_cmp, h, decide_false] at hs; cases hs; exact kk H locs ls hR hS hl
      · refine lv_if_ne hx hb hd (px_tgt_ok ho) (fun h => ?_) (fun h => ?_)
        · simp only [px_cmp, h, not_false_eq_true, decide_true] at hs; cases hs; exact kk H locs ls hR hS hl
        · simp only [px_cmp, h, decide_false] at hs; cases hs; exact kk H locs ls hR hS hl
      · refine lv_if_lt hx hb hd (px_tgt_ok ho) (fun h => ?_) (fun h => ?_)
        · simp only [px_cmp, h, decide_true] at hs; cases hs; exact kk H locs ls hR hS hl
        · simp only [px_cmp, h, decide_false] at hs; cases hs; exact kk H locs ls hR hS hl
      · refine lv_if_ge hx hb hd (px_tgt_ok ho) (fun h => ?_) (fun h => ?_)
        · simp only [px_cmp, h, decide_true] at hs; cases hs; exact kk H locs ls hR hS hl
        · simp only [px_cmp, h, decide_false] at hs; cases hs; exact kk H locs ls hR hS hl
      · refine lv_if_gt hx hb hd (px_tgt_ok ho) (fun h => ?_) (fun h => ?_)
        · simp only [px_cmp, h, decide_true] at hs; cases hs; exact kk H locs ls hR hS hl
        · simp only [px_cmp, h, decide_false] at hs; cases hs; exact kk H locs ls hR hS hl
      · refine lv_if_le hx hb hd (px_tgt_ok ho) (fun h => ?_) (fun h => ?_)
        · simp only [px_cmp, h, decide_true] at hs; cases hs; exact kk H locs ls hR hS hl
        · simp only [px_cmp, h, decide_false] at hs; cases hs; exact kk H locs ls hR hS hl
    · cases hs
  case if_icmp cd off =>
    simp only [px_okI, Bool.and_eq_true, decide_eq_true_eq] at hoi
    obtain ⟨rfl, ho⟩ := hoi
    simp only at hs
    split at hs
    · rename_i x r
      cases cd
      · refine lv_icmp_eq hx hb hd (px_tgt_ok ho) (fun h => ?_) (fun h => ?_)
        · simp only [px_cmp, h, decide_true] at hs; cases hs; exact kk H locs ls hR hS hl
        · simp only [px_cmp, h, decide_false] at hs; cases hs; exact kk H locs ls hR hS hl
      · refine lv_icmp_ne hx hb hd (px_tgt_ok ho) (fun h => ?_) (fun h => ?_)
        · simp only [px_cmp, h, not_false_eq_true, decide_true] at hs; cases hs; exact kk H locs ls hR hS hl
        · simp only [px_cmp, h, decide_false] at hs; cases hs; exact kk H locs ls hR hS hl
      · refine lv_icmp_lt hx hb hd (px_tgt_ok ho) (fun h => ?_) (fun h => ?_)
        · simp only [px_cmp, h, decide_true] at hs; cases hs; exact kk H locs ls hR hS hl
        · simp only [px_cmp, h, decide_false] at hs; cases hs; exact kk H locs ls hR hS hl
      · refine lv_icmp_ge hx hb hd (px_tgt_ok ho) (fun h => ?_) (fun h => ?_)
        · simp only [px_cmp, h, decide_true] at hs; cases hs; exact kk H locs ls hR hS hl
        · simp only [px_cmp, h, decide_false] at hs; cases hs; exact kk H locs ls hR hS hl
      · refine lv_icmp_gt hx hb hd (px_tgt_ok ho) (fun h => ?_) (fun h => ?_)
        · simp only [px_cmp, h, decide_true] at hs; cases hs; exact kk H locs ls hR hS hl
        · simp only [px_cmp, h, decide_false] at hs; cases hs; exact kk H locs ls hR hS hl
      · refine lv_icmp_le hx hb hd (px_tgt_ok ho) (fun h => ?_) (fun h => ?_)
        · simp only [px_cmp, h, decide_true] at hs; cases hs; exact kk H locs ls hR hS hl
        · simp only [px_cmp, h, decide_false] at hs; cases hs; exact kk H locs ls hR hS hl
    · cases hs
  case goto off =>
    simp only [px_okI, Bool.and_eq_true, decide_eq_true_eq] at hoi
    obtain ⟨rfl, ho⟩ := hoi
    cases hs
    exact lv_goto hx hb hd (px_tgt_ok ho) (kk H locs ls hR hS hl)
  case tableswitch dflt lo hi offs =>
    simp only [px_okI, Bool.and_eq_true, decide_eq_true_eq, List.all_eq_true] at hoi
    simp only at hs
    split at hs
    · rename_i x r
      split at hs
      · rename_i h
        cases hs
        exact lv_tableOut hx hb hd (by simpa using h) (px_tgt_ok hoi.1) (kk H locs ls hR hS hl)
      · rename_i h
        split at hs
        · rename_i off ho
          cases hs
          have h2 : ¬ x.toInt < lo ∧ ¬ hi < x.toInt := by simpa using h
          exact lv_tableIn hx hb hd h2.1 h2.2 ho (px_tgt_ok (hoi.2 off (Array.mem_toList_iff.mpr (Array.mem_of_getElem? ho)))) (kk H locs ls hR hS hl)
        · cases hs
    · cases hs
  case lookupswitch dflt ps =>
    simp only [px_okI, Bool.and_eq_true, decide_eq_true_eq] at hoi
    simp only at hs
    split at hs
    · rename_i x r
      split at hs
      · rename_i ho
        cases hs
        exact lv_lookup hx hb hd hoi.1.1 rfl (px_tgt_ok (of_decide_eq_true ho)) (kk H locs ls hR hS hl)
      · cases hs
    · cases hs
  case ldc idx =>
    have hlen : len = 2 := of_decide_eq_true hoi
    subst hlen
    simp only at hs
    split at hs
    · rename_i v hj
      cases hs
      have h9 := hokP _ (px_find_mem hj)
      simp only [px_okR, decide_eq_true_eq] at h9
      have h8 := hts _ (hal _ h9)
      simp only [px_w, ho] at h8
      exact lv_ldc hx hb hown h8 hd (kk H locs ls hR hS hl)
    · cases hs
  case ldc_w idx =>
    have hlen : len = 3 := of_decide_eq_true hoi
    subst hlen
    simp only at hs
    split at hs
    · rename_i v hj
      cases hs
      have h9 := hokP _ (px_find_mem hj)
      simp only [px_okR, decide_eq_true_eq] at h9
      have h8 := hts _ (hal _ h9)
      simp only [px_w, ho] at h8
      exact lv_ldcw hx hb hown h8 hd (kk H locs ls hR hS hl)
    · cases hs
  case ldc2_w idx =>
    have hlen : len = 3 := of_decide_eq_true hoi
    subst hlen
    simp only at hs
    split at hs
    · rename_i v hj
      cases hs
      have h9 := hokP _ (px_find_mem hj)
      simp only [px_okR, decide_eq_true_eq] at h9
      have h8 := hts _ (hal _ h9)
      simp only [px_w, ho] at h8
      exact lv_ldc2 hx hb hown h8 hd (kk H locs ls hR hS hl)
    · cases hs
  case getfield idx =>
    have hlen : len = 3 := of_decide_eq_true hoi
    subst hlen
    simp only at hs
    split at hs
    · rename_i ci k fl a r hj
      split at hs
      · rename_i c0 fs hq
        split at hs
        · rename_i v hc hv
          cases hs
          have hce := Nat.eq_of_beq_eq_true hc
          subst hce
          have h9 := hokP _ (px_find_mem hj)
          simp only [px_okR] at h9
          rcases hcl : cl[c0]? with _ | ⟨C, F, N⟩
          · rw [hcl] at h9; cases h9
          · rw [hcl] at h9
            simp only [Bool.and_eq_true, decide_eq_true_eq] at h9
            obtain ⟨⟨⟨hk, hlk⟩, -⟩, -⟩ := h9
            have h8 := hts _ (hal _ hlk)
            simp only [px_w, ho, hcl] at h8
            obtain ⟨tys, h1, h2, h3, h4, h5, h6⟩ := hokK _ _ _ _ hcl
            have hv' : (fs.map (px_tr base b))[k]? = some (px_tr base b v) := by rw [List.getElem?_map, hv]; rfl
            exact va_get hx hb hts (fun w hw => hall _ (h5 w hw)) hown hK hR a (px_trH_get hq) hcl k hk h8 (fun _ h => h) hv' hd (kk H locs ls hR hS hl)
        · cases hs
      · cases hs
    · cases hs
  case arraylength =>
    have hlen : len = 1 := of_decide_eq_true hoi
    subst hlen
    simp only at hs
    split at hs
    · split at hs
      · rename_i x
        cases hs
        obtain ⟨h1, h2, h3⟩ := hX x rfl
        exact va_slen hx hb h1 h2 (Nat.not_le.mpr h3) hS hd (kk H locs ls hR hS hl)
      · cases hs
    · rename_i a r
      split at hs
      · rename_i t n f hq
        split at hs
        · rename_i ty ht
          cases hs
          exact va_alen hx hb hK hR a t (px_trH_get hq) (px_tys_get ht) (by show Int32.ofNat (px_trA base (n, f)).1 = _; rw [px_trA_fst]) hd (kk H locs ls hR hS hl)
        · cases hs
      · cases hs
    · cases hs
  case putfield idx =>
    have hlen : len = 3 := of_decide_eq_true hoi
    subst hlen
    simp only at hs
    split at hs
    · rename_i ci k fl v a r hj
      split at hs
      · rename_i c0 fs n tys hq hT
        split at hs
        · rename_i ty hc hty hkl hfl
          split at hs
          · rename_i hft
            cases hs
            have hce := Nat.eq_of_beq_eq_true hc
            subst hce
            have h9 := hokP _ (px_find_mem hj)
            simp only [px_okR] at h9
            rcases hcl : cl[c0]? with _ | ⟨C, F, N⟩
            · rw [hcl] at h9; cases h9
            · rw [hcl] at h9
              simp only [Bool.and_eq_true, Bool.or_eq_true, decide_eq_true_eq] at h9
              obtain ⟨⟨⟨hk, hlk⟩, hfl2⟩, hfl3⟩ := h9
              have h8 := hts _ (hal _ hlk)
              simp only [px_w, ho, hcl] at h8
              obtain ⟨tys', h1, h2, h3, h4, h5, h6⟩ := hokK _ _ _ _ hcl
              rw [hT] at h1
              cases h1
              have hpd : parseFieldDescriptor (F k).2.2.1 = some ty := by rw [h3 k hk, px_getD hty]
              obtain ⟨hn, hfi⟩ := px_fits_ok base b hft
              have hk2 : k < (fs.map (px_tr base b)).length := by rw [List.length_map]; exact of_decide_eq_true hkl
              have hset : (px_trH base b dA hp).set a (base + a, .inr (c0, (fs.map (px_tr base b)).set k (px_tr base b v))) = px_trH base b dA (hp.set a (.inr (c0, fs.set k v))) := by
                rw [← px_trH_set]
                simp only [px_trE, List.map_set]
              by_cases hfin : (F k).2.2.2 = false
              · refine va_put hx hb hts (fun w hw => hall _ (h5 w hw)) (fun k => tys.getD k .int) h3 h4 hown hK hR hD hS a (px_trH_get hq) hcl k hk h8 (fun _ h => h) hfin hpd hn hfi hk2 hd (fun H1 locs1 hP1 hD1 hS1 => ?_)
                rw [hset] at hP1
                exact kk H1 locs1 ls hP1 hS1 hl
              · have hfin : (F k).2.2.2 = true := by simpa using hfin
                have hf2 : fl = 2 := by
                  have h2 := of_decide_eq_true hfl
                  rcases hfl2 with h | h
                  · omega
                  · rw [hfin] at h; cases h
                subst hf2
                have hf3 : kM = 2 ∧ cM = c0 := by
                  rcases hfl3 with h | h
                  · simp at h
                  · exact ⟨Nat.eq_of_beq_eq_true h.1, Nat.eq_of_beq_eq_true h.2⟩
                obtain ⟨e1, e2⟩ := hf3
                subst e2
                obtain ⟨e3, e4⟩ := hkM e1
                refine va_putF hx hb hts (fun w hw => hall _ (h5 w hw)) (fun k => tys.getD k .int) h3 h4 hown hK hR hD hS a (px_trH_get hq) hcl k hk h8 (fun _ h => h) hfin (by rw [hnm e1]; exact e3) ((h6 k hk).trans (e4 _ _ _ hcl)) hpd hn hfi hk2 hd (fun H1 locs1 hP1 hD1 hS1 => ?_)
                rw [hset] at hP1
                exact kk H1 locs1 ls hP1 hS1 hl
          · cases hs
        · cases hs
      · cases hs
    · cases hs
  case iaload =>
    have hlen : len = 1 := of_decide_eq_true hoi
    subst hlen
    simp only at hs
    split at hs
    · rename_i j a r
      simp only [Option.map_eq_some_iff] at hs
      obtain ⟨v, hv, hs⟩ := hs
      cases hs
      unfold px_ald at hv
      split at hv
      · split at hv
        · rename_i x
          split at hv
          · rename_i hin
            cases hv
            obtain ⟨h1, h2, h3⟩ := hX _ rfl
            exact va_sld hx hb h1 h2 (Nat.not_le.mpr h3) hS (px_inR_in hin) hd (kk H locs ls hR hS hl)
          · cases hv
        · cases hv
      · rename_i k
        split at hv
        · rename_i t n f hq
          split at hv
          · cases hv
          · rename_i hin
            split at hv
            · rename_i ht
              cases hv
              exact va_iald hx hb hK hR k t (px_trH_get hq) (px_tys_get ht) (px_inR_in hin) hd (kk H locs ls hR hS hl)
            · rename_i h _; cases h
            · rename_i h _; cases h
            · rename_i h _; cases h
            · cases hv
        · cases hv
      · cases hv
    · cases hs
  case baload =>
    have hlen : len = 1 := of_decide_eq_true hoi
    subst hlen
    simp only at hs
    split at hs
    · rename_i j a r
      simp only [Option.map_eq_some_iff] at hs
      obtain ⟨v, hv, hs⟩ := hs
      cases hs
      unfold px_ald at hv
      split at hv
      · split at hv
        · rename_i h; cases h
        · cases hv
      · rename_i k
        split at hv
        · rename_i t n f hq
          split at hv
          · cases hv
          · rename_i hin
            split at hv
            · rename_i h _; cases h
            · rename_i ht
              cases hv
              exact va_zald hx hb hK hR k t (px_trH_get hq) (px_tys_get ht) (px_inR_in hin) hd (kk H locs ls hR hS hl)
            · rename_i h _; cases h
            · rename_i h _; cases h
            · cases hv
        · cases hv
      · cases hv
    · cases hs
  case laload =>
    have hlen : len = 1 := of_decide_eq_true hoi
    subst hlen
    simp only at hs
    split at hs
    · rename_i j a r
      simp only [Option.map_eq_some_iff] at hs
      obtain ⟨v, hv, hs⟩ := hs
      cases hs
      unfold px_ald at hv
      split at hv
      · split at hv
        · rename_i h; cases h
        · cases hv
      · rename_i k
        split at hv
        · rename_i t n f hq
          split at hv
          · cases hv
          · rename_i hin
            split at hv
            · rename_i h _; cases h
            · rename_i h _; cases h
            · rename_i ht
              cases hv
              exact va_lald hx hb hK hR k t (px_trH_get hq) (px_tys_get ht) (px_inR_in hin) hd (kk H locs ls hR hS hl)
            · rename_i h _; cases h
            · cases hv
        · cases hv
      · cases hv
    · cases hs
  case aaload =>
    have hlen : len = 1 := of_decide_eq_true hoi
    subst hlen
    simp only at hs
    split at hs
    · rename_i j a r
      simp only [Option.map_eq_some_iff] at hs
      obtain ⟨v, hv, hs⟩ := hs
      cases hs
      unfold px_ald at hv
      split at hv
      · split at hv
        · rename_i h; cases h
        · cases hv
      · rename_i k
        split at hv
        · rename_i t n f hq
          split at hv
          · cases hv
          · rename_i hin
            split at hv
            · rename_i h _; cases h
            · rename_i h _; cases h
            · rename_i h _; cases h
            · rename_i C f ht
              split at hv
              · rename_i q hfq
                cases hv
                refine va_aldq hx hb hK hR k t (px_trH_get hq) (px_tys_get ht) (px_inR_in hin) hd ?_
                rw [hfq]
                exact kk H locs ls hR hS hl
              · cases hv
            · cases hv
        · cases hv
      · cases hv
    · cases hs
  case iastore =>
    have hlen : len = 1 := of_decide_eq_true hoi
    subst hlen
    simp only at hs
    split at hs
    · rename_i v j a r
      simp only [Option.map_eq_some_iff] at hs
      obtain ⟨hp', hv, hs⟩ := hs
      cases hs
      unfold px_ast at hv
      split at hv
      · rename_i t n f hq
        split at hv
        · cases hv
        · rename_i hin
          split at hv
          · rename_i f x _ ht
            cases hv
            refine va_iast hx hb hK hR hD hS a t (px_trH_get hq) (px_tys_get ht) (px_inR_in hin) hd (fun H1 locs1 hP1 hD1 hS1 => ?_)
            have hset := px_trH_set base b dA hp a (.inl (t, n, .inl (upd f j.toNatClampNeg x)))
            simp only [px_trE, px_trA] at hset
            rw [hset] at hP1
            exact kk H1 locs1 ls hP1 hS1 hl
          · rename_i h _; cases h
          · rename_i h _; cases h
          · cases hv
      · cases hv
    · cases hs
  case bastore =>
    have hlen : len = 1 := of_decide_eq_true hoi
    subst hlen
    simp only at hs
    split at hs
    · rename_i v j a r
      simp only [Option.map_eq_some_iff] at hs
      obtain ⟨hp', hv, hs⟩ := hs
      cases hs
      unfold px_ast at hv
      split at hv
      · rename_i t n f hq
        split at hv
        · cases hv
        · rename_i hin
          split at hv
          · rename_i h _; cases h
          · rename_i f x _ ht
            split at hv
            · rename_i hx01
              cases hv
              refine va_zast hx hb hK hR hD hS a t (px_trH_get hq) (px_tys_get ht) (px_inR_in hin) hd (fun H1 locs1 hP1 hD1 hS1 => ?_)
              have hnar : vp_nar .boolean x = x := by
                simp only [Bool.or_eq_true, decide_eq_true_eq] at hx01
                rcases hx01 with rfl | rfl <;> rfl
              rw [hnar] at hP1
              have hset := px_trH_set base b dA hp a (.inl (t, n, .inl (upd f j.toNatClampNeg x)))
              simp only [px_trE, px_trA] at hset
              rw [hset] at hP1
              exact kk H1 locs1 ls hP1 hS1 hl
            · cases hv
          · rename_i h _; cases h
          · cases hv
      · cases hv
    · cases hs
  case lastore =>
    have hlen : len = 1 := of_decide_eq_true hoi
    subst hlen
    simp only at hs
    split at hs
    · rename_i v j a r
      simp only [Option.map_eq_some_iff] at hs
      obtain ⟨hp', hv, hs⟩ := hs
      cases hs
      unfold px_ast at hv
      split at hv
      · rename_i t n f hq
        split at hv
        · cases hv
        · rename_i hin
          split at hv
          · rename_i h _; cases h
          · rename_i h _; cases h
          · rename_i f x _ ht
            cases hv
            refine va_last hx hb hK hR hD hS a t (px_trH_get hq) (px_tys_get ht) (px_inR_in hin) hd (fun H1 locs1 hP1 hD1 hS1 => ?_)
            have hset := px_trH_set base b dA hp a (.inl (t, n, .inr (.inl (vp_updL f j.toNatClampNeg x))))
            simp only [px_trE, px_trA] at hset
            rw [hset] at hP1
            exact kk H1 locs1 ls hP1 hS1 hl
          · cases hv
      · cases hv
    · cases hs
  case invokevirtual idx =>
    simp only at hs
    split at hs
    · rename_i mi n ci hj
      split at hs
      · rename_i a ha0
        split at hs
        · rename_i c0 fs hq
          split at hs
          · rename_i hc
            have hce := Nat.eq_of_beq_eq_true hc
            subst hce
            split at hs
            · cases hs
            · rename_i N hN
              split at hs
              · rename_i h1 h2 h3 h4 h5
                split at hs
                · cases hs
                · rename_i r hp' hcl
                  cases hs
                  have hlen : len = 3 := of_decide_eq_true hoi
                  subst hlen
                  have h9 := hokP _ (px_find_mem hj)
                  simp only [px_okR, hN, px_okN] at h9
                  rcases hm9 : mf[mi]? with _ | ⟨k', n', ci'⟩
                  · rw [hm9] at h9; cases h9
                  · rw [hm9] at h9
                    simp only [Bool.and_eq_true, Bool.or_eq_true, decide_eq_true_eq] at h9
                    obtain ⟨⟨⟨⟨⟨⟨⟨⟨j1, j2⟩, j3⟩, k1⟩, k2⟩, k4⟩, k6⟩, k7⟩, k8⟩ := h9
                    have j1 := Nat.eq_of_beq_eq_true j1
                    have j2 := Nat.eq_of_beq_eq_true j2
                    have j3 : ci.toNat = ci' := j3.elim (fun h => nomatch h) Nat.eq_of_beq_eq_true
                    subst j1 j2 j3
                    obtain ⟨k3, m1, -⟩ := hmf mi N _ _ _ hN hm9
                    rcases hcl2 : cl[ci.toNat]? with _ | ⟨C, F9, N9⟩
                    · obtain ⟨rr, hrr, -⟩ := hR _ _ (px_trH_get hq)
                      rw [hcl2] at hrr; cases hrr
                    have k5 := m1 rfl _ _ _ hcl2
                    subst k5
                    have k1 := hCW _ k1
                    have k2 := hts _ (hal _ k2)
                    have k6 := hts _ (hal _ k6)
                    have k7 := hts _ (hal _ k7)
                    have k8 := hts _ (hal _ k8)
                    simp only [px_w, ho, hN] at k1 k2 k6 k7 k8
                    have hM := hcall mi N _ hp r hp' hN hcl
                    have hst : st = st.take n ++ .ref a :: st.drop (n + 1) := px_split ha0
                    have hG : GoodIn Ts (px_ws ALL N) := px_goodIn hall hgood k1
                    have hsz := px_exact (base := base) (b := b) (D := D) (cl := cl) (dA := dA) (H := H) (N0 := N0) (nc := nc) (hp := hp) hR (Nat.le_trans hbase hS.1)
                    refine px_W_size (fun hle => ?_)
                    have hPre : ∀ U : State, U.heap = H → s.WarmedH U.vm → px_Pc EXT base b D cl T dA (px_rm N).cells (st.take (n + 1)).reverse hp ((st.take (n + 1)).reverse.map (px_tr base b)).toArray U := fun U hU hW =>
                      ⟨rfl, by rw [hU]; exact hR, va_K.moved hW.alike hK, px_Ex.moved hEx hW hE, by rw [hU]; exact Nat.le_trans hbase hS.1, fun hne => by
                        rw [hU]
                        rcases of_decide_eq_true h5 with h | h
                        · exact absurd h hne
                        · exact hsz h (by rw [← hN0 (by have := of_decide_eq_true h3; omega)]; exact hle)⟩
                    have hAs : (st.take (n + 1)).reverse.map (px_tr base b) = Value.ref (base + a) :: ((st.take n).reverse.map (px_tr base b)) := px_args ha0
                    rw [hAs] at hPre
                    refine W.eq (g2 := F0 m pc ls (((st.take n).reverse.map (px_tr base b)).reverse ++ Value.ref (base + a) :: ((st.drop (n + 1)).map (px_tr base b)))) (by rw [px_stack ha0]) ?_
                    have hcells := of_decide_eq_true h3
                    have hslots := of_decide_eq_true h4
                    refine px_W_call (va_runV (As := (st.take n).reverse.map (px_tr base b)) (rest := (st.drop (n + 1)).map (px_tr base b)) ⟨hx, hb, hml, hown, hts⟩ hM ⟨callB_of n hts hG rfl rfl rfl k2 k8 k3 (by rw [hRM]; exact k4), k6, k7⟩ ⟨px_blind hEx _ _ _ _ _ _ _ _ _, va_recv hK hR hcl2 (px_trH_get hq), hPre⟩ rfl (px_len_take ha0) (by rw [hl.1]) rfl (px_room (of_decide_eq_true h2)) hd (by rw [hRM]; exact ⟨hcells, hslots⟩)) hS (fun st o t _ h => h.2.2) (fun v st2 t locs1 e1 hQ hS1 => ?_)
                    obtain ⟨ev, hR1, -⟩ := hQ
                    cases ev
                    exact W.eq (by rw [px_ret]) (kk t.heap locs1 ls hR1 hS1 hl)
              · cases hs
          · cases hs
        · cases hs
      · cases hs
    · cases hs
  case invokestatic idx =>
    simp only at hs
    split at hs
    · rename_i mi n fl hj
      split at hs
      · cases hs
      · rename_i N hN
        split at hs
        · rename_i h1 h2 h3 h4 h5
          split at hs
          · cases hs
          · rename_i r hp' hcl
            cases hs
            have hlen : len = 3 := of_decide_eq_true hoi
            subst hlen
            have h9 := hokP _ (px_find_mem hj)
            simp only [px_okR, hN, px_okN] at h9
            rcases hm9 : mf[mi]? with _ | ⟨k', n', ci'⟩
            · rw [hm9] at h9; cases h9
            rw [hm9] at h9
            simp only [Bool.and_eq_true, Bool.or_eq_true, decide_eq_true_eq] at h9
            obtain ⟨⟨⟨⟨⟨⟨⟨j1, j2⟩, j3⟩, k1⟩, k2⟩, k4⟩, k5⟩, k6⟩ := h9
            have j2 := Nat.eq_of_beq_eq_true j2
            subst j2
            obtain ⟨k3, -, -⟩ := hmf mi N _ _ _ hN hm9
            have k1 := hCW _ k1
            have k2 := hts _ (hal _ k2)
            have k5 := hts _ (hal _ k5)
            simp only [px_w, ho, hN] at k1 k2 k5
            have hM := hcall mi N _ hp r hp' hN hcl
            have hG : GoodIn Ts (px_ws ALL N) := px_goodIn hall hgood k1
            have hsz := px_exact (base := base) (b := b) (D := D) (cl := cl) (dA := dA) (H := H) (N0 := N0) (nc := nc) (hp := hp) hR (Nat.le_trans hbase hS.1)
            refine px_W_size (fun hle => ?_)
            have hcells := of_decide_eq_true h3
            have hslots := of_decide_eq_true h4
            have hn := of_decide_eq_true h1
            have hPre : ∀ U : State, U.heap = H → s.WarmedH U.vm → px_Pc EXT base b D cl T dA (px_rm N).cells (st.take n).reverse hp ((st.take n).reverse.map (px_tr base b)).toArray U := fun U hU hW =>
              ⟨rfl, by rw [hU]; exact hR, va_K.moved hW.alike hK, px_Ex.moved hEx hW hE, by rw [hU]; exact Nat.le_trans hbase hS.1, fun hne => by
                rw [hU]
                rcases of_decide_eq_true h5 with h | h
                · exact absurd h hne
                · exact hsz h (by rw [← hN0 (by omega)]; exact hle)⟩
            have hla : ((st.take n).reverse.map (px_tr base b)).length = n := by simp; omega
            refine W.eq (g2 := F0 m pc ls (((st.take n).reverse.map (px_tr base b)).reverse ++ ((st.drop n).map (px_tr base b)))) (by rw [← px_stackS]) ?_
            rcases k6 with k6 | k6
            · have k6 := hts _ (hal _ k6)
              simp only [px_w, ho, hN] at k6
              refine px_W_call (va_runS (As := (st.take n).reverse.map (px_tr base b)) (rest := (st.drop n).map (px_tr base b)) ⟨hx, hb, hml, hown, hts⟩ hM ⟨callB_of n hts hG rfl rfl rfl k2 k6 k3 (by rw [hRM]; exact k4), k5⟩ ⟨px_blind hEx _ _ _ _ _ _ _ _ _, hPre⟩ rfl hla (by rw [hl.1]) rfl (px_room (of_decide_eq_true h2)) hd (by rw [hRM]; exact ⟨hcells, hslots⟩)) hS (fun st o t _ h => h.2.2) (fun v st2 t locs1 e1 hQ hS1 => ?_)
              obtain ⟨ev, hR1, -⟩ := hQ
              cases ev
              exact W.eq (by rw [px_ret]) (kk t.heap locs1 ls hR1 hS1 hl)
            · have k6 := hCE _ k6
              simp only [px_w, ho, hN] at k6
              refine px_W_call (va_runSN (As := (st.take n).reverse.map (px_tr base b)) (rest := (st.drop n).map (px_tr base b)) ⟨hx, hb, hml, hown, hts⟩ hM ⟨va_cnB n hts hG rfl rfl rfl (hE _ k6) k2 k3 (by rw [hRM]; exact k4), k5, trivial⟩ ⟨px_blind hEx _ _ _ _ _ _ _ _ _, hPre⟩ rfl hla (by rw [hl.1]) rfl (px_room (of_decide_eq_true h2)) hd (by rw [hRM]; exact ⟨hcells, hslots⟩)) hS (fun st o t _ h => h.2.2) (fun v st2 t locs1 e1 hQ hS1 => ?_)
              obtain ⟨ev, hR1, -⟩ := hQ
              cases ev
              exact W.eq (by rw [px_ret]) (kk t.heap locs1 ls hR1 hS1 hl)
        · cases hs
    · rename_i w z1 z2 hj
      split at hs
      · rename_i st' hmth h2 h3 h4
        cases hs
        have hlen : len = 3 := of_decide_eq_true hoi
        subst hlen
        have h9 := hokP _ (px_find_mem hj)
        simp only [px_okR, Bool.and_eq_true, decide_eq_true_eq] at h9
        obtain ⟨⟨⟨⟨⟨⟨g0, k1⟩, k2⟩, k3⟩, k4⟩, k5⟩, k6⟩ := h9
        have q1 := hts _ (hal _ k1)
        have q2 := hts _ (hal _ k2)
        have q3 := hts _ (hal _ k3)
        have q4 := hts _ (hal _ k4)
        have hc := of_decide_eq_true h3
        have hsl := of_decide_eq_true h4
        have h22 := of_decide_eq_true h2
        have hmls : c.maxLocals = ls.size := by rw [hml, hl.1]
        unfold px_math at hmth
        split at hmth
        · rename_i y x r
          cases hmth
          simp only [px_w, ho, px_mn] at q1 q2 q3 q4
          have h5 := px_room (m := m) (pc := pc) (ls := ls) (st0 := []) (base := base) (b := b) (rest := r) h22
          refine va_mmax hx hb hmls hown q1 q2 q4 q3 (by rw [hRM]; exact k5) (by rw [hRM]; omega) (by rw [hRM]; exact hc) (by rw [hRM]; exact hsl) hd ?_
          exact kk H locs ls hR hS hl
        · rename_i y x r
          cases hmth
          simp only [px_w, ho, px_mn] at q1 q2 q3 q4
          have h5 := px_room (m := m) (pc := pc) (ls := ls) (st0 := []) (base := base) (b := b) (rest := r) h22
          refine va_mmin hx hb hmls hown q1 q2 q4 q3 (by rw [hRM]; exact k5) (by rw [hRM]; omega) (by rw [hRM]; exact hc) (by rw [hRM]; exact hsl) hd ?_
          exact kk H locs ls hR hS hl
        · rename_i y x r
          cases hmth
          simp only [px_w, ho, px_mn] at q1 q2 q3 q4
          have h5 := px_room (m := m) (pc := pc) (ls := ls) (st0 := []) (base := base) (b := b) (rest := r) h22
          refine va_mmax_long hx hb hmls hown q1 q2 q4 q3 (by rw [hRM]; exact k5) (by rw [hRM]; omega) (by rw [hRM]; exact hc) (by rw [hRM]; exact hsl) hd ?_
          exact kk H locs ls hR hS hl
        · rename_i y x r
          cases hmth
          simp only [px_w, ho, px_mn] at q1 q2 q3 q4
          have h5 := px_room (m := m) (pc := pc) (ls := ls) (st0 := []) (base := base) (b := b) (rest := r) h22
          refine va_mmin_long hx hb hmls hown q1 q2 q4 q3 (by rw [hRM]; exact k5) (by rw [hRM]; omega) (by rw [hRM]; exact hc) (by rw [hRM]; exact hsl) hd ?_
          exact kk H locs ls hR hS hl
        · cases hmth
      · cases hs
    · cases hs
  case invokespecial idx =>
    have hlen : len = 3 := of_decide_eq_true hoi
    subst hlen
    simp only at hs
    split at hs
    · rename_i hj
      split at hs
      · rename_i a r
        split at hs
        · rename_i hcat
          cases hs
          have h9 := hokP _ (px_find_mem hj)
          simp only [px_okR, Bool.and_eq_true, decide_eq_true_eq] at h9
          obtain ⟨⟨⟨⟨k1, k2⟩, k3⟩, k4⟩, k5⟩ := h9
          have q1 := hts _ (hal _ k1)
          have q2 := hts _ (hal _ k2)
          have q3 := hts _ (hal _ k3)
          simp only [px_w, ho] at q1 q2 q3
          refine W.objInit hx hb hown q1 q2 q3 rfl (by rw [hml]; exact hl.1) rfl hd (by rw [hRM]; exact k4) ?_ (kk H locs ls hR hS hl)
          have := px_room (m := m) (pc := pc) (ls := ls) (st0 := List.map (px_tr base b) (Value.ref a :: r)) (base := base) (b := b) (of_decide_eq_true hcat)
          rw [hRM]
          omega
        · cases hs
      · cases hs
    · rename_i mi n fl hj
      split at hs
      · rename_i a ha0
        split at hs
        · cases hs
        · rename_i N hN
          split at hs
          · rename_i h1 h2 h3 h4 h5
            split at hs
            · cases hs
            · rename_i r hp' hcl
              cases hs
              have h9 := hokP _ (px_find_mem hj)
              simp only [px_okR, hN, px_okN] at h9
              rcases hm9 : mf[mi]? with _ | ⟨k', n', ci'⟩
              · rw [hm9] at h9; cases h9
              rw [hm9] at h9
              simp only [Bool.and_eq_true, Bool.or_eq_true, decide_eq_true_eq] at h9
              obtain ⟨⟨⟨⟨⟨⟨⟨j1, j2⟩, j3⟩, k1⟩, k2⟩, k4⟩, k7⟩, k8⟩ := h9
              have j1 := Nat.eq_of_beq_eq_true j1
              have j2 := Nat.eq_of_beq_eq_true j2
              subst j1 j2
              obtain ⟨k3, -, m2⟩ := hmf mi N _ _ _ hN hm9
              obtain ⟨k5, k6, -⟩ := m2 rfl
              have k1 := hCW _ k1
              have k2 := hts _ (hal _ k2)
              have k7 := hts _ (hal _ k7)
              simp only [px_w, ho, hN] at k1 k2 k7
              have hM := hcall mi N _ hp r hp' hN hcl
              have hG : GoodIn Ts (px_ws ALL N) := px_goodIn hall hgood k1
              have hsz := px_exact (base := base) (b := b) (D := D) (cl := cl) (dA := dA) (H := H) (N0 := N0) (nc := nc) (hp := hp) hR (Nat.le_trans hbase hS.1)
              refine px_W_size (fun hle => ?_)
              have hcells := of_decide_eq_true h3
              have hslots := of_decide_eq_true h4
              have hPre : ∀ U : State, U.heap = H → s.WarmedH U.vm → px_Pc EXT base b D cl T dA (px_rm N).cells (st.take (n + 1)).reverse hp ((st.take (n + 1)).reverse.map (px_tr base b)).toArray U := fun U hU hW =>
                ⟨rfl, by rw [hU]; exact hR, va_K.moved hW.alike hK, px_Ex.moved hEx hW hE, by rw [hU]; exact Nat.le_trans hbase hS.1, fun hne => by
                  rw [hU]
                  rcases of_decide_eq_true h5 with h | h
                  · exact absurd h hne
                  · exact hsz h (by rw [← hN0 (by omega)]; exact hle)⟩
              have hAs : (st.take (n + 1)).reverse.map (px_tr base b) = Value.ref (base + a) :: ((st.take n).reverse.map (px_tr base b)) := px_args ha0
              rw [hAs] at hPre
              refine W.eq (g2 := F0 m pc ls (((st.take n).reverse.map (px_tr base b)).reverse ++ Value.ref (base + a) :: ((st.drop (n + 1)).map (px_tr base b)))) (by rw [px_stack ha0]) ?_
              rcases k8 with k8 | k8
              · have k8 := hts _ (hal _ k8)
                simp only [px_w, ho, hN] at k8
                refine px_W_call (va_runI (As := (st.take n).reverse.map (px_tr base b)) (rest := (st.drop (n + 1)).map (px_tr base b)) ⟨hx, hb, hml, hown, hts⟩ hM ⟨px_eqr k6 (callB_of n hts hG rfl rfl rfl k2 k8 k3 (by rw [hRM]; exact k4)), k5, k7⟩ ⟨px_blind hEx _ _ _ _ _ _ _ _ _, hPre⟩ rfl (px_len_take ha0) (by rw [hl.1]) rfl (px_room (of_decide_eq_true h2)) hd (by rw [hRM]; exact ⟨hcells, hslots⟩)) hS (fun st o t _ h => h.2.2) (fun v st2 t locs1 e1 hQ hS1 => ?_)
                obtain ⟨ev, hR1, -⟩ := hQ
                cases ev
                exact W.eq (by rw [px_ret]) (kk t.heap locs1 ls hR1 hS1 hl)
              · have k8 := hCE _ k8
                simp only [px_w, ho, hN] at k8
                refine px_W_call (va_runIN (As := (st.take n).reverse.map (px_tr base b)) (rest := (st.drop (n + 1)).map (px_tr base b)) ⟨hx, hb, hml, hown, hts⟩ hM ⟨px_eqn k6 (va_cnB n hts hG rfl rfl rfl (hE _ k8) k2 k3 (by rw [hRM]; exact k4)), k5, k7⟩ ⟨px_blind hEx _ _ _ _ _ _ _ _ _, hPre⟩ rfl (px_len_take ha0) (by rw [hl.1]) rfl (px_room (of_decide_eq_true h2)) hd (by rw [hRM]; exact ⟨hcells, hslots⟩)) hS (fun st o t _ h => h.2.2) (fun v st2 t locs1 e1 hQ hS1 => ?_)
                obtain ⟨ev, hR1, -⟩ := hQ
                cases ev
                exact W.eq (by rw [px_ret]) (kk t.heap locs1 ls hR1 hS1 hl)
          · cases hs
      · cases hs
    · cases hs
  case new idx =>
    have hlen : len = 3 := of_decide_eq_true hoi
    subst hlen
    simp only at hs
    split at hs
    · rename_i ci z1 z2 hj
      split at hs
      · rename_i n tys hT
        split at hs
        · rename_i h1 h2 h3
          cases hs
          have h9 := hokP _ (px_find_mem hj)
          simp only [px_okR, Bool.and_eq_true, decide_eq_true_eq] at h9
          obtain ⟨⟨k2, k3⟩, k4⟩ := h9
          have k2 := hts _ (hal _ k2)
          have k3 := hts _ (hal _ k3)
          have k4 := hts _ (hal _ k4)
          rcases hcl2 : cl[ci]? with _ | ⟨C, F9, N9⟩
          · exact absurd (hokL ci hcl2) (by rw [hT]; simp)
          · simp only [px_w, ho, hcl2] at k2 k3 k4
            obtain ⟨tys', e1, e2, e3, e4, e5, e6⟩ := hokK _ _ _ _ hcl2
            rw [hT] at e1
            cases e1
            have hKn := hK.1 ci _ hcl2
            have hsz := px_exact (base := base) (b := b) (D := D) (cl := cl) (dA := dA) (H := H) (N0 := N0) (nc := nc) (hp := hp) hR (Nat.le_trans hbase hS.1)
            refine px_W_size (fun hle => ?_)
            have hc1 := of_decide_eq_true h1
            have hHs : H.size = base + hp.length := hsz (of_decide_eq_true h3) (by rw [← hN0 (by omega)]; exact hle)
            refine W.newcK hx hb hown k2 k3 k4 rfl hd (by rw [hRM]; exact hc1) (by rw [hRM]; exact of_decide_eq_true h2) hKn.2.1 hHs (fun H1 kC hkC g1 g2 g3 => ?_)
            refine kk H1 locs ls ?_ ⟨Nat.le_trans hS.1 (by omega), fun x q1 q2 => (g3 x (by have := hS.1; omega)).trans (hS.2.1 x q1 q2), hS.2.2⟩ hl
            show va_P D cl (px_trH base b dA (hp ++ [.inr (ci, tys.map defaultValue)])) H1
            rw [px_trH_push]
            refine va_P.app (va_P.kept hR (fun k x hx9 => g3 x.1 (by rw [← hHs]; exact (hR k x hx9).lt))) (fun k x hx9 => ?_)
            have hz : k < 1 := (List.getElem?_eq_some_iff.mp hx9).1
            rw [show k = 0 by omega] at hx9
            cases hx9
            refine ⟨_, hcl2, (u_born (fun k => tys.getD k .int) hts (fun w hw => hall _ (e5 w hw)) hKn hkC g1 e3).to (fun j hj9 => ?_)⟩
            exact px_dv base b tys j (by rw [e2]; exact hj9)
        · cases hs
      · cases hs
    · cases hs
  case newarray aty =>
    have hlen : len = 2 := of_decide_eq_true hoi
    subst hlen
    simp only at hs
    split at hs
    · rename_i t z1 z2 n r hj
      split at hs
      · rename_i ty ht h0 h1 h2 h3 h4
        split at hs
        · rename_i a0 h5 h6
          cases hs
          have hty := of_decide_eq_true h5
          have h9 := hokP _ (px_find_mem hj)
          have hsz := px_exact (base := base) (b := b) (D := D) (cl := cl) (dA := dA) (H := H) (N0 := N0) (nc := nc) (hp := hp) hR (Nat.le_trans hbase hS.1)
          refine px_W_size (fun hle => ?_)
          have hc1 := of_decide_eq_true h2
          have hHs : H.size = base + hp.length := hsz (of_decide_eq_true h4) (by rw [← hN0 (by omega)]; exact hle)
          obtain ⟨q1, q2, q3⟩ := px_dflt_ok (base := base) h6
          have hac : (Cond.arrayClass ty).before args s = true := by
            simp only [px_okR, ht] at h9
            cases ty <;> first | (have h8 := hts _ (hal _ (of_decide_eq_true h9)); simp only [px_w, ht] at h8; exact h8) | (exfalso; cases aty <;> simp [newarray.typeOf] at hty) | (simp [px_dflt] at h6; done)
          have hn0 : ¬ n < 0 := by
            rw [Int32.lt_iff_toInt_lt]
            have := of_decide_eq_true h0
            simp only [Int32.toInt_zero]
            omega
          have hK2 := hK.2 t _ (px_tys_get ht)
          refine va_newaK hx hb (by rw [hty]; exact hac) rfl hd rfl hn0 rfl ?_ (by rw [hRM]; exact hc1) (by rw [hRM]; exact of_decide_eq_true h3) hHs (fun H1 cA g1 g2 g3 g4 g5 => ?_)
          · rw [hty]
            have := of_decide_eq_true h1
            have := px_clamp (of_decide_eq_true h0) (of_decide_eq_true h1)
            have := px_cb ty
            exact Nat.le_trans (Nat.mul_le_mul ‹_› this) (by decide)
          · have hcA : cA = dA t := by
              rw [hty] at g5
              have h8 := px_RA (by rw [← hty]; cases aty <;> rfl) hK2.2
              rw [g5] at h8
              exact Option.some.inj h8
            subst hcA
            refine kk H1 locs ls ?_ ⟨Nat.le_trans hS.1 (by omega), fun x y1 y2 => (g3 x (by have := hS.1; omega)).trans (hS.2.1 x y1 y2), hS.2.2⟩ hl
            show va_P D cl (px_trH base b dA (hp ++ [.inl (t, a0)])) H1
            rw [px_trH_push]
            refine va_P.app (va_P.kept hR (fun k x hx9 => g3 x.1 (by rw [← hHs]; exact (hR k x hx9).lt))) (fun k x hx9 => ?_)
            have hz : k < 1 := (List.getElem?_eq_some_iff.mp hx9).1
            rw [show k = 0 by omega] at hx9
            cases hx9
            show H1[base + hp.length]? = some (vp_cell (dA t) (px_trA base a0))
            rw [g1, q1 (dA t), hty]
        · cases hs
      · cases hs
    · cases hs
  case anewarray idx =>
    have hlen : len = 3 := of_decide_eq_true hoi
    subst hlen
    simp only at hs
    split at hs
    · rename_i t z1 z2 t' z3 z4 n r hj hj2
      split at hs
      · rename_i C ht h00 h0 h1 h2 h3 h4
        cases hs
        have e00 := Nat.eq_of_beq_eq_true h00
        subst e00
        have h9 := hokP _ (px_find_mem hj2)
        simp only [px_okR, ht, Bool.and_eq_true, decide_eq_true_eq, Nat.add_sub_cancel_left] at h9
        have q1 := hts _ (hal _ h9.1)
        have q2 := hCE _ h9.2
        simp only [px_w, ho, ht] at q1 q2
        have hsz := px_exact (base := base) (b := b) (D := D) (cl := cl) (dA := dA) (H := H) (N0 := N0) (nc := nc) (hp := hp) hR (Nat.le_trans hbase hS.1)
        refine px_W_size (fun hle => ?_)
        have hc1 := of_decide_eq_true h2
        have hHs : H.size = base + hp.length := hsz (of_decide_eq_true h4) (by rw [← hN0 (by omega)]; exact hle)
        have hn0 : ¬ n < 0 := by
          rw [Int32.lt_iff_toInt_lt]
          have := of_decide_eq_true h0
          simp only [Int32.toInt_zero]
          omega
        obtain ⟨-, kA0, comp0, p1, p2, p3, p4⟩ := hK.2 t _ (px_tys_get ht)
        have hcb := px_clamp (of_decide_eq_true h0) (of_decide_eq_true h1)
        refine W.anew hx hb hown q1 (va_AO.use (hE _ q2)) rfl hd rfl hn0 (by omega) (by rw [hRM]; exact hc1) (by rw [hRM]; exact of_decide_eq_true h3) (fun cA kA comp g1 g2 g3 g4 => ?_)
        have hcA : cA = dA t := by
          rw [g1] at p4
          exact Option.some.inj p4
        subst hcA
        rw [hHs]
        have hpush : ∀ q : Nat, q < H.size → (H.push { cls := dA t, slots := Array.replicate n.toNatClampNeg Value.null, vm := .none })[q]? = H[q]? := fun q hq => by
          rw [Array.getElem?_push_lt hq, Array.getElem?_eq_getElem hq]
        refine kk _ locs ls ?_ ⟨Nat.le_trans hS.1 (by rw [Array.size_push]; omega), fun x y1 y2 => (hpush x (Nat.lt_of_lt_of_le y1 hS.1)).trans (hS.2.1 x y1 y2), hS.2.2⟩ hl
        show va_P D cl (px_trH base b dA (hp ++ [.inl (t, n.toNatClampNeg, .inr (.inr (.inr (.inr (fun _ => none)))))])) _
        rw [px_trH_push]
        refine va_P.app (va_P.kept hR (fun k x hx9 => hpush x.1 (hR k x hx9).lt)) (fun k x hx9 => ?_)
        have hz : k < 1 := (List.getElem?_eq_some_iff.mp hx9).1
        rw [show k = 0 by omega] at hx9
        cases hx9
        show (H.push _)[base + hp.length]? = some (vp_cell (dA t) (n.toNatClampNeg, .inr (.inr (.inr (.inr (fun _ => none))))))
        rw [← hHs, Array.getElem?_push_size]
        congr 1
        rw [vp_cell_q]
        simp only [arrV, va_rf]
        congr 1
        apply Array.ext
        · simp
        · intro i q1 q2
          simp
      · cases hs
    · cases hs
  case aastore =>
    have hlen : len = 1 := of_decide_eq_true hoi
    subst hlen
    simp only at hs
    split at hs
    · rename_i v j a r
      split at hs
      · rename_i t n f ci vs hq hv
        split at hs
        · rename_i C w9 hin ht hT
          split at hs
          · rename_i ci' t' z2 hj
            split at hs
            · rename_i hcc
              cases hs
              simp only [Bool.and_eq_true] at hcc
              have e00 := Nat.eq_of_beq_eq_true hcc.1
              have e01 := Nat.eq_of_beq_eq_true hcc.2
              subst e00 e01
              have h9 := hokP _ (px_find_mem hj)
              simp only [px_okR, ht] at h9
              rcases hcl2 : cl[ci]? with _ | ⟨C2, F9, N9⟩
              · rw [hcl2] at h9; cases h9
              · rw [hcl2] at h9
                have h10 := of_decide_eq_true h9
                have h11 : T.1[t]? = some (.object C2) := by rw [ht, h10]
                refine va_astq hx hb hK hR hD hS a t v ci (px_trH_get hq) (px_tys_get h11) (px_trH_get hv) hcl2 (px_inR_in hin) hd (fun H1 locs1 hP1 hD1 hS1 => ?_)
                have hset := px_trH_set base b dA hp a (.inl (t, n, .inr (.inr (.inr (.inr (va_up f j.toNatClampNeg (some v)))))))
                simp only [px_trE, px_trA] at hset
                rw [px_upq] at hset
                rw [hset] at hP1
                exact kk H1 locs1 ls hP1 hS1 hl
            · cases hs
          · cases hs
        · cases hs
      · cases hs
    · cases hs
  case ireturn =>
    simp only at hs
    split at hs
    · split at hs <;> cases hs
    · cases hs
  case lreturn =>
    simp only at hs
    split at hs <;> cases hs
  case return_ =>
    simp only at hs
    split at hs <;> cases hs
  all_goals cases hs
end px_s3
