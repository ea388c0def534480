/-! the static checks -/
def px_okI (pc len : Nat) (i : Instr) : Bool :=
  match i with
  | .ifCond _ off => decide (len = 3) && decide (0 ≤ (pc : Int) + off)
  | .if_icmp _ off => decide (len = 3) && decide (0 ≤ (pc : Int) + off)
  | .goto off => decide (len = 3) && decide (0 ≤ (pc : Int) + off)
  | .tableswitch dflt _ _ offs => decide (0 ≤ (pc : Int) + dflt) && offs.toList.all (fun off => decide (0 ≤ (pc : Int) + off))
  | .lookupswitch dflt ps => (ps.toList.zip (ps.toList.drop 1)).all (fun q => decide (q.1.1 < q.2.1)) && decide (0 ≤ (pc : Int) + dflt) && ps.toList.all (fun q => decide (0 ≤ (pc : Int) + q.2))
  | i => decide (len = px_len i)
def px_okC (M : px_M) : Bool := (px_cd M).all fun q => decide (decode (px_by M) q.1 = .ok (q.2.2, q.2.1)) && px_okI q.1 q.2.1 q.2.2
/-- a word by its code -/
abbrev px_Cw : Type := Nat × List Nat × Int
def px_mn (w : Nat) : MethodName :=
  match w with
  | 0 => Lib.Math.max.name
  | 1 => Lib.Math.min.name
  | 2 => Lib.MathLoose.max_long.x
  | _ => Lib.MathLoose.min_long.x
def px_w (ow : List String) (cl : List vw_C) (T : px_T) (P : List px_M) (host : String) (q : px_Cw) : Cond :=
  match q with
  | (0, [o, idx, ci, k], _) => match cl[ci]? with
    | some (_, F, _) => .fieldLink (ow.getD o "") idx (F k).1 (F k).2.1 (F k).2.2.1
    | none => .tt
  | (1, [o, idx, mi], _) => match P[mi]? with
    | some N => .methodLink (ow.getD o "") idx (px_nm N)
    | none => .tt
  | (2, [mi], _) => match P[mi]? with
    | some N => .code (px_nm N) (px_by N) (px_ml N) (px_rt N)
    | none => .tt
  | (3, [mi], _) => match P[mi]? with
    | some N => .instanceMethod (px_nm N)
    | none => .tt
  | (4, [mi], _) => match P[mi]? with
    | some N => .static (px_nm N)
    | none => .tt
  | (5, [mi], _) => match P[mi]? with
    | some N => .selects (px_nm N).cls (px_nm N) (px_nm N)
    | none => .tt
  | (6, [mi], _) => match P[mi]? with
    | some N => .initialized (px_nm N).cls
    | none => .tt
  | (7, [o, idx], v) => .constant (ow.getD o "") idx (Int32.ofInt v)
  | (8, [o, idx], v) => .constantLong (ow.getD o "") idx (Int64.ofInt v)
  | (9, [o, idx, ci], _) => match cl[ci]? with
    | some (C, _, _) => .classLink (ow.getD o "") idx C
    | none => .tt
  | (10, [ci], _) => match cl[ci]? with
    | some (C, _, N) => .instantiable C N
    | none => .tt
  | (11, [ci], _) => match cl[ci]? with
    | some (C, _, _) => .initialized C
    | none => .tt
  | (12, [t], _) => match T.1[t]? with
    | some ty => .arrayClass ty
    | none => .tt
  | (13, [o, idx], _) => .methodLink (ow.getD o "") idx objectInit
  | (14, [], _) => .instanceMethod objectInit
  | (15, [], _) => .code objectInit ⟨#[0xb1]⟩ 1 none
  | (16, [ci, k], _) => match cl[ci]? with
    | some (C, F, _) => u_lay C F k
    | none => .tt
  | (17, [o, idx, t], _) => match T.1[t]? with
    | some (.object C) => .classLink (ow.getD o "") idx C
    | _ => .tt
  | (22, [o, idx, w], _) => .methodLink (ow.getD o "") idx (px_mn w)
  | (23, [w], _) => .static (px_mn w)
  | (24, [0], _) => .code Lib.Math.max.name Lib.Math.max.code 2 (some .int)
  | (24, [1], _) => .code Lib.Math.min.name Lib.Math.min.code 2 (some .int)
  | (24, [2], _) => .code Lib.MathLoose.max_long.x Lib.MathLoose.max_long.code 4 (some .long)
  | (24, [3], _) => .code Lib.MathLoose.min_long.x Lib.MathLoose.min_long.code 4 (some .long)
  | (25, [], _) => .initialized "java/lang/Math"
  | (20, [o, idx, mi], _) => match P[mi]? with
    | some N => .methodLinkNest (ow.getD o "") idx (px_nm N) host
    | none => .tt
  | (21, [t], _) => match T.1[t]? with
    | some ty => .arrayOver ty
    | none => .tt
  | _ => .tt
/-- of each method: its kind (0 static, 1 instance, 2 constructor), its arguments, its class's number -/
def px_Mf (cl : List vw_C) (P : List px_M) (mf : List (Nat × Nat × Nat)) : Prop :=
  ∀ (mi : Nat) (N : px_M) (k n ci : Nat), P[mi]? = some N → mf[mi]? = some (k, n, ci) →
    ((px_nm N).cls ≠ "java/lang/invoke/MethodHandle" ∧ (px_nm N).cls ≠ "java/lang/invoke/VarHandle" ∧ (parseMethodDescriptor (px_nm N).desc).map (fun d => d.parameters.length) = some n) ∧
    (k = 1 → ∀ (C : String) (F : u_T) (N9 : Nat), cl[ci]? = some (C, F, N9) → C = (px_nm N).cls) ∧ (k = 2 → (px_nm N).name = "<init>" ∧ px_rt N = none ∧ ∀ (C : String) (F : u_T) (N9 : Nat), cl[ci]? = some (C, F, N9) → C = (px_nm N).cls)
/-- a callee's words and room, at this method -/
def px_okN (CW : List px_Cw) (mf : List (Nat × Nat × Nat)) (M N : px_M) (mi n k ci : Nat) : Bool :=
  match mf[mi]? with
  | some (k', n', ci') => Nat.beq k k' && Nat.beq n n' && (Nat.beq k 0 || Nat.beq ci ci') && decide (((2, [mi], 0) : px_Cw) ∈ CW) && decide (((6, [mi], 0) : px_Cw) ∈ CW)
    && decide ((px_rm N).frames + 1 ≤ (px_rm M).frames ∧ 8 + (px_ml N + 11) + (px_rm N).locals ≤ (px_rm M).locals)
  | none => false
def px_okR (cl : List vw_C) (T : px_T) (P : List px_M) (CW CE : List px_Cw) (mf : List (Nat × Nat × Nat)) (o kM cM : Nat) (M : px_M) (q : Nat × px_R) : Bool :=
  match q with
  | (idx, 0, ci, k, fl) => match cl[ci]? with
    | some (_, F, N) => decide (k < N) && decide (((0, [o, idx, ci, k], 0) : px_Cw) ∈ CW) && (decide (2 ≤ fl) || !(F k).2.2.2) && (!(decide (fl = 2)) || (Nat.beq kM 2 && Nat.beq cM ci))
    | none => false
  | (idx, 1, mi, n, ci) => match P[mi]? with
    | some N => px_okN CW mf M N mi n 1 ci.toNat && decide (((3, [mi], 0) : px_Cw) ∈ CW) && decide (((5, [mi], 0) : px_Cw) ∈ CW) && decide (((1, [o, idx, mi], 0) : px_Cw) ∈ CW)
    | none => false
  | (idx, 2, mi, n, _) => match P[mi]? with
    | some N => px_okN CW mf M N mi n 0 0 && decide (((4, [mi], 0) : px_Cw) ∈ CW) && (decide (((1, [o, idx, mi], 0) : px_Cw) ∈ CW) || decide (((20, [o, idx, mi], 0) : px_Cw) ∈ CE))
    | _ => false
  | (idx, 11, w, _, _) => decide (w < 4) && decide (((22, [o, idx, w], 0) : px_Cw) ∈ CW) && decide (((23, [w], 0) : px_Cw) ∈ CW) && decide (((24, [w], 0) : px_Cw) ∈ CW) && decide (((25, [], 0) : px_Cw) ∈ CW) && decide (1 ≤ (px_rm M).frames) && decide (23 ≤ (px_rm M).locals)
  | (idx, 3, _, _, v) => decide (((7, [o, idx], v) : px_Cw) ∈ CW)
  | (idx, 4, _, _, v) => decide (((8, [o, idx], v) : px_Cw) ∈ CW)
  | (idx, 5, ci, _, _) => decide (((9, [o, idx, ci], 0) : px_Cw) ∈ CW) && decide (((10, [ci], 0) : px_Cw) ∈ CW) && decide (((11, [ci], 0) : px_Cw) ∈ CW)
  | (_, 6, t, _, _) => match T.1[t]? with
    | some (.object _) => true
    | some _ => decide (((12, [t], 0) : px_Cw) ∈ CW)
    | none => false
  | (idx, 7, _, _, _) => decide (((13, [o, idx], 0) : px_Cw) ∈ CW) && decide (((14, [], 0) : px_Cw) ∈ CW) && decide (((15, [], 0) : px_Cw) ∈ CW) && decide (1 ≤ (px_rm M).frames) && decide (20 ≤ (px_rm M).locals)
  | (idx, 8, mi, n, v) => match P[mi]? with
    | some N => px_okN CW mf M N mi n 2 v.toNat && decide (((3, [mi], 0) : px_Cw) ∈ CW) && (decide (((1, [o, idx, mi], 0) : px_Cw) ∈ CW) || decide (((20, [o, idx, mi], 0) : px_Cw) ∈ CE))
    | _ => false
  | (idx, 9, t, _, _) => match T.1[t]? with
    | some (.object _) => decide (((17, [o, idx - 300000, t], 0) : px_Cw) ∈ CW) && decide (((21, [t], 0) : px_Cw) ∈ CE)
    | _ => false
  | (_, 10, ci, t, _) => match cl[ci]?, T.1[t]? with
    | some (C, _, _), some (.object C') => decide (C' = C)
    | _, _ => false
  | _ => false
def px_okM (cl : List vw_C) (T : px_T) (P : List px_M) (CW CE : List px_Cw) (mf : List (Nat × Nat × Nat)) (o kM cM : Nat) (M : px_M) : Bool := px_okC M && (px_cp M).all (px_okR cl T P CW CE mf o kM cM M)
/-- the classes: their field tables, types and words -/
def px_okK (cl : List vw_C) (T : px_T) (ALL : List Cond) : Prop :=
  ∀ (ci : Nat) (C : String) (F : u_T) (N : Nat), cl[ci]? = some (C, F, N) → ∃ tys : List FieldType, T.2[ci]? = some (N, tys) ∧ tys.length = N ∧ (∀ k, k < N → parseFieldDescriptor (F k).2.2.1 = some (tys.getD k .int)) ∧ (∀ a, a < N → ∀ b, b < N → a ≠ b → (F a).2.1 ≠ (F b).2.1) ∧ (∀ w ∈ u_ws C F N, w ∈ ALL) ∧ (∀ k, k < N → (F k).1 = C)
def px_tys (T : px_T) (dA : Nat → ClassId) : List (ClassId × FieldType) := T.1.mapIdx (fun t ty => (dA t, ty))
theorem px_tys_get {T : px_T} {dA : Nat → ClassId} {t : Nat} {ty : FieldType} (h : T.1[t]? = some ty) : (px_tys T dA)[t]? = some (dA t, ty) := by simp [px_tys, List.getElem?_mapIdx, h]
def px_ws (ALL : List Cond) (N : px_M) : List Cond := .code (px_nm N) (px_by N) (px_ml N) (px_rt N) :: ALL
def px_Rel (base b : Nat) (D : va_G) (cl : List vw_C) (dA : Nat → ClassId) (hp : px_H) (H : Heap) : Prop := va_P D cl (px_trH base b dA hp) H
/-- the words that warm otherwise than the tables' -/
def px_isX : Cond → Bool
  | .fieldLinkNest .. => true
  | .methodLinkNest .. => true
  | .arrayOver (.object _) => true
  | _ => false
def px_Ex (EXT : List Cond) (U : State) : Prop := ∀ w ∈ EXT, w.before #[] U = true
theorem px_Ex.moved {EXT : List Cond} (hE : ∀ w ∈ EXT, px_isX w = true) {s U : State} (hW : s.WarmedH U.vm) (h : px_Ex EXT s) : px_Ex EXT U := by
  intro w hw
  have h1 := h w hw
  have h2 := hE w hw
  unfold px_isX at h2
  split at h2
  · exact va_Nw.warmF hW h1
  · exact va_Nw.warmM hW h1
  · exact va_AO.moved hW.alike h1
  · cases h2
theorem px_Ex.same {EXT : List Cond} (hE : ∀ w ∈ EXT, px_isX w = true) {s U : State} (hvm : s.vm = U.vm) (h : px_Ex EXT s) : px_Ex EXT U := by
  intro w hw
  have h1 := h w hw
  have h2 := hE w hw
  unfold px_isX at h2
  split at h2
  · exact va_Nw.same rfl hvm h1
  · exact va_Nw.same rfl hvm h1
  · exact va_AO.moved (by rw [hvm]; exact Vm.Alike.refl U.vm) h1
  · cases h2
def px_Pc (EXT : List Cond) (base b : Nat) (D : va_G) (cl : List vw_C) (T : px_T) (dA : Nat → ClassId) (nc : Nat) (av : List Value) (hp : px_H) : Array Value → State → Prop := fun v U => v = (av.map (px_tr base b)).toArray ∧ px_Rel base b D cl dA hp U.heap ∧ va_K D cl (px_tys T dA) U ∧ px_Ex EXT U ∧ base ≤ U.heap.size ∧ (nc ≠ 0 → U.heap.size = base + hp.length)
def px_Qc (base b : Nat) (D : va_G) (cl : List vw_C) (dA : Nat → ClassId) (r : Option Value) (hp' : px_H) : Array Value → State → Outcome → State → Prop := fun _ st o t => o = .returned (r.map (px_tr base b)) ∧ px_Rel base b D cl dA hp' t.heap ∧ va_F (fun q => base ≤ q) st t
def px_Met (l : Launch) (base b : Nat) (D : va_G) (cl : List vw_C) (T : px_T) (dA : Nat → ClassId) (ALL EXT : List Cond) (N : px_M) (av : List Value) (hp : px_H) (r : Option Value) (hp' : px_H) : Prop :=
  Met l (px_nm N) (px_ws ALL N) (px_rm N) (px_Pc EXT base b D cl T dA (px_rm N).cells av hp) (px_Qc base b D cl dA r hp') (px_rm N).cells (px_rm N).slots (fun q => base ≤ q)
theorem px_blind {EXT : List Cond} (hEx : ∀ w ∈ EXT, px_isX w = true) (base b : Nat) (D : va_G) (cl : List vw_C) (T : px_T) (dA : Nat → ClassId) (nc : Nat) (av : List Value) (hp : px_H) : FrameBlind (px_Pc EXT base b D cl T dA nc av hp) := by
  intro a U g mk q
  obtain ⟨q0, q1, q2, q3, q4, q5⟩ := q
  exact ⟨q0, q1, va_K.moved (u := U) (U := U.calling g mk a) (Vm.Alike.refl U.vm) q2, px_Ex.same hEx (s := U) (U := U.calling g mk a) rfl q3, q4, q5⟩
section px_s2
variable {p : Program} {l : Launch} {e : Env} {R : Room} {s : State} {m : MethodId} {args : Array Value} {below : List Frame} {meth : Method} {c : Code} {H : Heap} {locs : List Loc} {cells slots : Nat} {Q : State → Prop}
variable {pc mc ms : Nat} {ls : Array Slot} {A : Nat → Prop} {H0 : Heap}
theorem px_W_size {g : JFrame} (h : H.size ≤ s.heap.size + cells → W p l e R s m args below meth c H locs cells slots Q g) : W p l e R s m args below meth c H locs cells slots Q g := fun T hT X => h (by rw [← hT]; exact X.heapSize) T hT X
theorem px_W_call {st0 rest : List Value} {Qa : State → Outcome → State → Prop} (hr : va_Run p l e R s m args below meth c H locs cells slots mc ms (F0 m pc ls st0) rest Qa A) (hS : va_S A H0 H locs)
    (hF : ∀ st o t, st.heap = H → Qa st o t → va_F A st t)
    (kk : ∀ (v : Option Value) (st t : State) (locs1 : List Loc), st.heap = H → Qa st (.returned v) t → va_S A H0 t.heap locs1 → W p l e R s m args below meth c t.heap locs1 (cells + mc) (slots + ms) Q (F0 m (pc + 3) ls (v.toList ++ rest))) : W p l e R s m args below meth c H locs cells slots Q (F0 m pc ls st0) := by
  intro T hT X
  obtain ⟨v, st₀, t, T', L, h0, X', hL, e1, e2, hQ, st⟩ := hr T hT X
  have hf := hF _ _ _ h0 hQ
  obtain ⟨hz, hk⟩ := hf
  rw [h0] at hz hk
  obtain ⟨t2, a1, b1⟩ := kk v st₀ t (locs ++ L) h0 hQ
    ⟨Nat.le_trans hS.1 hz, fun q h1 h2 => by rw [hk q (Nat.lt_of_lt_of_le h1 hS.1) h2]; exact hS.2.1 q h1 h2, fun q hq => by
      rcases List.mem_append.mp hq with h | h
      · exact hS.2.2 q h
      · exact hL q h⟩ T' e1 X'
  exact ⟨t2, st t2 a1, b1⟩
end px_s2
theorem px_split {st : List Value} {n : Nat} {v : Value} (h : st[n]? = some v) : st = st.take n ++ v :: st.drop (n + 1) := by
  obtain ⟨hlt, rfl⟩ := List.getElem?_eq_some_iff.mp h
  rw [← List.drop_eq_getElem_cons hlt, List.take_append_drop]
theorem px_args {st : List Value} {n a base b : Nat} (h : st[n]? = some (.ref a)) : (st.take (n + 1)).reverse.map (px_tr base b) = Value.ref (base + a) :: ((st.take n).reverse.map (px_tr base b)) := by
  rw [List.take_add_one, h]
  simp [px_tr]
theorem px_stack {st : List Value} {n a base b : Nat} (h : st[n]? = some (.ref a)) : st.map (px_tr base b) = ((st.take n).reverse.map (px_tr base b)).reverse ++ Value.ref (base + a) :: ((st.drop (n + 1)).map (px_tr base b)) := by
  conv => lhs; rw [px_split h]
  simp [px_tr]
theorem px_stackS {st : List Value} {n base b : Nat} : st.map (px_tr base b) = ((st.take n).reverse.map (px_tr base b)).reverse ++ ((st.drop n).map (px_tr base b)) := by
  conv => lhs; rw [← List.take_append_drop n st]
  simp
theorem px_len_take {st : List Value} {n base b : Nat} {v : Value} (h : st[n]? = some v) : ((st.take n).reverse.map (px_tr base b)).length = n := by
  have := (List.getElem?_eq_some_iff.mp h).1
  simp
  omega
theorem px_goodIn {ALL Ts : List Cond} {N : px_M} (hall : ∀ w ∈ ALL, w ∈ Ts) (hgood : ∀ w ∈ ALL, (w.onTables && w.keeps) = true ∨ ∃ ty, w = .arrayClass ty) (hc : Cond.code (px_nm N) (px_by N) (px_ml N) (px_rt N) ∈ ALL) : GoodIn Ts (px_ws ALL N) := by
  intro w hw
  rcases List.mem_cons.mp hw with rfl | h
  · exact ⟨hall _ hc, hgood _ hc⟩
  · exact ⟨hall _ h, hgood _ h⟩
theorem px_low {base b : Nat} {D : va_G} {cl : List vw_C} {dA : Nat → ClassId} {hp : px_H} {H : Heap} (hR : px_Rel base b D cl dA hp H) (hb : base ≤ H.size) : base + hp.length ≤ H.size := by
  rcases Nat.eq_zero_or_pos hp.length with h | h
  · omega
  · obtain ⟨x, hx⟩ : ∃ x, hp[hp.length - 1]? = some x := ⟨_, List.getElem?_eq_getElem (by omega)⟩
    have := (hR _ _ (px_trH_get hx)).lt
    simp only at this
    omega
theorem px_exact {base b : Nat} {D : va_G} {cl : List vw_C} {dA : Nat → ClassId} {hp : px_H} {H : Heap} {N0 nc : Nat} (hR : px_Rel base b D cl dA hp H) (hb : base ≤ H.size) (h : hp.length = N0 + nc) (hle : H.size ≤ base + N0 + nc) : H.size = base + hp.length := by
  have := px_low hR hb
  omega
theorem px_room {m : MethodId} {pc : Nat} {ls : Array Slot} {st0 rest : List Value} {base b : Nat} (h : (rest.map fun v => v.category).sum ≤ 8) : 2 * (F0 m pc ls st0).monitorRoom + ((rest.map (px_tr base b)).map fun v => v.category).sum ≤ 8 := by
  have e : (rest.map (px_tr base b)).map (fun v => v.category) = rest.map (fun v => v.category) := by
    rw [List.map_map]
    exact List.map_congr_left (fun v _ => px_cat base b v)
  rw [e]
  exact lv_room h
theorem px_ret (base b : Nat) (r : Option Value) (st : List Value) : (r.map (px_tr base b)).toList ++ st.map (px_tr base b) = (r.toList ++ st).map (px_tr base b) := by
  cases r <;> rfl
