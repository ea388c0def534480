section mg_0
/-! THE PURE MACHINE: what the bytecode does, as a function on a pure state. References are numbers of cells; '.retAddr' stands for the law's script. -/
/-- a cell: an array (its role's number, its length and contents) or an object (its class's number, its fields) -/
abbrev px_E : Type := (Nat × vp_A) ⊕ (Nat × List Value)
abbrev px_H : Type := List px_E
/-- what a place of the pool stands for: tag, two numbers, a constant -/
abbrev px_R : Type := Nat × Nat × Nat × Int
/-- a method: its name, bytes, locals, answer; its room; its class's number; its code, its pool -/
abbrev px_M : Type := MethodName × ByteArray × Nat × Option FieldType × Room × List (Nat × Nat × Instr) × List (Nat × px_R)
abbrev px_nm (M : px_M) : MethodName := M.1
abbrev px_by (M : px_M) : ByteArray := M.2.1
abbrev px_ml (M : px_M) : Nat := M.2.2.1
abbrev px_rt (M : px_M) : Option FieldType := M.2.2.2.1
abbrev px_rm (M : px_M) : Room := M.2.2.2.2.1
abbrev px_cd (M : px_M) : List (Nat × Nat × Instr) := M.2.2.2.2.2.1
abbrev px_cp (M : px_M) : List (Nat × px_R) := M.2.2.2.2.2.2
/-- a state in a method: pc, locals, stack, heap, cells and slots made so far -/
abbrev px_S : Type := Nat × List (Nat × Value) × List Value × px_H × Nat × Nat
abbrev px_A : Type := Option Value × px_H
def px_find {α : Type} (k : Nat) : List (Nat × α) → Option α
  | [] => none
  | q :: r => match Nat.beq q.1 k with
    | true => some q.2
    | false => px_find k r
def px_ii (f : Int32 → Int32 → Int32) : List Value → Option (List Value)
  | .int y :: .int x :: r => some (.int (f x y) :: r)
  | _ => none
def px_iiz (f : Int32 → Int32 → Int32) : List Value → Option (List Value)
  | .int y :: .int x :: r => if y = 0 then none else some (.int (f x y) :: r)
  | _ => none
def px_ll (f : Int64 → Int64 → Int64) : List Value → Option (List Value)
  | .long y :: .long x :: r => some (.long (f x y) :: r)
  | _ => none
def px_llz (f : Int64 → Int64 → Int64) : List Value → Option (List Value)
  | .long y :: .long x :: r => if y = 0 then none else some (.long (f x y) :: r)
  | _ => none
def px_li (f : Int64 → Int32 → Int64) : List Value → Option (List Value)
  | .int y :: .long x :: r => some (.long (f x y) :: r)
  | _ => none
def px_i1 (f : Int32 → Value) : List Value → Option (List Value)
  | .int x :: r => some (f x :: r)
  | _ => none
def px_l1 (f : Int64 → Value) : List Value → Option (List Value)
  | .long x :: r => some (f x :: r)
  | _ => none
def px_lc : List Value → Option (List Value)
  | .long y :: .long x :: r => some (.int (lg_cmp x y) :: r)
  | _ => none
def px_dup : List Value → Option (List Value)
  | a :: r => if a.category = 1 then some (a :: a :: r) else none
  | _ => none
def px_dup_x1 : List Value → Option (List Value)
  | a :: b :: r => if a.category = 1 ∧ b.category = 1 then some (a :: b :: a :: r) else none
  | _ => none
def px_dup_x2 : List Value → Option (List Value)
  | a :: b :: d :: r => if a.category = 1 ∧ b.category = 1 ∧ d.category = 1 then some (a :: b :: d :: a :: r) else none
  | _ => none
def px_dup2 : List Value → Option (List Value)
  | [] => none
  | a :: r => if a.category = 2 then some (a :: a :: r) else match r with
    | [] => none
    | b :: r => if a.category = 1 ∧ b.category = 1 then some (a :: b :: a :: b :: r) else none
def px_dup2_x1 : List Value → Option (List Value)
  | a :: b :: r => if a.category = 2 ∧ b.category = 1 then some (a :: b :: a :: r) else none
  | _ => none
def px_dup2_x2 : List Value → Option (List Value)
  | a :: b :: d :: r => if a.category = 2 ∧ b.category = 1 ∧ d.category = 1 then some (a :: b :: d :: a :: r) else none
  | _ => none
def px_pop : List Value → Option (List Value)
  | a :: r => if a.category = 1 then some r else none
  | _ => none
def px_pop2 : List Value → Option (List Value)
  | a :: r => if a.category = 2 then some r else none
  | _ => none
/-- what touches the stack alone -/
def px_alu (i : Instr) (st : List Value) : Option (List Value) :=
  match i with
  | .iconst n => some (.int (Int32.ofInt n) :: st)
  | .bipush n => some (.int (Int8.ofInt n).toInt32 :: st)
  | .sipush n => some (.int (Int16.ofInt n).toInt32 :: st)
  | .lconst n => some (.long (Int64.ofNat (n : Nat)) :: st)
  | .iadd => px_ii (fun x y => x + y) st
  | .isub => px_ii (fun x y => x - y) st
  | .imul => px_ii (fun x y => x * y) st
  | .iand => px_ii (fun x y => x &&& y) st
  | .ior => px_ii (fun x y => x ||| y) st
  | .ixor => px_ii (fun x y => x ^^^ y) st
  | .ishl => px_ii (fun x y => x <<< (y &&& 31)) st
  | .ishr => px_ii (fun x y => x >>> (y &&& 31)) st
  | .iushr => px_ii (fun x y => (x.toUInt32 >>> (y.toUInt32 &&& Int32.toUInt32 31)).toInt32) st
  | .idiv => px_iiz (fun x y => x / y) st
  | .irem => px_iiz (fun x y => x - x / y * y) st
  | .ladd => px_ll (fun x y => x + y) st
  | .lsub => px_ll (fun x y => x - y) st
  | .lmul => px_ll (fun x y => x * y) st
  | .land => px_ll (fun x y => x &&& y) st
  | .lor => px_ll (fun x y => x ||| y) st
  | .lxor => px_ll (fun x y => x ^^^ y) st
  | .ldiv => px_llz (fun x y => x / y) st
  | .lshl => px_li (fun x y => x <<< (y.toInt64 &&& 63)) st
  | .lshr => px_li (fun x y => x >>> (y.toInt64 &&& 63)) st
  | .lushr => px_li (fun x y => (x.toUInt64 >>> (y.toInt64.toUInt64 &&& Int64.toUInt64 63)).toInt64) st
  | .ineg => px_i1 (fun x => .int (-x)) st
  | .i2l => px_i1 (fun x => .long x.toInt64) st
  | .i2b => px_i1 (fun x => .int x.toInt8.toInt32) st
  | .i2s => px_i1 (fun x => .int x.toInt16.toInt32) st
  | .l2i => px_l1 (fun x => .int x.toInt32) st
  | .lcmp => px_lc st
  | .dup => px_dup st
  | .dup_x1 => px_dup_x1 st
  | .dup_x2 => px_dup_x2 st
  | .dup2 => px_dup2 st
  | .dup2_x1 => px_dup2_x1 st
  | .dup2_x2 => px_dup2_x2 st
  | .pop => px_pop st
  | .pop2 => px_pop2 st
  | _ => none
/-- Math.max and min, of ints and of longs -/
def px_math (w : Nat) (st : List Value) : Option (List Value) :=
  match w, st with
  | 0, .int y :: .int x :: r => some (.int (if x < y then y else x) :: r)
  | 1, .int y :: .int x :: r => some (.int (if y < x then y else x) :: r)
  | 2, .long y :: .long x :: r => some (.long (if y < x then x else y) :: r)
  | 3, .long y :: .long x :: r => some (.long (if y < x then y else x) :: r)
  | _, _ => none
def px_st1 (lv : List (Nat × Value)) (i : Nat) (v : Value) : List (Nat × Value) := (i, v) :: lv.filter (fun q => !(q.1 == i) && !(q.1 + 1 == i && q.2.category == 2))
def px_st2 (lv : List (Nat × Value)) (i : Nat) (v : Value) : List (Nat × Value) := (i, v) :: lv.filter (fun q => !(q.1 == i) && (!(q.1 == i + 1) && !(q.1 + 1 == i && q.2.category == 2)))
def px_cmp (c : ClassFile.Cond) (x y : Int32) : Bool :=
  match c with
  | .eq => decide (x = y)
  | .ne => decide (¬ x = y)
  | .lt => decide (x < y)
  | .ge => decide (y ≤ x)
  | .gt => decide (y < x)
  | .le => decide (x ≤ y)
def px_tgt (pc : Nat) (off : Int) : Nat := ((pc : Int) + off).toNat
/-- the roles of arrays: the type of their elements; the classes: slots, types of the fields -/
abbrev px_T : Type := List FieldType × List (Nat × List FieldType)
def px_inR (i : Int32) (n : Nat) : Bool := decide (0 ≤ i.toInt) && decide (i.toInt < n)
def px_dflt (n : Nat) (ty : FieldType) : Option vp_A :=
  match ty with
  | .int => some (n, .inl (fun _ => 0))
  | .boolean => some (n, .inl (fun _ => 0))
  | .long => some (n, .inr (.inl (fun _ => 0)))
  | .object _ => some (n, .inr (.inr (.inr (.inr (fun _ => none)))))
  | _ => none
def px_zr (ty : FieldType) (v : Int32) : Bool :=
  match ty with
  | .int => true
  | .boolean => decide (v = 0) || decide (v = 1)
  | _ => false
def px_fits (ty : FieldType) (v : Value) : Bool :=
  match ty, v with
  | .int, .int _ => true
  | .long, .long _ => true
  | .object _, .ref _ => true
  | .array _, .ref _ => true
  | _, _ => false
/-- reading an element -/
def px_ald (T : px_T) (X : Option (Nat × (Nat → Int32))) (i : Instr) (hp : px_H) (a : Value) (j : Int32) : Option Value :=
  match a with
  | .retAddr _ => match i, X with
    | .iaload, some X => match px_inR j X.1 with
      | true => some (.int (X.2 j.toNatClampNeg))
      | false => none
    | _, _ => none
  | .ref k => match hp[k]? with
    | some (.inl (t, n, f)) => match px_inR j n with
      | false => none
      | true => match i, T.1[t]?, f with
        | .iaload, some .int, .inl f => some (.int (f j.toNatClampNeg))
        | .baload, some .boolean, .inl f => some (.int (f j.toNatClampNeg))
        | .laload, some .long, .inr (.inl f) => some (.long (f j.toNatClampNeg))
        | .aaload, some (.object _), .inr (.inr (.inr (.inr f))) => match f j.toNatClampNeg with
          | some q => some (.ref q)
          | none => none
        | _, _, _ => none
    | _ => none
  | _ => none
/-- writing an element: the new heap -/
def px_ast (T : px_T) (i : Instr) (hp : px_H) (k : Nat) (j : Int32) (v : Value) : Option px_H :=
  match hp[k]? with
  | some (.inl (t, n, f)) => match px_inR j n with
    | false => none
    | true => match i, T.1[t]?, f, v with
      | .iastore, some .int, .inl f, .int x => some (hp.set k (.inl (t, n, .inl (upd f j.toNatClampNeg x))))
      | .bastore, some .boolean, .inl f, .int x => match decide (x = 0) || decide (x = 1) with
        | true => some (hp.set k (.inl (t, n, .inl (upd f j.toNatClampNeg x))))
        | false => none
      | .lastore, some .long, .inr (.inl f), .long x => some (hp.set k (.inl (t, n, .inr (.inl (vp_updL f j.toNatClampNeg x)))))
      | _, _, _, _ => none
  | _ => none
/-- one step: a new state, or the method's end -/
def px_step (T : px_T) (X : Option (Nat × (Nat → Int32))) (P : List px_M) (call : Nat → List Value → px_H → Option px_A) (M : px_M) (N0 : Nat) (s : px_S) : Option (px_S ⊕ px_A) :=
  match s with
  | (pc, lv, st, hp, nc, ns) =>
    match px_find pc (px_cd M) with
    | none => none
    | some (len, i) =>
      match px_alu i st with
      | some st' => some (.inl (pc + len, lv, st', hp, nc, ns))
      | none =>
        let ldi (j : Nat) : Option (px_S ⊕ px_A) := match px_find j lv with
          | some (.int x) => some (.inl (pc + len, lv, .int x :: st, hp, nc, ns))
          | _ => none
        let ldl (j : Nat) : Option (px_S ⊕ px_A) := match px_find j lv with
          | some (.long x) => some (.inl (pc + len, lv, .long x :: st, hp, nc, ns))
          | _ => none
        let lda (j : Nat) : Option (px_S ⊕ px_A) := match px_find j lv with
          | some (.ref x) => some (.inl (pc + len, lv, .ref x :: st, hp, nc, ns))
          | some (.retAddr x) => some (.inl (pc + len, lv, .retAddr x :: st, hp, nc, ns))
          | _ => none
        let sti (j : Nat) : Option (px_S ⊕ px_A) := match st with
          | .int x :: r => match decide (j < px_ml M) with
            | true => some (.inl (pc + len, px_st1 lv j (.int x), r, hp, nc, ns))
            | false => none
          | _ => none
        let sta (j : Nat) : Option (px_S ⊕ px_A) := match st with
          | .ref x :: r => match decide (j < px_ml M) with
            | true => some (.inl (pc + len, px_st1 lv j (.ref x), r, hp, nc, ns))
            | false => none
          | _ => none
        let stl (j : Nat) : Option (px_S ⊕ px_A) := match st with
          | .long x :: r => match decide (j + 1 < px_ml M) with
            | true => some (.inl (pc + len, px_st2 lv j (.long x), r, hp, nc, ns))
            | false => none
          | _ => none
        let br (c : Bool) (off : Int) (r : List Value) : Option (px_S ⊕ px_A) := match c with
          | true => some (.inl (px_tgt pc off, lv, r, hp, nc, ns))
          | false => some (.inl (pc + 3, lv, r, hp, nc, ns))
        let inv (n mi : Nat) : Option (px_S ⊕ px_A) := match P[mi]? with
          | none => none
          | some N => match decide (n ≤ st.length), decide (((st.drop n).map fun v => v.category).sum ≤ 8), decide (nc + (px_rm N).cells ≤ (px_rm M).cells), decide (ns + (px_rm N).slots ≤ (px_rm M).slots), decide ((px_rm N).cells = 0 ∨ hp.length = N0 + nc) with
            | true, true, true, true, true => match call mi (st.take n).reverse hp with
              | none => none
              | some (r, hp') => some (.inl (pc + 3, lv, r.toList ++ st.drop n, hp', nc + (px_rm N).cells, ns + (px_rm N).slots))
            | _, _, _, _, _ => none
        match i with
        | .iload j => ldi j
        | .iload_n j => ldi j
        | .lload j => ldl j
        | .lload_n j => ldl j
        | .aload j => lda j
        | .aload_n j => lda j
        | .istore j => sti j
        | .istore_n j => sti j
        | .astore j => sta j
        | .astore_n j => sta j
        | .lstore j => stl j
        | .lstore_n j => stl j
        | .iinc j n => match px_find j lv, decide (j < px_ml M) with
          | some (.int x), true => some (.inl (pc + len, px_st1 lv j (.int (x + Int32.ofInt n)), st, hp, nc, ns))
          | _, _ => none
        | .ifCond c off => match st with
          | .int x :: r => br (px_cmp c x 0) off r
          | _ => none
        | .if_icmp c off => match st with
          | .int y :: .int x :: r => br (px_cmp c x y) off r
          | _ => none
        | .goto off => some (.inl (px_tgt pc off, lv, st, hp, nc, ns))
        | .tableswitch dflt lo hi offs => match st with
          | .int x :: r => match decide (x.toInt < lo) || decide (hi < x.toInt) with
            | true => some (.inl (px_tgt pc dflt, lv, r, hp, nc, ns))
            | false => match offs[(x.toInt - lo).toNat]? with
              | some off => some (.inl (px_tgt pc off, lv, r, hp, nc, ns))
              | none => none
          | _ => none
        | .lookupswitch dflt ps => match st with
          | .int x :: r => match decide (0 ≤ (pc : Int) + Op.lookupswitch.offset ps.toList dflt x.toInt) with
            | true => some (.inl (px_tgt pc (Op.lookupswitch.offset ps.toList dflt x.toInt), lv, r, hp, nc, ns))
            | false => none
          | _ => none
        | .ldc idx => match px_find idx (px_cp M) with
          | some (3, _, _, v) => some (.inl (pc + len, lv, .int (Int32.ofInt v) :: st, hp, nc, ns))
          | _ => none
        | .ldc_w idx => match px_find idx (px_cp M) with
          | some (3, _, _, v) => some (.inl (pc + len, lv, .int (Int32.ofInt v) :: st, hp, nc, ns))
          | _ => none
        | .ldc2_w idx => match px_find idx (px_cp M) with
          | some (4, _, _, v) => some (.inl (pc + len, lv, .long (Int64.ofInt v) :: st, hp, nc, ns))
          | _ => none
        | .getfield idx => match px_find idx (px_cp M), st with
          | some (0, ci, k, _), .ref a :: r => match hp[a]? with
            | some (.inr (c, fs)) => match Nat.beq c ci, fs[k]? with
              | true, some v => some (.inl (pc + len, lv, v :: r, hp, nc, ns))
              | _, _ => none
            | _ => none
          | _, _ => none
        | .putfield idx => match px_find idx (px_cp M), st with
          | some (0, ci, k, fl), v :: .ref a :: r => match hp[a]?, T.2[ci]? with
            | some (.inr (c, fs)), some (_, tys) => match Nat.beq c ci, tys[k]?, decide (k < fs.length), decide (fl ≤ 2) with
              | true, some ty, true, true => match px_fits ty v with
                | true => some (.inl (pc + len, lv, r, hp.set a (.inr (ci, fs.set k v)), nc, ns))
                | false => none
              | _, _, _, _ => none
            | _, _ => none
          | _, _ => none
        | .arraylength => match st with
          | .retAddr _ :: r => match X with
            | some X => some (.inl (pc + len, lv, .int (Int32.ofNat X.1) :: r, hp, nc, ns))
            | none => none
          | .ref a :: r => match hp[a]? with
            | some (.inl (t, n, _)) => match T.1[t]? with
              | some _ => some (.inl (pc + len, lv, .int (Int32.ofNat n) :: r, hp, nc, ns))
              | none => none
            | _ => none
          | _ => none
        | .iaload => match st with
          | .int j :: a :: r => (px_ald T X i hp a j).map fun v => .inl (pc + len, lv, v :: r, hp, nc, ns)
          | _ => none
        | .baload => match st with
          | .int j :: a :: r => (px_ald T X i hp a j).map fun v => .inl (pc + len, lv, v :: r, hp, nc, ns)
          | _ => none
        | .laload => match st with
          | .int j :: a :: r => (px_ald T X i hp a j).map fun v => .inl (pc + len, lv, v :: r, hp, nc, ns)
          | _ => none
        | .aaload => match st with
          | .int j :: a :: r => (px_ald T X i hp a j).map fun v => .inl (pc + len, lv, v :: r, hp, nc, ns)
          | _ => none
        | .iastore => match st with
          | v :: .int j :: .ref a :: r => (px_ast T i hp a j v).map fun hp' => .inl (pc + len, lv, r, hp', nc, ns)
          | _ => none
        | .bastore => match st with
          | v :: .int j :: .ref a :: r => (px_ast T i hp a j v).map fun hp' => .inl (pc + len, lv, r, hp', nc, ns)
          | _ => none
        | .lastore => match st with
          | v :: .int j :: .ref a :: r => (px_ast T i hp a j v).map fun hp' => .inl (pc + len, lv, r, hp', nc, ns)
          | _ => none
        | .invokevirtual idx => match px_find idx (px_cp M) with
          | some (1, mi, n, ci) => match st[n]? with
            | some (.ref a) => match hp[a]? with
              | some (.inr (c, _)) => match Nat.beq c ci.toNat with
                | true => inv (n + 1) mi
                | false => none
              | _ => none
            | _ => none
          | _ => none
        | .invokestatic idx => match px_find idx (px_cp M) with
          | some (2, mi, n, _) => inv n mi
          | some (11, w, _, _) => match px_math w st, decide (((st.drop 2).map fun v => v.category).sum ≤ 8), decide (nc ≤ (px_rm M).cells), decide (ns ≤ (px_rm M).slots) with
            | some st', true, true, true => some (.inl (pc + 3, lv, st', hp, nc, ns))
            | _, _, _, _ => none
          | _ => none
        | .invokespecial idx => match px_find idx (px_cp M) with
          | some (7, _, _, _) => match st with
            | .ref _ :: r => match decide ((r.map fun v => v.category).sum ≤ 8) with
              | true => some (.inl (pc + 3, lv, r, hp, nc, ns))
              | false => none
            | _ => none
          | some (8, mi, n, _) => match st[n]? with
            | some (.ref _) => inv (n + 1) mi
            | _ => none
          | _ => none
        | .new idx => match px_find idx (px_cp M) with
          | some (5, ci, _, _) => match T.2[ci]? with
            | some (n, tys) => match decide (nc + 1 ≤ (px_rm M).cells), decide (ns + n ≤ (px_rm M).slots), decide (hp.length = N0 + nc) with
              | true, true, true => some (.inl (pc + 3, lv, .ref hp.length :: st, hp ++ [.inr (ci, tys.map defaultValue)], nc + 1, ns + n))
              | _, _, _ => none
            | none => none
          | _ => none
        | .newarray aty => match px_find (100000 + pc) (px_cp M), st with
          | some (6, t, _, _), .int n :: r => match T.1[t]?, decide (0 ≤ n.toInt), decide (n.toInt ≤ 100000), decide (nc + 1 ≤ (px_rm M).cells), decide (ns + n.toNatClampNeg ≤ (px_rm M).slots), decide (hp.length = N0 + nc) with
            | some ty, true, true, true, true, true => match decide (newarray.typeOf aty = ty), px_dflt n.toNatClampNeg ty with
              | true, some a0 => some (.inl (pc + 2, lv, .ref hp.length :: r, hp ++ [.inl (t, a0)], nc + 1, ns + n.toNatClampNeg))
              | _, _ => none
            | _, _, _, _, _, _ => none
          | _, _ => none
        | .anewarray idx => match px_find (100000 + pc) (px_cp M), px_find (300000 + idx) (px_cp M), st with
          | some (6, t, _, _), some (9, t', _, _), .int n :: r => match T.1[t]?, Nat.beq t t', decide (0 ≤ n.toInt), decide (n.toInt ≤ 100000), decide (nc + 1 ≤ (px_rm M).cells), decide (ns + n.toNatClampNeg ≤ (px_rm M).slots), decide (hp.length = N0 + nc) with
            | some (.object _), true, true, true, true, true, true => some (.inl (pc + 3, lv, .ref hp.length :: r, hp ++ [.inl (t, n.toNatClampNeg, .inr (.inr (.inr (.inr (fun _ => none)))))], nc + 1, ns + n.toNatClampNeg))
            | _, _, _, _, _, _, _ => none
          | _, _, _ => none
        | .aastore => match st with
          | .ref v :: .int j :: .ref a :: r => match hp[a]?, hp[v]? with
            | some (.inl (t, n, .inr (.inr (.inr (.inr f))))), some (.inr (ci, _)) => match px_inR j n, T.1[t]?, T.2[ci]? with
              | true, some (.object _), some _ => match px_find (200000 + t) (px_cp M) with
                | some (10, ci', t', _) => match Nat.beq ci ci' && Nat.beq t t' with
                  | true => some (.inl (pc + 1, lv, r, hp.set a (.inl (t, n, .inr (.inr (.inr (.inr (va_up f j.toNatClampNeg (some v))))))), nc, ns))
                  | false => none
                | _ => none
              | _, _, _ => none
            | _, _ => none
          | _ => none
        | .ireturn => match st, px_rt M, decide (nc ≤ (px_rm M).cells), decide (ns ≤ (px_rm M).slots) with
          | [.int v], some ty, true, true => match px_zr ty v with
            | true => some (.inr (some (.int v), hp))
            | false => none
          | _, _, _, _ => none
        | .lreturn => match st, px_rt M, decide (nc ≤ (px_rm M).cells), decide (ns ≤ (px_rm M).slots) with
          | [.long v], some .long, true, true => some (.inr (some (.long v), hp))
          | _, _, _, _ => none
        | .return_ => match st, px_rt M, decide (nc ≤ (px_rm M).cells), decide (ns ≤ (px_rm M).slots) with
          | [], none, true, true => some (.inr (none, hp))
          | _, _, _, _ => none
        | _ => none
def px_run (T : px_T) (X : Option (Nat × (Nat → Int32))) (P : List px_M) (call : Nat → List Value → px_H → Option px_A) (M : px_M) (N0 : Nat) : Nat → px_S → Option px_A
  | 0, _ => none
  | n + 1, s => match px_step T X P call M N0 s with
    | none => none
    | some (.inl s') => px_run T X P call M N0 n s'
    | some (.inr r) => some r
/-- a call; 'Spc' tells what the methods do that are proved otherwise -/
def px_call (T : px_T) (P : List px_M) (Spc : Nat → List Value → px_H → Option px_A) : Nat → Nat → List Value → px_H → Option px_A
  | 0, _, _, _ => none
  | n + 1, mi, av, hp => match Spc mi av hp with
    | some r => some r
    | none => match P[mi]? with
      | none => none
      | some M => match decide ((lg_sl av).length ≤ px_ml M) with
        | false => none
        | true => px_run T none P (px_call T P Spc n) M hp.length n (0, lv_args 0 av, [], hp, 0, 0)
end mg_0

section mg_1
/-! the pure world and the machine's: cell k lies at base + k, the script at b -/
def px_tr (base b : Nat) : Value → Value
  | .ref k => .ref (base + k)
  | .retAddr _ => .ref b
  | v => v
def px_trA (base : Nat) : vp_A → vp_A
  | (n, .inr (.inr (.inr (.inr f)))) => (n, .inr (.inr (.inr (.inr (fun j => (f j).map (fun q => base + q))))))
  | a => a
def px_trE (base b : Nat) (dA : Nat → ClassId) : px_E → va_E
  | .inl q => .inl (dA q.1, px_trA base q.2)
  | .inr q => .inr (q.1, q.2.map (px_tr base b))
def px_trH (base b : Nat) (dA : Nat → ClassId) (hp : px_H) : va_W := hp.mapIdx (fun k x => (base + k, px_trE base b dA x))
theorem px_cat (base b : Nat) (v : Value) : (px_tr base b v).category = v.category := by cases v <;> rfl
theorem px_trH_get {base b : Nat} {dA : Nat → ClassId} {hp : px_H} {k : Nat} {x : px_E} (h : hp[k]? = some x) : (px_trH base b dA hp)[k]? = some (base + k, px_trE base b dA x) := by
  simp [px_trH, List.getElem?_mapIdx, h]
theorem px_trH_set (base b : Nat) (dA : Nat → ClassId) (hp : px_H) (k : Nat) (x : px_E) : (px_trH base b dA hp).set k (base + k, px_trE base b dA x) = px_trH base b dA (hp.set k x) := by
  simp [px_trH, List.mapIdx_set]
theorem px_trH_push (base b : Nat) (dA : Nat → ClassId) (hp : px_H) (x : px_E) : px_trH base b dA (hp ++ [x]) = px_trH base b dA hp ++ [(base + hp.length, px_trE base b dA x)] := by
  simp [px_trH, List.mapIdx_append]
theorem px_trH_D (base b : Nat) (dA : Nat → ClassId) (hp : px_H) : va_D (fun q => base ≤ q) (px_trH base b dA hp) := by
  refine ⟨fun i j p q hi hj h => ?_, fun k q hk => ?_⟩
  · simp only [px_trH, List.getElem?_mapIdx, Option.map_eq_some_iff] at hi hj
    obtain ⟨x, -, rfl⟩ := hi
    obtain ⟨y, -, rfl⟩ := hj
    simp only at h
    omega
  · simp only [px_trH, List.getElem?_mapIdx, Option.map_eq_some_iff] at hk
    obtain ⟨x, -, rfl⟩ := hk
    simp only
    omega
theorem px_find_mem {α : Type} {k : Nat} {l : List (Nat × α)} {v : α} (h : px_find k l = some v) : (k, v) ∈ l := by
  induction l with
  | nil => cases h
  | cons q r ih =>
    unfold px_find at h
    split at h
    · rename_i hq
      cases h
      have := Nat.eq_of_beq_eq_true hq
      subst this
      exact List.mem_cons_self
    · exact List.mem_cons_of_mem _ (ih h)
abbrev px_trL (base b : Nat) (lv : List (Nat × Value)) : List (Nat × Value) := lv.map (fun q => (q.1, px_tr base b q.2))
theorem px_trL_find {base b j : Nat} {lv : List (Nat × Value)} {v : Value} {ls : Array Slot} {nL : Nat} (hl : lv_has ls nL (px_trL base b lv)) (h : px_find j lv = some v) : ls[j]? = some (.val (px_tr base b v)) :=
  hl.2.2 (j, px_tr base b v) (List.mem_map.mpr ⟨(j, v), px_find_mem h, rfl⟩)
theorem px_trL_mem {base b j : Nat} {lv : List (Nat × Value)} {v : Value} (h : px_find j lv = some v) : ∃ k : Nat, (px_trL base b lv)[k]? = some (j, px_tr base b v) :=
  List.getElem?_of_mem (List.mem_map.mpr ⟨(j, v), px_find_mem h, rfl⟩)
theorem px_trL_st1 (base b : Nat) (lv : List (Nat × Value)) (j : Nat) (v : Value) : (j, px_tr base b v) :: (px_trL base b lv).filter (fun q => !(q.1 == j) && !(q.1 + 1 == j && q.2.category == 2)) = px_trL base b (px_st1 lv j v) := by
  simp [px_trL, px_st1, List.filter_map, Function.comp_def, px_cat]
theorem px_trL_st2 (base b : Nat) (lv : List (Nat × Value)) (j : Nat) (v : Value) : (j, px_tr base b v) :: (px_trL base b lv).filter (fun q => !(q.1 == j) && (!(q.1 == j + 1) && !(q.1 + 1 == j && q.2.category == 2))) = px_trL base b (px_st2 lv j v) := by
  simp [px_trL, px_st2, List.filter_map, Function.comp_def, px_cat]
theorem px_lv_args (base b : Nat) : ∀ (vs : List Value) (i : Nat), lv_args i (vs.map (px_tr base b)) = px_trL base b (lv_args i vs) := by
  intro vs
  induction vs with
  | nil => intro i; rfl
  | cons v vs ih =>
    intro i
    simp only [List.map_cons, lv_args, px_cat, px_trL] at ih ⊢
    rw [ih]
theorem px_lg_sl (base b : Nat) (vs : List Value) : (lg_sl (vs.map (px_tr base b))).length = (lg_sl vs).length := by
  induction vs with
  | nil => rfl
  | cons v vs ih =>
    simp only [lg_sl, List.map_cons, List.flatMap_cons, List.length_append, px_cat] at ih ⊢
    rw [ih]
    split <;> simp
/-- the length of an instruction -/
def px_len (i : Instr) : Nat :=
  match i with
  | .bipush _ => 2
  | .sipush _ => 3
  | .iload _ => 2
  | .lload _ => 2
  | .aload _ => 2
  | .istore _ => 2
  | .lstore _ => 2
  | .astore _ => 2
  | .iinc _ _ => 3
  | .ifCond _ _ => 3
  | .if_icmp _ _ => 3
  | .goto _ => 3
  | .ldc _ => 2
  | .ldc_w _ => 3
  | .ldc2_w _ => 3
  | .getfield _ => 3
  | .putfield _ => 3
  | .invokevirtual _ => 3
  | .invokestatic _ => 3
  | .invokespecial _ => 3
  | .new _ => 3
  | .newarray _ => 2
  | .anewarray _ => 3
  | _ => 1
section px_s1
variable {p : Program} {l : Launch} {e : Env} {R : Room} {s : State} {m : MethodId} {args : Array Value} {below : List Frame} {meth : Method} {c : Code} {H : Heap} {locs : List Loc} {cells slots : Nat} {Q : State → Prop}
variable {cc : ByteArray} {pc len : Nat} {ls : Array Slot} {base b : Nat}
theorem px_ii_some {f : Int32 → Int32 → Int32} {st st' : List Value} (h : px_ii f st = some st') : ∃ x y r, st = .int y :: .int x :: r ∧ st' = .int (f x y) :: r := by
  unfold px_ii at h
  split at h
  · cases h; exact ⟨_, _, _, rfl, rfl⟩
  · cases h
theorem px_iiz_some {f : Int32 → Int32 → Int32} {st st' : List Value} (h : px_iiz f st = some st') : ∃ x y r, st = .int y :: .int x :: r ∧ st' = .int (f x y) :: r ∧ ¬ y = 0 := by
  unfold px_iiz at h
  split at h
  · split at h
    · cases h
    · cases h; exact ⟨_, _, _, rfl, rfl, by assumption⟩
  · cases h
theorem px_ll_some {f : Int64 → Int64 → Int64} {st st' : List Value} (h : px_ll f st = some st') : ∃ x y r, st = .long y :: .long x :: r ∧ st' = .long (f x y) :: r := by
  unfold px_ll at h
  split at h
  · cases h; exact ⟨_, _, _, rfl, rfl⟩
  · cases h
theorem px_llz_some {f : Int64 → Int64 → Int64} {st st' : List Value} (h : px_llz f st = some st') : ∃ x y r, st = .long y :: .long x :: r ∧ st' = .long (f x y) :: r ∧ ¬ y = 0 := by
  unfold px_llz at h
  split at h
  · split at h
    · cases h
    · cases h; exact ⟨_, _, _, rfl, rfl, by assumption⟩
  · cases h
theorem px_li_some {f : Int64 → Int32 → Int64} {st st' : List Value} (h : px_li f st = some st') : ∃ x y r, st = .int y :: .long x :: r ∧ st' = .long (f x y) :: r := by
  unfold px_li at h
  split at h
  · cases h; exact ⟨_, _, _, rfl, rfl⟩
  · cases h
theorem px_i1_some {f : Int32 → Value} {st st' : List Value} (h : px_i1 f st = some st') : ∃ x r, st = .int x :: r ∧ st' = f x :: r := by
  unfold px_i1 at h
  split at h
  · cases h; exact ⟨_, _, rfl, rfl⟩
  · cases h
theorem px_l1_some {f : Int64 → Value} {st st' : List Value} (h : px_l1 f st = some st') : ∃ x r, st = .long x :: r ∧ st' = f x :: r := by
  unfold px_l1 at h
  split at h
  · cases h; exact ⟨_, _, rfl, rfl⟩
  · cases h
theorem px_lc_some {st st' : List Value} (h : px_lc st = some st') : ∃ x y r, st = .long y :: .long x :: r ∧ st' = .int (lg_cmp x y) :: r := by
  unfold px_lc at h
  split at h
  · cases h; exact ⟨_, _, _, rfl, rfl⟩
  · cases h
set_option maxHeartbeats 4000000 in
theorem px_alu_sim (hx : p.tables.exec = Jvm.exec) (hb : c.code = cc) {i : Instr} (hd : decode cc pc = .ok (i, len)) (hlen : len = px_len i) {st st' : List Value} (ha : px_alu i st = some st')
    (k : W p l e R s m args below meth c H locs cells slots Q (F0 m (pc + len) ls (st'.map (px_tr base b)))) : W p l e R s m args below meth c H locs cells slots Q (F0 m pc ls (st.map (px_tr base b))) := by
  subst hlen
  cases i
  case iconst n => cases ha; exact lv_iconst hx hb hd rfl k
  case bipush n => cases ha; exact lv_bipush hx hb hd rfl k
  case sipush n => cases ha; exact lv_sipush hx hb hd rfl k
  case lconst n => cases ha; exact lv_lconst hx hb hd rfl k
  case iadd => obtain ⟨x, y, r, rfl, rfl⟩ := px_ii_some ha; exact lv_iadd hx hb hd k
  case isub => obtain ⟨x, y, r, rfl, rfl⟩ := px_ii_some ha; exact lv_isub hx hb hd k
  case imul => obtain ⟨x, y, r, rfl, rfl⟩ := px_ii_some ha; exact lv_imul hx hb hd k
  case iand => obtain ⟨x, y, r, rfl, rfl⟩ := px_ii_some ha; exact lv_iand hx hb hd k
  case ior => obtain ⟨x, y, r, rfl, rfl⟩ := px_ii_some ha; exact lv_ior hx hb hd k
  case ixor => obtain ⟨x, y, r, rfl, rfl⟩ := px_ii_some ha; exact lv_ixor hx hb hd k
  case ishl => obtain ⟨x, y, r, rfl, rfl⟩ := px_ii_some ha; exact lv_ishl hx hb hd k
  case ishr => obtain ⟨x, y, r, rfl, rfl⟩ := px_ii_some ha; exact lv_ishr hx hb hd k
  case iushr => obtain ⟨x, y, r, rfl, rfl⟩ := px_ii_some ha; exact lv_iushr hx hb hd rfl k
  case idiv => obtain ⟨x, y, r, rfl, rfl, hy⟩ := px_iiz_some ha; exact lv_idiv hx hb hd hy k
  case irem => obtain ⟨x, y, r, rfl, rfl, hy⟩ := px_iiz_some ha; exact lv_irem hx hb hd hy k
  case ladd => obtain ⟨x, y, r, rfl, rfl⟩ := px_ll_some ha; exact lv_ladd hx hb hd k
  case lsub => obtain ⟨x, y, r, rfl, rfl⟩ := px_ll_some ha; exact lv_lsub hx hb hd k
  case lmul => obtain ⟨x, y, r, rfl, rfl⟩ := px_ll_some ha; exact lv_lmul hx hb hd k
  case land => obtain ⟨x, y, r, rfl, rfl⟩ := px_ll_some ha; exact lv_land hx hb hd k
  case lor => obtain ⟨x, y, r, rfl, rfl⟩ := px_ll_some ha; exact lv_lor hx hb hd k
  case lxor => obtain ⟨x, y, r, rfl, rfl⟩ := px_ll_some ha; exact lv_lxor hx hb hd k
  case ldiv => obtain ⟨x, y, r, rfl, rfl, hy⟩ := px_llz_some ha; exact lv_ldiv hx hb hd hy k
  case lshl => obtain ⟨x, y, r, rfl, rfl⟩ := px_li_some ha; exact lv_lshl hx hb hd rfl k
  case lshr => obtain ⟨x, y, r, rfl, rfl⟩ := px_li_some ha; exact lv_lshr hx hb hd rfl k
  case lushr => obtain ⟨x, y, r, rfl, rfl⟩ := px_li_some ha; exact lv_lushr hx hb hd rfl k
  case ineg => obtain ⟨x, r, rfl, rfl⟩ := px_i1_some ha; exact lv_ineg hx hb hd k
  case i2l => obtain ⟨x, r, rfl, rfl⟩ := px_i1_some ha; exact lv_i2l hx hb hd rfl k
  case i2b => obtain ⟨x, r, rfl, rfl⟩ := px_i1_some ha; exact lv_i2b hx hb hd rfl k
  case i2s => obtain ⟨x, r, rfl, rfl⟩ := px_i1_some ha; exact lv_i2s hx hb hd rfl k
  case l2i => obtain ⟨x, r, rfl, rfl⟩ := px_l1_some ha; exact lv_l2i hx hb hd rfl k
  case lcmp => obtain ⟨x, y, r, rfl, rfl⟩ := px_lc_some ha; exact W.lcmp hx hb hd k
  case dup =>
    simp only [px_alu, px_dup] at ha
    split at ha
    · split at ha
      · cases ha
        exact lv_dup hx hb hd (by rw [px_cat]; assumption) k
      · cases ha
    · cases ha
  case dup_x1 =>
    simp only [px_alu, px_dup_x1] at ha
    split at ha
    · split at ha
      · rename_i h
        cases ha
        exact lv_dup_x1 hx hb hd (by rw [px_cat]; exact h.1) (by rw [px_cat]; exact h.2) k
      · cases ha
    · cases ha
  case dup_x2 =>
    simp only [px_alu, px_dup_x2] at ha
    split at ha
    · split at ha
      · rename_i h
        cases ha
        exact lv_dup_x2 hx hb hd (by rw [px_cat]; exact h.1) (by rw [px_cat]; exact h.2.1) (by rw [px_cat]; exact h.2.2) k
      · cases ha
    · cases ha
  case dup2 =>
    simp only [px_alu, px_dup2] at ha
    split at ha
    · cases ha
    · split at ha
      · cases ha
        exact lv_dup2_2 hx hb hd (by rw [px_cat]; assumption) k
      · split at ha
        · cases ha
        · split at ha
          · rename_i h
            cases ha
            exact lv_dup2_11 hx hb hd (by rw [px_cat]; exact h.1) (by rw [px_cat]; exact h.2) k
          · cases ha
  case dup2_x1 =>
    simp only [px_alu, px_dup2_x1] at ha
    split at ha
    · split at ha
      · rename_i h
        cases ha
        exact lv_dup2_x1_2 hx hb hd (by rw [px_cat]; exact h.1) (by rw [px_cat]; exact h.2) k
      · cases ha
    · cases ha
  case dup2_x2 =>
    simp only [px_alu, px_dup2_x2] at ha
    split at ha
    · split at ha
      · rename_i h
        cases ha
        exact lv_dup2_x2_2 hx hb hd (by rw [px_cat]; exact h.1) (by rw [px_cat]; exact h.2.1) (by rw [px_cat]; exact h.2.2) k
      · cases ha
    · cases ha
  case pop =>
    simp only [px_alu, px_pop] at ha
    split at ha
    · split at ha
      · cases ha
        exact lv_pop hx hb hd (by rw [px_cat]; assumption) k
      · cases ha
    · cases ha
  case pop2 =>
    simp only [px_alu, px_pop2] at ha
    split at ha
    · split at ha
      · cases ha
        exact lv_pop2_2 hx hb hd (by rw [px_cat]; assumption) k
      · cases ha
    · cases ha
  all_goals cases ha
end px_s1
end mg_1

section mg_2
/-! the static checks -/
def px_okI (pc len : Nat) (i : Instr) : Bool :=
  match i with
  | .ifCond _ off => decide (len = 3) && decide (0 ≤ (pc : Int) + off)
  | .if_icmp _ off => decide (len = 3) && decide (0 ≤ (pc : Int) + off)
  | .goto off => decide (len = 3) && decide (0 ≤ (pc : Int) + off)
  | .tableswitch dflt _ _ offs => decide (0 ≤ (pc : Int) + dflt) && offs.toList.all (fun off => decide (0 ≤ (pc : Int) + off))
  | .lookupswitch dflt ps => (ps.toList.zip (ps.toList.drop 1)).all (fun q => decide (q.1.1 < q.2.1)) && decide (0 ≤ (pc : Int) + dflt) && ps.toList.all (fun q => decide (0 ≤ (pc : Int) + q.2))
  | i => decide (len = px_len i)
def px_okC (M : px_M) : Bool := (px_cd M).all fun q => decide (decode (px_by M) q.1 = .ok (q.2.2, q.2.1)) && px_okI q.1 q.2.1 q.2.2
/-- a word by its code -/
abbrev px_Cw : Type := Nat × List Nat × Int
def px_mn (w : Nat) : MethodName :=
  match w with
  | 0 => Lib.Math.max.name
  | 1 => Lib.Math.min.name
  | 2 => Lib.MathLoose.max_long.x
  | _ => Lib.MathLoose.min_long.x
def px_w (ow : List String) (cl : List vw_C) (T : px_T) (P : List px_M) (host : String) (q : px_Cw) : Cond :=
  match q with
  | (0, [o, idx, ci, k], _) => match cl[ci]? with
    | some (_, F, _) => .fieldLink (ow.getD o "") idx (F k).1 (F k).2.1 (F k).2.2.1
    | none => .tt
  | (1, [o, idx, mi], _) => match P[mi]? with
    | some N => .methodLink (ow.getD o "") idx (px_nm N)
    | none => .tt
  | (2, [mi], _) => match P[mi]? with
    | some N => .code (px_nm N) (px_by N) (px_ml N) (px_rt N)
    | none => .tt
  | (3, [mi], _) => match P[mi]? with
    | some N => .instanceMethod (px_nm N)
    | none => .tt
  | (4, [mi], _) => match P[mi]? with
    | some N => .static (px_nm N)
    | none => .tt
  | (5, [mi], _) => match P[mi]? with
    | some N => .selects (px_nm N).cls (px_nm N) (px_nm N)
    | none => .tt
  | (6, [mi], _) => match P[mi]? with
    | some N => .initialized (px_nm N).cls
    | none => .tt
  | (7, [o, idx], v) => .constant (ow.getD o "") idx (Int32.ofInt v)
  | (8, [o, idx], v) => .constantLong (ow.getD o "") idx (Int64.ofInt v)
  | (9, [o, idx, ci], _) => match cl[ci]? with
    | some (C, _, _) => .classLink (ow.getD o "") idx C
    | none => .tt
  | (10, [ci], _) => match cl[ci]? with
    | some (C, _, N) => .instantiable C N
    | none => .tt
  | (11, [ci], _) => match cl[ci]? with
    | some (C, _, _) => .initialized C
    | none => .tt
  | (12, [t], _) => match T.1[t]? with
    | some ty => .arrayClass ty
    | none => .tt
  | (13, [o, idx], _) => .methodLink (ow.getD o "") idx objectInit
  | (14, [], _) => .instanceMethod objectInit
  | (15, [], _) => .code objectInit ⟨#[0xb1]⟩ 1 none
  | (16, [ci, k], _) => match cl[ci]? with
    | some (C, F, _) => u_lay C F k
    | none => .tt
  | (17, [o, idx, t], _) => match T.1[t]? with
    | some (.object C) => .classLink (ow.getD o "") idx C
    | _ => .tt
  | (22, [o, idx, w], _) => .methodLink (ow.getD o "") idx (px_mn w)
  | (23, [w], _) => .static (px_mn w)
  | (24, [0], _) => .code Lib.Math.max.name Lib.Math.max.code 2 (some .int)
  | (24, [1], _) => .code Lib.Math.min.name Lib.Math.min.code 2 (some .int)
  | (24, [2], _) => .code Lib.MathLoose.max_long.x Lib.MathLoose.max_long.code 4 (some .long)
  | (24, [3], _) => .code Lib.MathLoose.min_long.x Lib.MathLoose.min_long.code 4 (some .long)
  | (25, [], _) => .initialized "java/lang/Math"
  | (20, [o, idx, mi], _) => match P[mi]? with
    | some N => .methodLinkNest (ow.getD o "") idx (px_nm N) host
    | none => .tt
  | (21, [t], _) => match T.1[t]? with
    | some ty => .arrayOver ty
    | none => .tt
  | _ => .tt
/-- of each method: its kind (0 static, 1 instance, 2 constructor), its arguments, its class's number -/
def px_Mf (cl : List vw_C) (P : List px_M) (mf : List (Nat × Nat × Nat)) : Prop :=
  ∀ (mi : Nat) (N : px_M) (k n ci : Nat), P[mi]? = some N → mf[mi]? = some (k, n, ci) →
    ((px_nm N).cls ≠ "java/lang/invoke/MethodHandle" ∧ (px_nm N).cls ≠ "java/lang/invoke/VarHandle" ∧ (parseMethodDescriptor (px_nm N).desc).map (fun d => d.parameters.length) = some n) ∧
    (k = 1 → ∀ (C : String) (F : u_T) (N9 : Nat), cl[ci]? = some (C, F, N9) → C = (px_nm N).cls) ∧ (k = 2 → (px_nm N).name = "<init>" ∧ px_rt N = none ∧ ∀ (C : String) (F : u_T) (N9 : Nat), cl[ci]? = some (C, F, N9) → C = (px_nm N).cls)
/-- a callee's words and room, at this method -/
def px_okN (CW : List px_Cw) (mf : List (Nat × Nat × Nat)) (M N : px_M) (mi n k ci : Nat) : Bool :=
  match mf[mi]? with
  | some (k', n', ci') => Nat.beq k k' && Nat.beq n n' && (Nat.beq k 0 || Nat.beq ci ci') && decide (((2, [mi], 0) : px_Cw) ∈ CW) && decide (((6, [mi], 0) : px_Cw) ∈ CW)
    && decide ((px_rm N).frames + 1 ≤ (px_rm M).frames ∧ 8 + (px_ml N + 11) + (px_rm N).locals ≤ (px_rm M).locals)
  | none => false
def px_okR (cl : List vw_C) (T : px_T) (P : List px_M) (CW CE : List px_Cw) (mf : List (Nat × Nat × Nat)) (o kM cM : Nat) (M : px_M) (q : Nat × px_R) : Bool :=
  match q with
  | (idx, 0, ci, k, fl) => match cl[ci]? with
    | some (_, F, N) => decide (k < N) && decide (((0, [o, idx, ci, k], 0) : px_Cw) ∈ CW) && (decide (2 ≤ fl) || !(F k).2.2.2) && (!(decide (fl = 2)) || (Nat.beq kM 2 && Nat.beq cM ci))
    | none => false
  | (idx, 1, mi, n, ci) => match P[mi]? with
    | some N => px_okN CW mf M N mi n 1 ci.toNat && decide (((3, [mi], 0) : px_Cw) ∈ CW) && decide (((5, [mi], 0) : px_Cw) ∈ CW) && decide (((1, [o, idx, mi], 0) : px_Cw) ∈ CW)
    | none => false
  | (idx, 2, mi, n, _) => match P[mi]? with
    | some N => px_okN CW mf M N mi n 0 0 && decide (((4, [mi], 0) : px_Cw) ∈ CW) && (decide (((1, [o, idx, mi], 0) : px_Cw) ∈ CW) || decide (((20, [o, idx, mi], 0) : px_Cw) ∈ CE))
    | _ => false
  | (idx, 11, w, _, _) => decide (w < 4) && decide (((22, [o, idx, w], 0) : px_Cw) ∈ CW) && decide (((23, [w], 0) : px_Cw) ∈ CW) && decide (((24, [w], 0) : px_Cw) ∈ CW) && decide (((25, [], 0) : px_Cw) ∈ CW) && decide (1 ≤ (px_rm M).frames) && decide (23 ≤ (px_rm M).locals)
  | (idx, 3, _, _, v) => decide (((7, [o, idx], v) : px_Cw) ∈ CW)
  | (idx, 4, _, _, v) => decide (((8, [o, idx], v) : px_Cw) ∈ CW)
  | (idx, 5, ci, _, _) => decide (((9, [o, idx, ci], 0) : px_Cw) ∈ CW) && decide (((10, [ci], 0) : px_Cw) ∈ CW) && decide (((11, [ci], 0) : px_Cw) ∈ CW)
  | (_, 6, t, _, _) => match T.1[t]? with
    | some (.object _) => true
    | some _ => decide (((12, [t], 0) : px_Cw) ∈ CW)
    | none => false
  | (idx, 7, _, _, _) => decide (((13, [o, idx], 0) : px_Cw) ∈ CW) && decide (((14, [], 0) : px_Cw) ∈ CW) && decide (((15, [], 0) : px_Cw) ∈ CW) && decide (1 ≤ (px_rm M).frames) && decide (20 ≤ (px_rm M).locals)
  | (idx, 8, mi, n, v) => match P[mi]? with
    | some N => px_okN CW mf M N mi n 2 v.toNat && decide (((3, [mi], 0) : px_Cw) ∈ CW) && (decide (((1, [o, idx, mi], 0) : px_Cw) ∈ CW) || decide (((20, [o, idx, mi], 0) : px_Cw) ∈ CE))
    | _ => false
  | (idx, 9, t, _, _) => match T.1[t]? with
    | some (.object _) => decide (((17, [o, idx - 300000, t], 0) : px_Cw) ∈ CW) && decide (((21, [t], 0) : px_Cw) ∈ CE)
    | _ => false
  | (_, 10, ci, t, _) => match cl[ci]?, T.1[t]? with
    | some (C, _, _), some (.object C') => decide (C' = C)
    | _, _ => false
  | _ => false
def px_okM (cl : List vw_C) (T : px_T) (P : List px_M) (CW CE : List px_Cw) (mf : List (Nat × Nat × Nat)) (o kM cM : Nat) (M : px_M) : Bool := px_okC M && (px_cp M).all (px_okR cl T P CW CE mf o kM cM M)
/-- the classes: their field tables, types and words -/
def px_okK (cl : List vw_C) (T : px_T) (ALL : List Cond) : Prop :=
  ∀ (ci : Nat) (C : String) (F : u_T) (N : Nat), cl[ci]? = some (C, F, N) → ∃ tys : List FieldType, T.2[ci]? = some (N, tys) ∧ tys.length = N ∧ (∀ k, k < N → parseFieldDescriptor (F k).2.2.1 = some (tys.getD k .int)) ∧ (∀ a, a < N → ∀ b, b < N → a ≠ b → (F a).2.1 ≠ (F b).2.1) ∧ (∀ w ∈ u_ws C F N, w ∈ ALL) ∧ (∀ k, k < N → (F k).1 = C)
def px_tys (T : px_T) (dA : Nat → ClassId) : List (ClassId × FieldType) := T.1.mapIdx (fun t ty => (dA t, ty))
theorem px_tys_get {T : px_T} {dA : Nat → ClassId} {t : Nat} {ty : FieldType} (h : T.1[t]? = some ty) : (px_tys T dA)[t]? = some (dA t, ty) := by simp [px_tys, List.getElem?_mapIdx, h]
def px_ws (ALL : List Cond) (N : px_M) : List Cond := .code (px_nm N) (px_by N) (px_ml N) (px_rt N) :: ALL
def px_Rel (base b : Nat) (D : va_G) (cl : List vw_C) (dA : Nat → ClassId) (hp : px_H) (H : Heap) : Prop := va_P D cl (px_trH base b dA hp) H
/-- the words that warm otherwise than the tables' -/
def px_isX : Cond → Bool
  | .fieldLinkNest .. => true
  | .methodLinkNest .. => true
  | .arrayOver (.object _) => true
  | _ => false
def px_Ex (EXT : List Cond) (U : State) : Prop := ∀ w ∈ EXT, w.before #[] U = true
theorem px_Ex.moved {EXT : List Cond} (hE : ∀ w ∈ EXT, px_isX w = true) {s U : State} (hW : s.WarmedH U.vm) (h : px_Ex EXT s) : px_Ex EXT U := by
  intro w hw
  have h1 := h w hw
  have h2 := hE w hw
  unfold px_isX at h2
  split at h2
  · exact va_Nw.warmF hW h1
  · exact va_Nw.warmM hW h1
  · exact va_AO.moved hW.alike h1
  · cases h2
theorem px_Ex.same {EXT : List Cond} (hE : ∀ w ∈ EXT, px_isX w = true) {s U : State} (hvm : s.vm = U.vm) (h : px_Ex EXT s) : px_Ex EXT U := by
  intro w hw
  have h1 := h w hw
  have h2 := hE w hw
  unfold px_isX at h2
  split at h2
  · exact va_Nw.same rfl hvm h1
  · exact va_Nw.same rfl hvm h1
  · exact va_AO.moved (by rw [hvm]; exact Vm.Alike.refl U.vm) h1
  · cases h2
def px_Pc (EXT : List Cond) (base b : Nat) (D : va_G) (cl : List vw_C) (T : px_T) (dA : Nat → ClassId) (nc : Nat) (av : List Value) (hp : px_H) : Array Value → State → Prop := fun v U => v = (av.map (px_tr base b)).toArray ∧ px_Rel base b D cl dA hp U.heap ∧ va_K D cl (px_tys T dA) U ∧ px_Ex EXT U ∧ base ≤ U.heap.size ∧ (nc ≠ 0 → U.heap.size = base + hp.length)
def px_Qc (base b : Nat) (D : va_G) (cl : List vw_C) (dA : Nat → ClassId) (r : Option Value) (hp' : px_H) : Array Value → State → Outcome → State → Prop := fun _ st o t => o = .returned (r.map (px_tr base b)) ∧ px_Rel base b D cl dA hp' t.heap ∧ va_F (fun q => base ≤ q) st t
def px_Met (l : Launch) (base b : Nat) (D : va_G) (cl : List vw_C) (T : px_T) (dA : Nat → ClassId) (ALL EXT : List Cond) (N : px_M) (av : List Value) (hp : px_H) (r : Option Value) (hp' : px_H) : Prop :=
  Met l (px_nm N) (px_ws ALL N) (px_rm N) (px_Pc EXT base b D cl T dA (px_rm N).cells av hp) (px_Qc base b D cl dA r hp') (px_rm N).cells (px_rm N).slots (fun q => base ≤ q)
theorem px_blind {EXT : List Cond} (hEx : ∀ w ∈ EXT, px_isX w = true) (base b : Nat) (D : va_G) (cl : List vw_C) (T : px_T) (dA : Nat → ClassId) (nc : Nat) (av : List Value) (hp : px_H) : FrameBlind (px_Pc EXT base b D cl T dA nc av hp) := by
  intro a U g mk q
  obtain ⟨q0, q1, q2, q3, q4, q5⟩ := q
  exact ⟨q0, q1, va_K.moved (u := U) (U := U.calling g mk a) (Vm.Alike.refl U.vm) q2, px_Ex.same hEx (s := U) (U := U.calling g mk a) rfl q3, q4, q5⟩
section px_s2
variable {p : Program} {l : Launch} {e : Env} {R : Room} {s : State} {m : MethodId} {args : Array Value} {below : List Frame} {meth : Method} {c : Code} {H : Heap} {locs : List Loc} {cells slots : Nat} {Q : State → Prop}
variable {pc mc ms : Nat} {ls : Array Slot} {A : Nat → Prop} {H0 : Heap}
theorem px_W_size {g : JFrame} (h : H.size ≤ s.heap.size + cells → W p l e R s m args below meth c H locs cells slots Q g) : W p l e R s m args below meth c H locs cells slots Q g := fun T hT X => h (by rw [← hT]; exact X.heapSize) T hT X
theorem px_W_call {st0 rest : List Value} {Qa : State → Outcome → State → Prop} (hr : va_Run p l e R s m args below meth c H locs cells slots mc ms (F0 m pc ls st0) rest Qa A) (hS : va_S A H0 H locs)
    (hF : ∀ st o t, st.heap = H → Qa st o t → va_F A st t)
    (kk : ∀ (v : Option Value) (st t : State) (locs1 : List Loc), st.heap = H → Qa st (.returned v) t → va_S A H0 t.heap locs1 → W p l e R s m args below meth c t.heap locs1 (cells + mc) (slots + ms) Q (F0 m (pc + 3) ls (v.toList ++ rest))) : W p l e R s m args below meth c H locs cells slots Q (F0 m pc ls st0) := by
  intro T hT X
  obtain ⟨v, st₀, t, T', L, h0, X', hL, e1, e2, hQ, st⟩ := hr T hT X
  have hf := hF _ _ _ h0 hQ
  obtain ⟨hz, hk⟩ := hf
  rw [h0] at hz hk
  obtain ⟨t2, a1, b1⟩ := kk v st₀ t (locs ++ L) h0 hQ
    ⟨Nat.le_trans hS.1 hz, fun q h1 h2 => by rw [hk q (Nat.lt_of_lt_of_le h1 hS.1) h2]; exact hS.2.1 q h1 h2, fun q hq => by
      rcases List.mem_append.mp hq with h | h
      · exact hS.2.2 q h
      · exact hL q h⟩ T' e1 X'
  exact ⟨t2, st t2 a1, b1⟩
end px_s2
theorem px_split {st : List Value} {n : Nat} {v : Value} (h : st[n]? = some v) : st = st.take n ++ v :: st.drop (n + 1) := by
  obtain ⟨hlt, rfl⟩ := List.getElem?_eq_some_iff.mp h
  rw [← List.drop_eq_getElem_cons hlt, List.take_append_drop]
theorem px_args {st : List Value} {n a base b : Nat} (h : st[n]? = some (.ref a)) : (st.take (n + 1)).reverse.map (px_tr base b) = Value.ref (base + a) :: ((st.take n).reverse.map (px_tr base b)) := by
  rw [List.take_add_one, h]
  simp [px_tr]
theorem px_stack {st : List Value} {n a base b : Nat} (h : st[n]? = some (.ref a)) : st.map (px_tr base b) = ((st.take n).reverse.map (px_tr base b)).reverse ++ Value.ref (base + a) :: ((st.drop (n + 1)).map (px_tr base b)) := by
  conv => lhs; rw [px_split h]
  simp [px_tr]
theorem px_stackS {st : List Value} {n base b : Nat} : st.map (px_tr base b) = ((st.take n).reverse.map (px_tr base b)).reverse ++ ((st.drop n).map (px_tr base b)) := by
  conv => lhs; rw [← List.take_append_drop n st]
  simp
theorem px_len_take {st : List Value} {n base b : Nat} {v : Value} (h : st[n]? = some v) : ((st.take n).reverse.map (px_tr base b)).length = n := by
  have := (List.getElem?_eq_some_iff.mp h).1
  simp
  omega
theorem px_goodIn {ALL Ts : List Cond} {N : px_M} (hall : ∀ w ∈ ALL, w ∈ Ts) (hgood : ∀ w ∈ ALL, (w.onTables && w.keeps) = true ∨ ∃ ty, w = .arrayClass ty) (hc : Cond.code (px_nm N) (px_by N) (px_ml N) (px_rt N) ∈ ALL) : GoodIn Ts (px_ws ALL N) := by
  intro w hw
  rcases List.mem_cons.mp hw with rfl | h
  · exact ⟨hall _ hc, hgood _ hc⟩
  · exact ⟨hall _ h, hgood _ h⟩
theorem px_low {base b : Nat} {D : va_G} {cl : List vw_C} {dA : Nat → ClassId} {hp : px_H} {H : Heap} (hR : px_Rel base b D cl dA hp H) (hb : base ≤ H.size) : base + hp.length ≤ H.size := by
  rcases Nat.eq_zero_or_pos hp.length with h | h
  · omega
  · obtain ⟨x, hx⟩ : ∃ x, hp[hp.length - 1]? = some x := ⟨_, List.getElem?_eq_getElem (by omega)⟩
    have := (hR _ _ (px_trH_get hx)).lt
    simp only at this
    omega
theorem px_exact {base b : Nat} {D : va_G} {cl : List vw_C} {dA : Nat → ClassId} {hp : px_H} {H : Heap} {N0 nc : Nat} (hR : px_Rel base b D cl dA hp H) (hb : base ≤ H.size) (h : hp.length = N0 + nc) (hle : H.size ≤ base + N0 + nc) : H.size = base + hp.length := by
  have := px_low hR hb
  omega
theorem px_room {m : MethodId} {pc : Nat} {ls : Array Slot} {st0 rest : List Value} {base b : Nat} (h : (rest.map fun v => v.category).sum ≤ 8) : 2 * (F0 m pc ls st0).monitorRoom + ((rest.map (px_tr base b)).map fun v => v.category).sum ≤ 8 := by
  have e : (rest.map (px_tr base b)).map (fun v => v.category) = rest.map (fun v => v.category) := by
    rw [List.map_map]
    exact List.map_congr_left (fun v _ => px_cat base b v)
  rw [e]
  exact lv_room h
theorem px_ret (base b : Nat) (r : Option Value) (st : List Value) : (r.map (px_tr base b)).toList ++ st.map (px_tr base b) = (r.toList ++ st).map (px_tr base b) := by
  cases r <;> rfl
end mg_2
