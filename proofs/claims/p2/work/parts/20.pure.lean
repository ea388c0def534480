/-! THE PURE MACHINE: what the bytecode does, as a function on a pure state. References are numbers of cells; '.retAddr' stands for the law's script. -/
/-- a cell: an array (its role's number, its length and contents) or an object (its class's number, its fields) -/
abbrev px_E : Type := (Nat × vp_A) ⊕ (Nat × List Value)
abbrev px_H : Type := List px_E
/-- what a place of the pool stands for: tag, two numbers, a constant -/
abbrev px_R : Type := Nat × Nat × Nat × Int
/-- a method: its name, bytes, locals, answer; its room; its class's number; its code, its pool -/
abbrev px_M : Type := MethodName × ByteArray × Nat × Option FieldType × Room × List (Nat × Nat × Instr) × List (Nat × px_R)
abbrev px_nm (M : px_M) : MethodName := M.1
abbrev px_by (M : px_M) : ByteArray := M.2.1
abbrev px_ml (M : px_M) : Nat := M.2.2.1
abbrev px_rt (M : px_M) : Option FieldType := M.2.2.2.1
abbrev px_rm (M : px_M) : Room := M.2.2.2.2.1
abbrev px_cd (M : px_M) : List (Nat × Nat × Instr) := M.2.2.2.2.2.1
abbrev px_cp (M : px_M) : List (Nat × px_R) := M.2.2.2.2.2.2
/-- a state in a method: pc, locals, stack, heap, cells and slots made so far -/
abbrev px_S : Type := Nat × List (Nat × Value) × List Value × px_H × Nat × Nat
abbrev px_A : Type := Option Value × px_H
def px_find {α : Type} (k : Nat) : List (Nat × α) → Option α
  | [] => none
  | q :: r => match Nat.beq q.1 k with
    | true => some q.2
    | false => px_find k r
def px_ii (f : Int32 → Int32 → Int32) : List Value → Option (List Value)
  | .int y :: .int x :: r => some (.int (f x y) :: r)
  | _ => none
def px_iiz (f : Int32 → Int32 → Int32) : List Value → Option (List Value)
  | .int y :: .int x :: r => if y = 0 then none else some (.int (f x y) :: r)
  | _ => none
def px_ll (f : Int64 → Int64 → Int64) : List Value → Option (List Value)
  | .long y :: .long x :: r => some (.long (f x y) :: r)
  | _ => none
def px_llz (f : Int64 → Int64 → Int64) : List Value → Option (List Value)
  | .long y :: .long x :: r => if y = 0 then none else some (.long (f x y) :: r)
  | _ => none
def px_li (f : Int64 → Int32 → Int64) : List Value → Option (List Value)
  | .int y :: .long x :: r => some (.long (f x y) :: r)
  | _ => none
def px_i1 (f : Int32 → Value) : List Value → Option (List Value)
  | .int x :: r => some (f x :: r)
  | _ => none
def px_l1 (f : Int64 → Value) : List Value → Option (List Value)
  | .long x :: r => some (f x :: r)
  | _ => none
def px_lc : List Value → Option (List Value)
  | .long y :: .long x :: r => some (.int (lg_cmp x y) :: r)
  | _ => none
def px_dup : List Value → Option (List Value)
  | a :: r => if a.category = 1 then some (a :: a :: r) else none
  | _ => none
def px_dup_x1 : List Value → Option (List Value)
  | a :: b :: r => if a.category = 1 ∧ b.category = 1 then some (a :: b :: a :: r) else none
  | _ => none
def px_dup_x2 : List Value → Option (List Value)
  | a :: b :: d :: r => if a.category = 1 ∧ b.category = 1 ∧ d.category = 1 then some (a :: b :: d :: a :: r) else none
  | _ => none
def px_dup2 : List Value → Option (List Value)
  | [] => none
  | a :: r => if a.category = 2 then some (a :: a :: r) else match r with
    | [] => none
    | b :: r => if a.category = 1 ∧ b.category = 1 then some (a :: b :: a :: b :: r) else none
def px_dup2_x1 : List Value → Option (List Value)
  | a :: b :: r => if a.category = 2 ∧ b.category = 1 then some (a :: b :: a :: r) else none
  | _ => none
def px_dup2_x2 : List Value → Option (List Value)
  | a :: b :: d :: r => if a.category = 2 ∧ b.category = 1 ∧ d.category = 1 then some (a :: b :: d :: a :: r) else none
  | _ => none
def px_pop : List Value → Option (List Value)
  | a :: r => if a.category = 1 then some r else none
  | _ => none
def px_pop2 : List Value → Option (List Value)
  | a :: r => if a.category = 2 then some r else none
  | _ => none
/-- what touches the stack alone -/
def px_alu (i : Instr) (st : List Value) : Option (List Value) :=
  match i with
  | .iconst n => some (.int (Int32.ofInt n) :: st)
  | .bipush n => some (.int (Int8.ofInt n).toInt32 :: st)
  | .sipush n => some (.int (Int16.ofInt n).toInt32 :: st)
  | .lconst n => some (.long (Int64.ofNat (n : Nat)) :: st)
  | .iadd => px_ii (fun x y => x + y) st
  | .isub => px_ii (fun x y => x - y) st
  | .imul => px_ii (fun x y => x * y) st
  | .iand => px_ii (fun x y => x &&& y) st
  | .ior => px_ii (fun x y => x ||| y) st
  | .ixor => px_ii (fun x y => x ^^^ y) st
  | .ishl => px_ii (fun x y => x <<< (y &&& 31)) st
  | .ishr => px_ii (fun x y => x >>> (y &&& 31)) st
  | .iushr => px_ii (fun x y => (x.toUInt32 >>> (y.toUInt32 &&& Int32.toUInt32 31)).toInt32) st
  | .idiv => px_iiz (fun x y => x / y) st
  | .irem => px_iiz (fun x y => x - x / y * y) st
  | .ladd => px_ll (fun x y => x + y) st
  | .lsub => px_ll (fun x y => x - y) st
  | .lmul => px_ll (fun x y => x * y) st
  | .land => px_ll (fun x y => x &&& y) st
  | .lor => px_ll (fun x y => x ||| y) st
  | .lxor => px_ll (fun x y => x ^^^ y) st
  | .ldiv => px_llz (fun x y => x / y) st
  | .lshl => px_li (fun x y => x <<< (y.toInt64 &&& 63)) st
  | .lshr => px_li (fun x y => x >>> (y.toInt64 &&& 63)) st
  | .lushr => px_li (fun x y => (x.toUInt64 >>> (y.toInt64.toUInt64 &&& Int64.toUInt64 63)).toInt64) st
  | .ineg => px_i1 (fun x => .int (-x)) st
  | .i2l => px_i1 (fun x => .long x.toInt64) st
  | .i2b => px_i1 (fun x => .int x.toInt8.toInt32) st
  | .i2s => px_i1 (fun x => .int x.toInt16.toInt32) st
  | .l2i => px_l1 (fun x => .int x.toInt32) st
  | .lcmp => px_lc st
  | .dup => px_dup st
  | .dup_x1 => px_dup_x1 st
  | .dup_x2 => px_dup_x2 st
  | .dup2 => px_dup2 st
  | .dup2_x1 => px_dup2_x1 st
  | .dup2_x2 => px_dup2_x2 st
  | .pop => px_pop st
  | .pop2 => px_pop2 st
  | _ => none
/-- Math.max and min, of ints and of longs -/
def px_math (w : Nat) (st : List Value) : Option (List Value) :=
  match w, st with
  | 0, .int y :: .int x :: r => some (.int (if x < y then y else x) :: r)
  | 1, .int y :: .int x :: r => some (.int (if y < x then y else x) :: r)
  | 2, .long y :: .long x :: r => some (.long (if y < x then x else y) :: r)
  | 3, .long y :: .long x :: r => some (.long (if y < x then y else x) :: r)
  | _, _ => none
def px_st1 (lv : List (Nat × Value)) (i : Nat) (v : Value) : List (Nat × Value) := (i, v) :: lv.filter (fun q => !(q.1 == i) && !(q.1 + 1 == i && q.2.category == 2))
def px_st2 (lv : List (Nat × Value)) (i : Nat) (v : Value) : List (Nat × Value) := (i, v) :: lv.filter (fun q => !(q.1 == i) && (!(q.1 == i + 1) && !(q.1 + 1 == i && q.2.category == 2)))
def px_cmp (c : ClassFile.Cond) (x y : Int32) : Bool :=
  match c with
  | .eq => decide (x = y)
  | .ne => decide (¬ x = y)
  | .lt => decide (x < y)
  | .ge => decide (y ≤ x)
  | .gt => decide (y < x)
  | .le => decide (x ≤ y)
def px_tgt (pc : Nat) (off : Int) : Nat := ((pc : Int) + off).toNat
/-- the roles of arrays: the type of their elements; the classes: slots, types of the fields -/
abbrev px_T : Type := List FieldType × List (Nat × List FieldType)
def px_inR (i : Int32) (n : Nat) : Bool := decide (0 ≤ i.toInt) && decide (i.toInt < n)
def px_dflt (n : Nat) (ty : FieldType) : Option vp_A :=
  match ty with
  | .int => some (n, .inl (fun _ => 0))
  | .boolean => some (n, .inl (fun _ => 0))
  | .long => some (n, .inr (.inl (fun _ => 0)))
  | .object _ => some (n, .inr (.inr (.inr (.inr (fun _ => none)))))
  | _ => none
def px_zr (ty : FieldType) (v : Int32) : Bool :=
  match ty with
  | .int => true
  | .boolean => decide (v = 0) || decide (v = 1)
  | _ => false
def px_fits (ty : FieldType) (v : Value) : Bool :=
  match ty, v with
  | .int, .int _ => true
  | .long, .long _ => true
  | .object _, .ref _ => true
  | .array _, .ref _ => true
  | _, _ => false
/-- reading an element -/
def px_ald (T : px_T) (X : Option (Nat × (Nat → Int32))) (i : Instr) (hp : px_H) (a : Value) (j : Int32) : Option Value :=
  match a with
  | .retAddr _ => match i, X with
    | .iaload, some X => match px_inR j X.1 with
      | true => some (.int (X.2 j.toNatClampNeg))
      | false => none
    | _, _ => none
  | .ref k => match hp[k]? with
    | some (.inl (t, n, f)) => match px_inR j n with
      | false => none
      | true => match i, T.1[t]?, f with
        | .iaload, some .int, .inl f => some (.int (f j.toNatClampNeg))
        | .baload, some .boolean, .inl f => some (.int (f j.toNatClampNeg))
        | .laload, some .long, .inr (.inl f) => some (.long (f j.toNatClampNeg))
        | .aaload, some (.object _), .inr (.inr (.inr (.inr f))) => match f j.toNatClampNeg with
          | some q => some (.ref q)
          | none => none
        | _, _, _ => none
    | _ => none
  | _ => none
/-- writing an element: the new heap -/
def px_ast (T : px_T) (i : Instr) (hp : px_H) (k : Nat) (j : Int32) (v : Value) : Option px_H :=
  match hp[k]? with
  | some (.inl (t, n, f)) => match px_inR j n with
    | false => none
    | true => match i, T.1[t]?, f, v with
      | .iastore, some .int, .inl f, .int x => some (hp.set k (.inl (t, n, .inl (upd f j.toNatClampNeg x))))
      | .bastore, some .boolean, .inl f, .int x => match decide (x = 0) || decide (x = 1) with
        | true => some (hp.set k (.inl (t, n, .inl (upd f j.toNatClampNeg x))))
        | false => none
      | .lastore, some .long, .inr (.inl f), .long x => some (hp.set k (.inl (t, n, .inr (.inl (vp_updL f j.toNatClampNeg x)))))
      | _, _, _, _ => none
  | _ => none
/-- one step: a new state, or the method's end -/
def px_step (T : px_T) (X : Option (Nat × (Nat → Int32))) (P : List px_M) (call : Nat → List Value → px_H → Option px_A) (M : px_M) (N0 : Nat) (s : px_S) : Option (px_S ⊕ px_A) :=
  match s with
  | (pc, lv, st, hp, nc, ns) =>
    match px_find pc (px_cd M) with
    | none => none
    | some (len, i) =>
      match px_alu i st with
      | some st' => some (.inl (pc + len, lv, st', hp, nc, ns))
      | none =>
        let ldi (j : Nat) : Option (px_S ⊕ px_A) := match px_find j lv with
          | some (.int x) => some (.inl (pc + len, lv, .int x :: st, hp, nc, ns))
          | _ => none
        let ldl (j : Nat) : Option (px_S ⊕ px_A) := match px_find j lv with
          | some (.long x) => some (.inl (pc + len, lv, .long x :: st, hp, nc, ns))
          | _ => none
        let lda (j : Nat) : Option (px_S ⊕ px_A) := match px_find j lv with
          | some (.ref x) => some (.inl (pc + len, lv, .ref x :: st, hp, nc, ns))
          | some (.retAddr x) => some (.inl (pc + len, lv, .retAddr x :: st, hp, nc, ns))
          | _ => none
        let sti (j : Nat) : Option (px_S ⊕ px_A) := match st with
          | .int x :: r => match decide (j < px_ml M) with
            | true => some (.inl (pc + len, px_st1 lv j (.int x), r, hp, nc, ns))
            | false => none
          | _ => none
        let sta (j : Nat) : Option (px_S ⊕ px_A) := match st with
          | .ref x :: r => match decide (j < px_ml M) with
            | true => some (.inl (pc + len, px_st1 lv j (.ref x), r, hp, nc, ns))
            | false => none
          | _ => none
        let stl (j : Nat) : Option (px_S ⊕ px_A) := match st with
          | .long x :: r => match decide (j + 1 < px_ml M) with
            | true => some (.inl (pc + len, px_st2 lv j (.long x), r, hp, nc, ns))
            | false => none
          | _ => none
        let br (c : Bool) (off : Int) (r : List Value) : Option (px_S ⊕ px_A) := match c with
          | true => some (.inl (px_tgt pc off, lv, r, hp, nc, ns))
          | false => some (.inl (pc + 3, lv, r, hp, nc, ns))
        let inv (n mi : Nat) : Option (px_S ⊕ px_A) := match P[mi]? with
          | none => none
          | some N => match decide (n ≤ st.length), decide (((st.drop n).map fun v => v.category).sum ≤ 8), decide (nc + (px_rm N).cells ≤ (px_rm M).cells), decide (ns + (px_rm N).slots ≤ (px_rm M).slots), decide ((px_rm N).cells = 0 ∨ hp.length = N0 + nc) with
            | true, true, true, true, true => match call mi (st.take n).reverse hp with
              | none => none
              | some (r, hp') => some (.inl (pc + 3, lv, r.toList ++ st.drop n, hp', nc + (px_rm N).cells, ns + (px_rm N).slots))
            | _, _, _, _, _ => none
        match i with
        | .iload j => ldi j
        | .iload_n j => ldi j
        | .lload j => ldl j
        | .lload_n j => ldl j
        | .aload j => lda j
        | .aload_n j => lda j
        | .istore j => sti j
        | .istore_n j => sti j
        | .astore j => sta j
        | .astore_n j => sta j
        | .lstore j => stl j
        | .lstore_n j => stl j
        | .iinc j n => match px_find j lv, decide (j < px_ml M) with
          | some (.int x), true => some (.inl (pc + len, px_st1 lv j (.int (x + Int32.ofInt n)), st, hp, nc, ns))
          | _, _ => none
        | .ifCond c off => match st with
          | .int x :: r => br (px_cmp c x 0) off r
          | _ => none
        | .if_icmp c off => match st with
          | .int y :: .int x :: r => br (px_cmp c x y) off r
          | _ => none
        | .goto off => some (.inl (px_tgt pc off, lv, st, hp, nc, ns))
        | .tableswitch dflt lo hi offs => match st with
          | .int x :: r => match decide (x.toInt < lo) || decide (hi < x.toInt) with
            | true => some (.inl (px_tgt pc dflt, lv, r, hp, nc, ns))
            | false => match offs[(x.toInt - lo).toNat]? with
              | some off => some (.inl (px_tgt pc off, lv, r, hp, nc, ns))
              | none => none
          | _ => none
        | .lookupswitch dflt ps => match st with
          | .int x :: r => match decide (0 ≤ (pc : Int) + Op.lookupswitch.offset ps.toList dflt x.toInt) with
            | true => some (.inl (px_tgt pc (Op.lookupswitch.offset ps.toList dflt x.toInt), lv, r, hp, nc, ns))
            | false => none
          | _ => none
        | .ldc idx => match px_find idx (px_cp M) with
          | some (3, _, _, v) => some (.inl (pc + len, lv, .int (Int32.ofInt v) :: st, hp, nc, ns))
          | _ => none
        | .ldc_w idx => match px_find idx (px_cp M) with
          | some (3, _, _, v) => some (.inl (pc + len, lv, .int (Int32.ofInt v) :: st, hp, nc, ns))
          | _ => none
        | .ldc2_w idx => match px_find idx (px_cp M) with
          | some (4, _, _, v) => some (.inl (pc + len, lv, .long (Int64.ofInt v) :: st, hp, nc, ns))
          | _ => none
        | .getfield idx => match px_find idx (px_cp M), st with
          | some (0, ci, k, _), .ref a :: r => match hp[a]? with
            | some (.inr (c, fs)) => match Nat.beq c ci, fs[k]? with
              | true, some v => some (.inl (pc + len, lv, v :: r, hp, nc, ns))
              | _, _ => none
            | _ => none
          | _, _ => none
        | .putfield idx => match px_find idx (px_cp M), st with
          | some (0, ci, k, fl), v :: .ref a :: r => match hp[a]?, T.2[ci]? with
            | some (.inr (c, fs)), some (_, tys) => match Nat.beq c ci, tys[k]?, decide (k < fs.length), decide (fl ≤ 2) with
              | true, some ty, true, true => match px_fits ty v with
                | true => some (.inl (pc + len, lv, r, hp.set a (.inr (ci, fs.set k v)), nc, ns))
                | false => none
              | _, _, _, _ => none
            | _, _ => none
          | _, _ => none
        | .arraylength => match st with
          | .retAddr _ :: r => match X with
            | some X => some (.inl (pc + len, lv, .int (Int32.ofNat X.1) :: r, hp, nc, ns))
            | none => none
          | .ref a :: r => match hp[a]? with
            | some (.inl (t, n, _)) => match T.1[t]? with
              | some _ => some (.inl (pc + len, lv, .int (Int32.ofNat n) :: r, hp, nc, ns))
              | none => none
            | _ => none
          | _ => none
        | .iaload => match st with
          | .int j :: a :: r => (px_ald T X i hp a j).map fun v => .inl (pc + len, lv, v :: r, hp, nc, ns)
          | _ => none
        | .baload => match st with
          | .int j :: a :: r => (px_ald T X i hp a j).map fun v => .inl (pc + len, lv, v :: r, hp, nc, ns)
          | _ => none
        | .laload => match st with
          | .int j :: a :: r => (px_ald T X i hp a j).map fun v => .inl (pc + len, lv, v :: r, hp, nc, ns)
          | _ => none
        | .aaload => match st with
          | .int j :: a :: r => (px_ald T X i hp a j).map fun v => .inl (pc + len, lv, v :: r, hp, nc, ns)
          | _ => none
        | .iastore => match st with
          | v :: .int j :: .ref a :: r => (px_ast T i hp a j v).map fun hp' => .inl (pc + len, lv, r, hp', nc, ns)
          | _ => none
        | .bastore => match st with
          | v :: .int j :: .ref a :: r => (px_ast T i hp a j v).map fun hp' => .inl (pc + len, lv, r, hp', nc, ns)
          | _ => none
        | .lastore => match st with
          | v :: .int j :: .ref a :: r => (px_ast T i hp a j v).map fun hp' => .inl (pc + len, lv, r, hp', nc, ns)
          | _ => none
        | .invokevirtual idx => match px_find idx (px_cp M) with
          | some (1, mi, n, ci) => match st[n]? with
            | some (.ref a) => match hp[a]? with
              | some (.inr (c, _)) => match Nat.beq c ci.toNat with
                | true => inv (n + 1) mi
                | false => none
              | _ => none
            | _ => none
          | _ => none
        | .invokestatic idx => match px_find idx (px_cp M) with
          | some (2, mi, n, _) => inv n mi
          | some (11, w, _, _) => match px_math w st, decide (((st.drop 2).map fun v => v.category).sum ≤ 8), decide (nc ≤ (px_rm M).cells), decide (ns ≤ (px_rm M).slots) with
            | some st', true, true, true => some (.inl (pc + 3, lv, st', hp, nc, ns))
            | _, _, _, _ => none
          | _ => none
        | .invokespecial idx => match px_find idx (px_cp M) with
          | some (7, _, _, _) => match st with
            | .ref _ :: r => match decide ((r.map fun v => v.category).sum ≤ 8) with
              | true => some (.inl (pc + 3, lv, r, hp, nc, ns))
              | false => none
            | _ => none
          | some (8, mi, n, _) => match st[n]? with
            | some (.ref _) => inv (n + 1) mi
            | _ => none
          | _ => none
        | .new idx => match px_find idx (px_cp M) with
          | some (5, ci, _, _) => match T.2[ci]? with
            | some (n, tys) => match decide (nc + 1 ≤ (px_rm M).cells), decide (ns + n ≤ (px_rm M).slots), decide (hp.length = N0 + nc) with
              | true, true, true => some (.inl (pc + 3, lv, .ref hp.length :: st, hp ++ [.inr (ci, tys.map defaultValue)], nc + 1, ns + n))
              | _, _, _ => none
            | none => none
          | _ => none
        | .newarray aty => match px_find (100000 + pc) (px_cp M), st with
          | some (6, t, _, _), .int n :: r => match T.1[t]?, decide (0 ≤ n.toInt), decide (n.toInt ≤ 100000), decide (nc + 1 ≤ (px_rm M).cells), decide (ns + n.toNatClampNeg ≤ (px_rm M).slots), decide (hp.length = N0 + nc) with
            | some ty, true, true, true, true, true => match decide (newarray.typeOf aty = ty), px_dflt n.toNatClampNeg ty with
              | true, some a0 => some (.inl (pc + 2, lv, .ref hp.length :: r, hp ++ [.inl (t, a0)], nc + 1, ns + n.toNatClampNeg))
              | _, _ => none
            | _, _, _, _, _, _ => none
          | _, _ => none
        | .anewarray idx => match px_find (100000 + pc) (px_cp M), px_find (300000 + idx) (px_cp M), st with
          | some (6, t, _, _), some (9, t', _, _), .int n :: r => match T.1[t]?, Nat.beq t t', decide (0 ≤ n.toInt), decide (n.toInt ≤ 100000), decide (nc + 1 ≤ (px_rm M).cells), decide (ns + n.toNatClampNeg ≤ (px_rm M).slots), decide (hp.length = N0 + nc) with
            | some (.object _), true, true, true, true, true, true => some (.inl (pc + 3, lv, .ref hp.length :: r, hp ++ [.inl (t, n.toNatClampNeg, .inr (.inr (.inr (.inr (fun _ => none)))))], nc + 1, ns + n.toNatClampNeg))
            | _, _, _, _, _, _, _ => none
          | _, _, _ => none
        | .aastore => match st with
          | .ref v :: .int j :: .ref a :: r => match hp[a]?, hp[v]? with
            | some (.inl (t, n, .inr (.inr (.inr (.inr f))))), some (.inr (ci, _)) => match px_inR j n, T.1[t]?, T.2[ci]? with
              | true, some (.object _), some _ => match px_find (200000 + t) (px_cp M) with
                | some (10, ci', t', _) => match Nat.beq ci ci' && Nat.beq t t' with
                  | true => some (.inl (pc + 1, lv, r, hp.set a (.inl (t, n, .inr (.inr (.inr (.inr (va_up f j.toNatClampNeg (some v))))))), nc, ns))
                  | false => none
                | _ => none
              | _, _, _ => none
            | _, _ => none
          | _ => none
        | .ireturn => match st, px_rt M, decide (nc ≤ (px_rm M).cells), decide (ns ≤ (px_rm M).slots) with
          | [.int v], some ty, true, true => match px_zr ty v with
            | true => some (.inr (some (.int v), hp))
            | false => none
          | _, _, _, _ => none
        | .lreturn => match st, px_rt M, decide (nc ≤ (px_rm M).cells), decide (ns ≤ (px_rm M).slots) with
          | [.long v], some .long, true, true => some (.inr (some (.long v), hp))
          | _, _, _, _ => none
        | .return_ => match st, px_rt M, decide (nc ≤ (px_rm M).cells), decide (ns ≤ (px_rm M).slots) with
          | [], none, true, true => some (.inr (none, hp))
          | _, _, _, _ => none
        | _ => none
def px_run (T : px_T) (X : Option (Nat × (Nat → Int32))) (P : List px_M) (call : Nat → List Value → px_H → Option px_A) (M : px_M) (N0 : Nat) : Nat → px_S → Option px_A
  | 0, _ => none
  | n + 1, s => match px_step T X P call M N0 s with
    | none => none
    | some (.inl s') => px_run T X P call M N0 n s'
    | some (.inr r) => some r
/-- a call; 'Spc' tells what the methods do that are proved otherwise -/
def px_call (T : px_T) (P : List px_M) (Spc : Nat → List Value → px_H → Option px_A) : Nat → Nat → List Value → px_H → Option px_A
  | 0, _, _, _ => none
  | n + 1, mi, av, hp => match Spc mi av hp with
    | some r => some r
    | none => match P[mi]? with
      | none => none
      | some M => match decide ((lg_sl av).length ≤ px_ml M) with
        | false => none
        | true => px_run T none P (px_call T P Spc n) M hp.length n (0, lv_args 0 av, [], hp, 0, 0)
