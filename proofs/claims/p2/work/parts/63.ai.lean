/-! one step -/
def ab_const (v : Int) : ab_V := ((0, v, v, []), none)
def ab_ld (A : ab_S) (j : Nat) (a : ab_V) : ab_V :=
  match ab_isn a.1 with
  | false => a
  | true => match a.2 with
    | some l => match ab_bnd A l with
      | some b => ((a.1.1, (ab_meet (a.1.2.1, a.1.2.2.1) b).1, (ab_meet (a.1.2.1, a.1.2.2.1) b).2, a.1.2.2.2), some l)
      | none => a
    | none => (a.1, some (0, j, 0))
def ab_tl (l : List ab_V) : List ab_V := l
/-- to a place where the condition holds -/
def ab_to (pc : Nat) (c : ClassFile.Cond) (x y : ab_V) (A : ab_S) : List (Nat × ab_S) := match ab_if c x y A with
  | some A' => [(pc, A')]
  | none => []
def ab_fits (ty : FieldType) (k : Nat) : Bool :=
  match ty with
  | .int => Nat.beq k 0
  | .long => Nat.beq k 1
  | .object _ => Nat.beq k 2
  | .array _ => Nat.beq k 2
  | _ => false
def ab_join (f g : ab_F) : ab_F := (f.1, min f.2.1 g.2.1, max f.2.2.1 g.2.2.1, f.2.2.2 ++ g.2.2.2)
/-- a field's value on the stack: a reference to many cells is taken apart -/
def ab_push (pc : Nat) (A : ab_S) (f : ab_F) (o : Option ab_L) (r : List ab_V) : Option (List (Nat × ab_S)) :=
  match f.1 with
  | 0 => some [(pc, (A.1, (f, o) :: r, A.2.2))]
  | 1 => some [(pc, (A.1, (f, o) :: r, A.2.2))]
  | 2 => some (f.2.2.2.map (fun q => (pc, (A.1, ((2, 0, 0, [q]), none) :: r, A.2.2))))
  | _ => none
def ab_aty (i : Instr) (ty : FieldType) (k : Nat) : Bool :=
  match i, ty with
  | .iaload, .int => Nat.beq k 0
  | .baload, .boolean => Nat.beq k 0
  | .laload, .long => Nat.beq k 1
  | .aaload, .object _ => Nat.beq k 2
  | _, _ => false
def ab_sty (i : Instr) (ty : FieldType) (k : Nat) (v : ab_F) : Bool :=
  match i, ty with
  | .iastore, .int => Nat.beq k 0 && Nat.beq v.1 0
  | .bastore, .boolean => Nat.beq k 0 && (Nat.beq v.1 0 && (decide (0 ≤ v.2.1) && decide (v.2.2.1 ≤ 1)))
  | .lastore, .long => Nat.beq k 1 && Nat.beq v.1 1
  | _, _ => false
def ab_aload (T : px_T) (L : Option Nat) (i : Instr) (pc : Nat) (A : ab_S) : Option (List (Nat × ab_S)) :=
  match A.2.1 with
  | ((0, i1, i2, _), _) :: ((3, _), _) :: r => match i, L with
    | .iaload, some L => match A.2.2.2[i1.toNat]?, decide (i1 = i2), decide (0 ≤ i1), decide (i1 < L) with
      | some b, true, true, true => some [(pc, (A.1, ((0, b.1, b.2, []), some (2, i1.toNat, 0)) :: r, A.2.2))]
      | _, _, _, _ => none
    | _, _ => none
  | ((0, i1, i2, _), _) :: ((2, _, _, [c]), _) :: r => match A.2.2.1[c]? with
    | some (.inr (t, n, f)) => match T.1[t]? with
      | some ty => match ab_aty i ty f.1, decide (0 ≤ i1), decide (i2 < n) with
        | true, true, true => ab_push pc A f none r
        | _, _, _ => none
      | none => none
    | _ => none
  | _ => none
def ab_astore (T : px_T) (i : Instr) (pc : Nat) (A : ab_S) : Option (List (Nat × ab_S)) :=
  match A.2.1 with
  | v :: ((0, i1, i2, _), _) :: ((2, _, _, [c]), _) :: r => match A.2.2.1[c]? with
    | some (.inr (t, n, f)) => match T.1[t]? with
      | some ty => match ab_sty i ty f.1 v.1, decide (0 ≤ i1), decide (i2 < n) with
        | true, true, true => some [(pc, (A.1, r, A.2.2.1.set c (.inr (t, n, ab_join f v.1)), A.2.2.2))]
        | _, _, _ => none
      | none => none
    | _ => none
  | _ => none
def ab_step (T : px_T) (L : Option Nat) (M : px_M) (pc : Nat) (A : ab_S) : Option (List (Nat × ab_S)) :=
  match px_find pc (px_cd M) with
  | none => none
  | some (len, i) =>
    match ab_alu i A.2.1 with
    | some st' => some [(pc + len, (A.1, st', A.2.2))]
    | none =>
      let ldn (j k : Nat) : Option (List (Nat × ab_S)) := match px_find j A.1 with
        | some a => match Nat.beq a.1.1 k with
          | true => some [(pc + len, (A.1, ab_ld A j a :: A.2.1, A.2.2))]
          | false => none
        | none => none
      let lda (j : Nat) : Option (List (Nat × ab_S)) := match px_find j A.1 with
        | some a => match Nat.beq a.1.1 2 || Nat.beq a.1.1 3 with
          | true => some [(pc + len, (A.1, (a.1, none) :: A.2.1, A.2.2))]
          | false => none
        | none => none
      let st1 (j k : Nat) : Option (List (Nat × ab_S)) := match A.2.1 with
        | a :: r => match Nat.beq a.1.1 k && decide (j < px_ml M) with
          | true => some [(pc + len, ab_sto1 A j a r)]
          | false => none
        | [] => none
      let st2 (j : Nat) : Option (List (Nat × ab_S)) := match A.2.1 with
        | a :: r => match Nat.beq a.1.1 1 && decide (j + 1 < px_ml M) with
          | true => some [(pc + len, ab_sto2 A j a r)]
          | false => none
        | [] => none
      match i with
      | .iload j => ldn j 0
      | .iload_n j => ldn j 0
      | .lload j => ldn j 1
      | .lload_n j => ldn j 1
      | .aload j => lda j
      | .aload_n j => lda j
      | .istore j => st1 j 0
      | .istore_n j => st1 j 0
      | .astore j => st1 j 2
      | .astore_n j => st1 j 2
      | .lstore j => st2 j
      | .lstore_n j => st2 j
      | .iinc j n => match px_find j A.1, decide (j < px_ml M) with
        | some ((0, a1, a2, _), _), true => some [(pc + len, ab_sto1 A j ((0, (ab_bi (fun x y => x + y) (ab_radd ab_topi) (a1, a2) ((Int32.ofInt n).toInt, (Int32.ofInt n).toInt)).1, (ab_bi (fun x y => x + y) (ab_radd ab_topi) (a1, a2) ((Int32.ofInt n).toInt, (Int32.ofInt n).toInt)).2, []), none) A.2.1)]
        | _, _ => none
      | .ifCond c off => match A.2.1 with
        | ((0, x), o) :: r => some (ab_to (px_tgt pc off) c ((0, x), o) (ab_const 0) (A.1, r, A.2.2) ++ ab_to (pc + 3) (ab_neg c) ((0, x), o) (ab_const 0) (A.1, r, A.2.2))
        | _ => none
      | .if_icmp c off => match A.2.1 with
        | ((0, y), o') :: ((0, x), o) :: r => some (ab_to (px_tgt pc off) c ((0, x), o) ((0, y), o') (A.1, r, A.2.2) ++ ab_to (pc + 3) (ab_neg c) ((0, x), o) ((0, y), o') (A.1, r, A.2.2))
        | _ => none
      | .goto off => some [(px_tgt pc off, A)]
      | .ldc idx => match px_find idx (px_cp M) with
        | some (3, _, _, v) => some [(pc + len, (A.1, ab_const (Int32.ofInt v).toInt :: A.2.1, A.2.2))]
        | _ => none
      | .ldc_w idx => match px_find idx (px_cp M) with
        | some (3, _, _, v) => some [(pc + len, (A.1, ab_const (Int32.ofInt v).toInt :: A.2.1, A.2.2))]
        | _ => none
      | .ldc2_w idx => match px_find idx (px_cp M) with
        | some (4, _, _, v) => some [(pc + len, (A.1, ((1, (Int64.ofInt v).toInt, (Int64.ofInt v).toInt, []), none) :: A.2.1, A.2.2))]
        | _ => none
      | .tableswitch dflt lo hi offs => match A.2.1 with
        | ((0, x), o) :: r => match decide (offs.size = (hi - lo + 1).toNat) with
          | true => some ((List.range offs.size).flatMap (fun (t : Nat) => match offs[t]? with
              | some off => ab_to (px_tgt pc off) .eq ((0, x), o) (ab_const (lo + (t : Int))) (A.1, r, A.2.2)
              | none => []) ++ (ab_to (px_tgt pc dflt) .lt ((0, x), o) (ab_const lo) (A.1, r, A.2.2) ++ ab_to (px_tgt pc dflt) .gt ((0, x), o) (ab_const hi) (A.1, r, A.2.2)))
          | false => none
        | _ => none
      | .getfield idx => match px_find idx (px_cp M), A.2.1 with
        | some (0, ci, k, _), ((2, _, _, [c]), _) :: r => match A.2.2.1[c]? with
          | some (.inl (ci', fs)) => match Nat.beq ci' ci, fs[k]? with
            | true, some f => ab_push (pc + len) A f (some (1, c, k)) r
            | _, _ => none
          | _ => none
        | _, _ => none
      | .putfield idx => match px_find idx (px_cp M), A.2.1 with
        | some (0, ci, k, fl), a :: ((2, _, _, [c]), _) :: r => match A.2.2.1[c]?, T.2[ci]? with
          | some (.inl (ci', fs)), some (_, tys) => match Nat.beq ci' ci, tys[k]?, decide (k < fs.length), decide (fl ≤ 2) with
            | true, some ty, true, true => match ab_fits ty a.1.1 with
              | true => some [(pc + len, (A.1.map (fun p => (p.1, ab_kill (ab_kf c k) p.2)), r.map (ab_kill (ab_kf c k)), A.2.2.1.set c (.inl (ci, fs.set k a.1)), A.2.2.2))]
              | false => none
            | _, _, _, _ => none
          | _, _ => none
        | _, _ => none
      | .arraylength => match A.2.1 with
        | ((3, _), _) :: r => match L with
          | some L => some [(pc + len, (A.1, ab_const (Int32.ofNat L).toInt :: r, A.2.2))]
          | none => none
        | ((2, _, _, [c]), _) :: r => match A.2.2.1[c]? with
          | some (.inr (t, n, _)) => match T.1[t]? with
            | some _ => some [(pc + len, (A.1, ab_const (Int32.ofNat n).toInt :: r, A.2.2))]
            | none => none
          | _ => none
        | _ => none
      | .iaload => ab_aload T L i (pc + len) A
      | .baload => ab_aload T L i (pc + len) A
      | .laload => ab_aload T L i (pc + len) A
      | .aaload => ab_aload T L i (pc + len) A
      | .iastore => ab_astore T i (pc + len) A
      | .bastore => ab_astore T i (pc + len) A
      | .lastore => ab_astore T i (pc + len) A
      | .lcmp => match A.2.1, px_find (pc + len) (px_cd M) with
        | ((1, y), o') :: ((1, x), o) :: r, some (3, .ifCond c off) => some (ab_to (px_tgt (pc + len) off) c ((1, x), o) ((1, y), o') (A.1, r, A.2.2) ++ ab_to (pc + len + 3) (ab_neg c) ((1, x), o) ((1, y), o') (A.1, r, A.2.2))
        | _, _ => none
      | _ => none
def px_its (T : px_T) (X : Option (Nat × (Nat → Int32))) (P : List px_M) (call : Nat → List Value → px_H → Option px_A) (M : px_M) (N0 : Nat) : Nat → px_S → Option px_S
  | 0, S => some S
  | k + 1, S => match px_step T X P call M N0 S with
    | some (.inl S') => px_its T X P call M N0 k S'
    | _ => none
