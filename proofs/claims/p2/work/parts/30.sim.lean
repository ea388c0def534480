/-! the pure world and the machine's: cell k lies at base + k, the script at b -/
def px_tr (base b : Nat) : Value → Value
  | .ref k => .ref (base + k)
  | .retAddr _ => .ref b
  | v => v
def px_trA (base : Nat) : vp_A → vp_A
  | (n, .inr (.inr (.inr (.inr f)))) => (n, .inr (.inr (.inr (.inr (fun j => (f j).map (fun q => base + q))))))
  | a => a
def px_trE (base b : Nat) (dA : Nat → ClassId) : px_E → va_E
  | .inl q => .inl (dA q.1, px_trA base q.2)
  | .inr q => .inr (q.1, q.2.map (px_tr base b))
def px_trH (base b : Nat) (dA : Nat → ClassId) (hp : px_H) : va_W := hp.mapIdx (fun k x => (base + k, px_trE base b dA x))
theorem px_cat (base b : Nat) (v : Value) : (px_tr base b v).category = v.category := by cases v <;> rfl
theorem px_trH_get {base b : Nat} {dA : Nat → ClassId} {hp : px_H} {k : Nat} {x : px_E} (h : hp[k]? = some x) : (px_trH base b dA hp)[k]? = some (base + k, px_trE base b dA x) := by
  simp [px_trH, List.getElem?_mapIdx, h]
theorem px_trH_set (base b : Nat) (dA : Nat → ClassId) (hp : px_H) (k : Nat) (x : px_E) : (px_trH base b dA hp).set k (base + k, px_trE base b dA x) = px_trH base b dA (hp.set k x) := by
  simp [px_trH, List.mapIdx_set]
theorem px_trH_push (base b : Nat) (dA : Nat → ClassId) (hp : px_H) (x : px_E) : px_trH base b dA (hp ++ [x]) = px_trH base b dA hp ++ [(base + hp.length, px_trE base b dA x)] := by
  simp [px_trH, List.mapIdx_append]
theorem px_trH_D (base b : Nat) (dA : Nat → ClassId) (hp : px_H) : va_D (fun q => base ≤ q) (px_trH base b dA hp) := by
  refine ⟨fun i j p q hi hj h => ?_, fun k q hk => ?_⟩
  · simp only [px_trH, List.getElem?_mapIdx, Option.map_eq_some_iff] at hi hj
    obtain ⟨x, -, rfl⟩ := hi
    obtain ⟨y, -, rfl⟩ := hj
    simp only at h
    omega
  · simp only [px_trH, List.getElem?_mapIdx, Option.map_eq_some_iff] at hk
    obtain ⟨x, -, rfl⟩ := hk
    simp only
    omega
theorem px_find_mem {α : Type} {k : Nat} {l : List (Nat × α)} {v : α} (h : px_find k l = some v) : (k, v) ∈ l := by
  induction l with
  | nil => cases h
  | cons q r ih =>
    unfold px_find at h
    split at h
    · rename_i hq
      cases h
      have := Nat.eq_of_beq_eq_true hq
      subst this
      exact List.mem_cons_self
    · exact List.mem_cons_of_mem _ (ih h)
abbrev px_trL (base b : Nat) (lv : List (Nat × Value)) : List (Nat × Value) := lv.map (fun q => (q.1, px_tr base b q.2))
theorem px_trL_find {base b j : Nat} {lv : List (Nat × Value)} {v : Value} {ls : Array Slot} {nL : Nat} (hl : lv_has ls nL (px_trL base b lv)) (h : px_find j lv = some v) : ls[j]? = some (.val (px_tr base b v)) :=
  hl.2.2 (j, px_tr base b v) (List.mem_map.mpr ⟨(j, v), px_find_mem h, rfl⟩)
theorem px_trL_mem {base b j : Nat} {lv : List (Nat × Value)} {v : Value} (h : px_find j lv = some v) : ∃ k : Nat, (px_trL base b lv)[k]? = some (j, px_tr base b v) :=
  List.getElem?_of_mem (List.mem_map.mpr ⟨(j, v), px_find_mem h, rfl⟩)
theorem px_trL_st1 (base b : Nat) (lv : List (Nat × Value)) (j : Nat) (v : Value) : (j, px_tr base b v) :: (px_trL base b lv).filter (fun q => !(q.1 == j) && !(q.1 + 1 == j && q.2.category == 2)) = px_trL base b (px_st1 lv j v) := by
  simp [px_trL, px_st1, List.filter_map, Function.comp_def, px_cat]
theorem px_trL_st2 (base b : Nat) (lv : List (Nat × Value)) (j : Nat) (v : Value) : (j, px_tr base b v) :: (px_trL base b lv).filter (fun q => !(q.1 == j) && (!(q.1 == j + 1) && !(q.1 + 1 == j && q.2.category == 2))) = px_trL base b (px_st2 lv j v) := by
  simp [px_trL, px_st2, List.filter_map, Function.comp_def, px_cat]
theorem px_lv_args (base b : Nat) : ∀ (vs : List Value) (i : Nat), lv_args i (vs.map (px_tr base b)) = px_trL base b (lv_args i vs) := by
  intro vs
  induction vs with
  | nil => intro i; rfl
  | cons v vs ih =>
    intro i
    simp only [List.map_cons, lv_args, px_cat, px_trL] at ih ⊢
    rw [ih]
theorem px_lg_sl (base b : Nat) (vs : List Value) : (lg_sl (vs.map (px_tr base b))).length = (lg_sl vs).length := by
  induction vs with
  | nil => rfl
  | cons v vs ih =>
    simp only [lg_sl, List.map_cons, List.flatMap_cons, List.length_append, px_cat] at ih ⊢
    rw [ih]
    split <;> simp
/-- the length of an instruction -/
def px_len (i : Instr) : Nat :=
  match i with
  | .bipush _ => 2
  | .sipush _ => 3
  | .iload _ => 2
  | .lload _ => 2
  | .aload _ => 2
  | .istore _ => 2
  | .lstore _ => 2
  | .astore _ => 2
  | .iinc _ _ => 3
  | .ifCond _ _ => 3
  | .if_icmp _ _ => 3
  | .goto _ => 3
  | .ldc _ => 2
  | .ldc_w _ => 3
  | .ldc2_w _ => 3
  | .getfield _ => 3
  | .putfield _ => 3
  | .invokevirtual _ => 3
  | .invokestatic _ => 3
  | .invokespecial _ => 3
  | .new _ => 3
  | .newarray _ => 2
  | .anewarray _ => 3
  | _ => 1
section px_s1
variable {p : Program} {l : Launch} {e : Env} {R : Room} {s : State} {m : MethodId} {args : Array Value} {below : List Frame} {meth : Method} {c : Code} {H : Heap} {locs : List Loc} {cells slots : Nat} {Q : State → Prop}
variable {cc : ByteArray} {pc len : Nat} {ls : Array Slot} {base b : Nat}
theorem px_ii_some {f : Int32 → Int32 → Int32} {st st' : List Value} (h : px_ii f st = some st') : ∃ x y r, st = .int y :: .int x :: r ∧ st' = .int (f x y) :: r := by
  unfold px_ii at h
  split at h
  · cases h; exact ⟨_, _, _, rfl, rfl⟩
  · cases h
theorem px_iiz_some {f : Int32 → Int32 → Int32} {st st' : List Value} (h : px_iiz f st = some st') : ∃ x y r, st = .int y :: .int x :: r ∧ st' = .int (f x y) :: r ∧ ¬ y = 0 := by
  unfold px_iiz at h
  split at h
  · split at h
    · cases h
    · cases h; exact ⟨_, _, _, rfl, rfl, by assumption⟩
  · cases h
theorem px_ll_some {f : Int64 → Int64 → Int64} {st st' : List Value} (h : px_ll f st = some st') : ∃ x y r, st = .long y :: .long x :: r ∧ st' = .long (f x y) :: r := by
  unfold px_ll at h
  split at h
  · cases h; exact ⟨_, _, _, rfl, rfl⟩
  · cases h
theorem px_llz_some {f : Int64 → Int64 → Int64} {st st' : List Value} (h : px_llz f st = some st') : ∃ x y r, st = .long y :: .long x :: r ∧ st' = .long (f x y) :: r ∧ ¬ y = 0 := by
  unfold px_llz at h
  split at h
  · split at h
    · cases h
    · cases h; exact ⟨_, _, _, rfl, rfl, by assumption⟩
  · cases h
theorem px_li_some {f : Int64 → Int32 → Int64} {st st' : List Value} (h : px_li f st = some st') : ∃ x y r, st = .int y :: .long x :: r ∧ st' = .long (f x y) :: r := by
  unfold px_li at h
  split at h
  · cases h; exact ⟨_, _, _, rfl, rfl⟩
  · cases h
theorem px_i1_some {f : Int32 → Value} {st st' : List Value} (h : px_i1 f st = some st') : ∃ x r, st = .int x :: r ∧ st' = f x :: r := by
  unfold px_i1 at h
  split at h
  · cases h; exact ⟨_, _, rfl, rfl⟩
  · cases h
theorem px_l1_some {f : Int64 → Value} {st st' : List Value} (h : px_l1 f st = some st') : ∃ x r, st = .long x :: r ∧ st' = f x :: r := by
  unfold px_l1 at h
  split at h
  · cases h; exact ⟨_, _, rfl, rfl⟩
  · cases h
theorem px_lc_some {st st' : List Value} (h : px_lc st = some st') : ∃ x y r, st = .long y :: .long x :: r ∧ st' = .int (lg_cmp x y) :: r := by
  unfold px_lc at h
  split at h
  · cases h; exact ⟨_, _, _, rfl, rfl⟩
  · cases h
set_option maxHeartbeats 4000000 in
theorem px_alu_sim (hx : p.tables.exec = Jvm.exec) (hb : c.code = cc) {i : Instr} (hd : decode cc pc = .ok (i, len)) (hlen : len = px_len i) {st st' : List Value} (ha : px_alu i st = some st')
    (k : W p l e R s m args below meth c H locs cells slots Q (F0 m (pc + len) ls (st'.map (px_tr base b)))) : W p l e R s m args below meth c H locs cells slots Q (F0 m pc ls (st.map (px_tr base b))) := by
  subst hlen
  cases i
  case iconst n => cases ha; exact lv_iconst hx hb hd rfl k
  case bipush n => cases ha; exact lv_bipush hx hb hd rfl k
  case sipush n => cases ha; exact lv_sipush hx hb hd rfl k
  case lconst n => cases ha; exact lv_lconst hx hb hd rfl k
  case iadd => obtain ⟨x, y, r, rfl, rfl⟩ := px_ii_some ha; exact lv_iadd hx hb hd k
  case isub => obtain ⟨x, y, r, rfl, rfl⟩ := px_ii_some ha; exact lv_isub hx hb hd k
  case imul => obtain ⟨x, y, r, rfl, rfl⟩ := px_ii_some ha; exact lv_imul hx hb hd k
  case iand => obtain ⟨x, y, r, rfl, rfl⟩ := px_ii_some ha; exact lv_iand hx hb hd k
  case ior => obtain ⟨x, y, r, rfl, rfl⟩ := px_ii_some ha; exact lv_ior hx hb hd k
  case ixor => obtain ⟨x, y, r, rfl, rfl⟩ := px_ii_some ha; exact lv_ixor hx hb hd k
  case ishl => obtain ⟨x, y, r, rfl, rfl⟩ := px_ii_some ha; exact lv_ishl hx hb hd k
  case ishr => obtain ⟨x, y, r, rfl, rfl⟩ := px_ii_some ha; exact lv_ishr hx hb hd k
  case iushr => obtain ⟨x, y, r, rfl, rfl⟩ := px_ii_some ha; exact lv_iushr hx hb hd rfl k
  case idiv => obtain ⟨x, y, r, rfl, rfl, hy⟩ := px_iiz_some ha; exact lv_idiv hx hb hd hy k
  case irem => obtain ⟨x, y, r, rfl, rfl, hy⟩ := px_iiz_some ha; exact lv_irem hx hb hd hy k
  case ladd => obtain ⟨x, y, r, rfl, rfl⟩ := px_ll_some ha; exact lv_ladd hx hb hd k
  case lsub => obtain ⟨x, y, r, rfl, rfl⟩ := px_ll_some ha; exact lv_lsub hx hb hd k
  case lmul => obtain ⟨x, y, r, rfl, rfl⟩ := px_ll_some ha; exact lv_lmul hx hb hd k
  case land => obtain ⟨x, y, r, rfl, rfl⟩ := px_ll_some ha; exact lv_land hx hb hd k
  case lor => obtain ⟨x, y, r, rfl, rfl⟩ := px_ll_some ha; exact lv_lor hx hb hd k
  case lxor => obtain ⟨x, y, r, rfl, rfl⟩ := px_ll_some ha; exact lv_lxor hx hb hd k
  case ldiv => obtain ⟨x, y, r, rfl, rfl, hy⟩ := px_llz_some ha; exact lv_ldiv hx hb hd hy k
  case lshl => obtain ⟨x, y, r, rfl, rfl⟩ := px_li_some ha; exact lv_lshl hx hb hd rfl k
  case lshr => obtain ⟨x, y, r, rfl, rfl⟩ := px_li_some ha; exact lv_lshr hx hb hd rfl k
  case lushr => obtain ⟨x, y, r, rfl, rfl⟩ := px_li_some ha; exact lv_lushr hx hb hd rfl k
  case ineg => obtain ⟨x, r, rfl, rfl⟩ := px_i1_some ha; exact lv_ineg hx hb hd k
  case i2l => obtain ⟨x, r, rfl, rfl⟩ := px_i1_some ha; exact lv_i2l hx hb hd rfl k
  case i2b => obtain ⟨x, r, rfl, rfl⟩ := px_i1_some ha; exact lv_i2b hx hb hd rfl k
  case i2s => obtain ⟨x, r, rfl, rfl⟩ := px_i1_some ha; exact lv_i2s hx hb hd rfl k
  case l2i => obtain ⟨x, r, rfl, rfl⟩ := px_l1_some ha; exact lv_l2i hx hb hd rfl k
  case lcmp => obtain ⟨x, y, r, rfl, rfl⟩ := px_lc_some ha; exact W.lcmp hx hb hd k
  case dup =>
    simp only [px_alu, px_dup] at ha
    split at ha
    · split at ha
      · cases ha
        exact lv_dup hx hb hd (by rw [px_cat]; assumption) k
      · cases ha
    · cases ha
  case dup_x1 =>
    simp only [px_alu, px_dup_x1] at ha
    split at ha
    · split at ha
      · rename_i h
        cases ha
        exact lv_dup_x1 hx hb hd (by rw [px_cat]; exact h.1) (by rw [px_cat]; exact h.2) k
      · cases ha
    · cases ha
  case dup_x2 =>
    simp only [px_alu, px_dup_x2] at ha
    split at ha
    · split at ha
      · rename_i h
        cases ha
        exact lv_dup_x2 hx hb hd (by rw [px_cat]; exact h.1) (by rw [px_cat]; exact h.2.1) (by rw [px_cat]; exact h.2.2) k
      · cases ha
    · cases ha
  case dup2 =>
    simp only [px_alu, px_dup2] at ha
    split at ha
    · cases ha
    · split at ha
      · cases ha
        exact lv_dup2_2 hx hb hd (by rw [px_cat]; assumption) k
      · split at ha
        · cases ha
        · split at ha
          · rename_i h
            cases ha
            exact lv_dup2_11 hx hb hd (by rw [px_cat]; exact h.1) (by rw [px_cat]; exact h.2) k
          · cases ha
  case dup2_x1 =>
    simp only [px_alu, px_dup2_x1] at ha
    split at ha
    · split at ha
      · rename_i h
        cases ha
        exact lv_dup2_x1_2 hx hb hd (by rw [px_cat]; exact h.1) (by rw [px_cat]; exact h.2) k
      · cases ha
    · cases ha
  case dup2_x2 =>
    simp only [px_alu, px_dup2_x2] at ha
    split at ha
    · split at ha
      · rename_i h
        cases ha
        exact lv_dup2_x2_2 hx hb hd (by rw [px_cat]; exact h.1) (by rw [px_cat]; exact h.2.1) (by rw [px_cat]; exact h.2.2) k
      · cases ha
    · cases ha
  case pop =>
    simp only [px_alu, px_pop] at ha
    split at ha
    · split at ha
      · cases ha
        exact lv_pop hx hb hd (by rw [px_cat]; assumption) k
      · cases ha
    · cases ha
  case pop2 =>
    simp only [px_alu, px_pop2] at ha
    split at ha
    · split at ha
      · cases ha
        exact lv_pop2_2 hx hb hd (by rw [px_cat]; assumption) k
      · cases ha
    · cases ha
  all_goals cases ha
end px_s1
