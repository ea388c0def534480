/-! THE LAW, over the pure machine -/
theorem nm_all_in : ∀ w ∈ nm_ALL, w ∈ lw_tbl := fun w h => (List.mem_filter.mp h).1
theorem nm_five : ∀ ty ∈ nm_T.1, ty = .int ∨ ty = .boolean ∨ ty = .long ∨ ty = .object "NamesInBags$Rule" ∨ ty = .object "NamesInBags$Chest" := by decide +kernel
theorem nm_arr {s : State} {args : Array Value} (hts : ∀ w ∈ lw_tbl, w.before args s = true) (ty : FieldType) (h : ty ∈ nm_T.1) : ∃ cA : ClassId, ArrOfT s cA ty ∧ va_RA s cA ty := by
  rcases nm_five ty h with rfl | rfl | rfl | rfl | rfl
  · obtain ⟨cA, kA, comp, h1, h2, h3⟩ := Cond.arrayClass_spec (hts _ nm_ac_int)
    exact ⟨cA, fun n z => ⟨fun k h => (by cases h), kA, h2, comp, h3⟩, h1⟩
  · obtain ⟨cA, kA, comp, h1, h2, h3⟩ := Cond.arrayClass_spec (hts _ nm_ac_boolean)
    exact ⟨cA, fun n z => ⟨fun k h => (by cases h), kA, h2, comp, h3⟩, h1⟩
  · obtain ⟨cA, kA, comp, h1, h2, h3⟩ := Cond.arrayClass_spec (hts _ nm_ac_long)
    exact ⟨cA, fun n z => ⟨fun k h => (by cases h), kA, h2, comp, h3⟩, h1⟩
  · obtain ⟨comp, cA, kA, h0, -, h2, h3, h1⟩ := Cond.arrayOver_spec (hts _ nm_ao_Rule)
    exact ⟨cA, fun n z => ⟨fun k h => (by cases h), kA, h2, comp, h3⟩, kA, comp, h2, h3, h0, h1⟩
  · obtain ⟨comp, cA, kA, h0, -, h2, h3, h1⟩ := Cond.arrayOver_spec (hts _ nm_ao_Chest)
    exact ⟨cA, fun n z => ⟨fun k h => (by cases h), kA, h2, comp, h3⟩, kA, comp, h2, h3, h0, h1⟩
theorem nm_K {s : State} {args : Array Value} (hts : ∀ w ∈ lw_tbl, w.before args s = true) : ∃ (D : va_G) (dA : Nat → ClassId), va_K D nm_cl (px_tys nm_T dA) s := by
  have h1 : ∀ k : Nat, ∃ x : ClassId × (Nat → Nat), ∀ q : vw_C, nm_cl[k]? = some q → u_Kn s q.1 q.2.1 q.2.2 x.1 x.2 := by
    intro k
    rcases hk : nm_cl[k]? with _ | ⟨C, F, N⟩
    · exact ⟨(0, fun _ => 0), fun q hq => by cases hq⟩
    · obtain ⟨tys, -, -, -, -, h5, -⟩ := nm_okK k C F N hk
      obtain ⟨c, i, h⟩ := u_known (n := N) hts (fun w hw => nm_all_in _ (h5 w hw)) (hts _ (nm_inst k C F N hk))
      exact ⟨(c, i), fun q hq => by cases hq; exact h⟩
  have h2 : ∀ t : Nat, ∃ cA : ClassId, ∀ ty : FieldType, nm_T.1[t]? = some ty → ArrOfT s cA ty ∧ va_RA s cA ty := by
    intro t
    rcases ht : nm_T.1[t]? with _ | ty
    · exact ⟨0, fun ty h => by cases h⟩
    · obtain ⟨cA, h⟩ := nm_arr hts ty (List.mem_of_getElem? ht)
      exact ⟨cA, fun ty' e => by cases e; exact h⟩
  refine ⟨(fun k => (h1 k).choose.1, fun k => (h1 k).choose.2), fun t => (h2 t).choose, fun k q hq => (h1 k).choose_spec q hq, fun k q hk => ?_⟩
  simp only [px_tys, List.getElem?_mapIdx, Option.map_eq_some_iff] at hk
  obtain ⟨ty, ht, rfl⟩ := hk
  exact (h2 k).choose_spec ty ht
abbrev nm_none : Nat → List Value → px_H → Option px_A := fun _ _ _ => none
abbrev nm_call (n : Nat) : Nat → List Value → px_H → Option px_A := px_call nm_T nm_P nm_none n
section nm_s1
variable {p : Program} {l : Launch} {e : Env} {s : State} {m : MethodId} {below : List Frame} {meth : Method} {c : Code} {b L : Nat} {xs : Nat → Int32} {D : va_G} {dA : Nat → ClassId}
/-- from this state of the pure machine the law comes to its end with true -/
def nm_G (p : Program) (l : Launch) (e : Env) (s : State) (m : MethodId) (below : List Frame) (meth : Method) (c : Code) (b : Nat) (D : va_G) (dA : Nat → ClassId) (S : px_S) : Prop :=
  ∀ (H : Heap) (locs : List Loc) (ls : Array Slot), px_Rel s.heap.size b D nm_cl dA S.2.2.2.1 H → va_S (fun q => s.heap.size ≤ q) s.heap H locs → lv_has ls 8 (px_trL s.heap.size b S.2.1) →
    W p l e room_1 s m #[Value.ref b] below meth c H locs S.2.2.2.2.1 S.2.2.2.2.2 (lw_Z below #[Value.ref b] s) (F0 m S.1 ls (S.2.2.1.map (px_tr s.heap.size b)))
theorem nm_Ex {args : Array Value} (hts : ∀ w ∈ lw_tbl, w.before args s = true) : px_Ex nm_EXT s := by
  intro w hw
  have h1 := hts w (List.mem_filter.mp hw).1
  have h2 := (List.mem_filter.mp hw).2
  unfold px_isX at h2
  split at h2
  · exact va_Nw.of rfl h1
  · exact va_Nw.of rfl h1
  · exact h1
  · cases h2
theorem nm_G_step (C0 : lw_At p s m meth c b L xs) (hK : va_K D nm_cl (px_tys nm_T dA) s) {S S' : px_S} (n : Nat) (hs : px_step nm_T (some (L, xs)) nm_P (nm_call n) nm_law 0 S = some (.inl S')) (h : nm_G p l e s m below meth c b D dA S') : nm_G p l e s m below meth c b D dA S := by
  obtain ⟨hx, hb, hr, hml, hown, hts, hX, hbl, hlocks, hgv⟩ := C0
  obtain ⟨CW, CE, o, kM, cM, hokM, hCW, hCE, ho, hkM⟩ := nm_wd_law
  obtain ⟨pc, lv, st, hp, nc, ns⟩ := S
  intro H locs ls hR hS hl
  exact px_sim (M := nm_law) (Ts := lw_tbl) (ALL := nm_ALL) (EXT := nm_EXT) hx hb hml hown hts hK (nm_Ex hts) nm_isX (fun h2 => absurd (hkM h2).1 (by decide)) hokM hCW hCE ho nm_Mf hkM nm_okK nm_okL nm_all_in nm_good rfl
    (fun mi N av hp r hp' h1 h2 => px_call_sim nm_Ok (fun _ _ _ _ _ _ _ h => by cases h) n mi N av hp r hp' h1 h2)
    (fun x hx => by cases hx; exact ⟨hX, hbl, hbl⟩) (Nat.le_refl _) (fun _ => rfl) hs hR hS hl (fun H' locs' ls' hR' hS' hl' => h H' locs' ls' hR' hS' hl')
theorem nm_G_ret (C0 : lw_At p s m meth c b L xs) {pc nc ns : Nat} {lv : List (Nat × Value)} {hp : px_H} (hd : decode code pc = .ok (.ireturn, 1)) (hc : nc ≤ nm_rc) (hn : ns ≤ nm_rs) : nm_G p l e s m below meth c b D dA (pc, lv, [.int 1], hp, nc, ns) := by
  obtain ⟨hx, hb, hr, hml, hown, hts, hX, hbl, hlocks, hgv⟩ := C0
  intro H locs ls hR hS hl
  refine va_forget (fun q hq => hS.2.2 q hq) ?_
  refine W.widen (k := nm_rc) (n := nm_rs) hc hn ?_
  exact lw_ret hx hb hr hlocks hd
def nm_steps (X : Option (Nat × (Nat → Int32))) (n : Nat) : Nat → px_S → Option px_S
  | 0, S => some S
  | k + 1, S => match px_step nm_T X nm_P (nm_call n) nm_law 0 S with
    | some (.inl S') => nm_steps X n k S'
    | _ => none
theorem nm_G_steps (C0 : lw_At p s m meth c b L xs) (hK : va_K D nm_cl (px_tys nm_T dA) s) (n : Nat) : ∀ (k : Nat) (S S' : px_S), nm_steps (some (L, xs)) n k S = some S' → nm_G p l e s m below meth c b D dA S' → nm_G p l e s m below meth c b D dA S := by
  intro k
  induction k with
  | zero => intro S S' h hG; cases h; exact hG
  | succ k ih =>
    intro S S' h hG
    unfold nm_steps at h
    split at h
    · rename_i S1 h1
      exact nm_G_step C0 hK n h1 (ih S1 S' h hG)
    · cases h
/-- the entry -/
theorem nm_start (l : Launch) {bound : Nat} (hL : L ≤ bound) (C0 : lw_At p s m meth c b L xs) (h : ∀ (D : va_G) (dA : Nat → ClassId), va_K D nm_cl (px_tys nm_T dA) s → nm_G p l e s m below meth c b D dA (0, [(0, .retAddr 0)], [], [], 0, 0)) :
    W p l e room_1 s m #[Value.ref b] below meth c s.heap [] 0 0 (lw_Z below #[Value.ref b] s) (entryFrame m ([Value.ref b] : List Value).toArray 8) := by
  obtain ⟨hx, hb, hr, hml, hown, hts, hX, hbl, hlocks, hgv⟩ := C0
  obtain ⟨D, dA, hK⟩ := nm_K hts
  have hl := lv_entry ([.ref b]) (n := 8) (Nat.le_of_ble_eq_true rfl)
  rw [lg_entry_eq]
  generalize (lg_sl ([.ref b]) ++ List.replicate (8 - (lg_sl ([.ref b])).length) Slot.unset).toArray = ls at hl ⊢
  exact h D dA hK s.heap [] ls (fun k q hk => by simp [px_trH] at hk) va_S.rf hl
end nm_s1
