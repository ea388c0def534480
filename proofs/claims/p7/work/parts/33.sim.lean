section px_s4
variable {l : Launch} {base b : Nat} {D : va_G} {cl : List vw_C} {T : px_T} {dA : Nat → ClassId} {P : List px_M} {ALL EXT : List Cond} {host : String} {ow : List String} {mf : List (Nat × Nat × Nat)}
/-- the method's end -/
theorem px_sim_ret {p : Program} {e : Env} {s : State} {m : MethodId} {args : Array Value} {below : List Frame} {meth : Method} {c : Code} {H : Heap} {locs : List Loc} {M : px_M} {X : Option (Nat × (Nat → Int32))} {call : Nat → List Value → px_H → Option px_A} {pc nc ns N0 : Nat} {lv : List (Nat × Value)} {st : List Value} {hp hp' : px_H} {r : Option Value} {ls : Array Slot} {mc ms : Nat}
    (hx : p.tables.exec = Jvm.exec) (hb : c.code = px_by M) (hr : meth.sig.returnType = px_rt M) (hlocks : meth.locks = false)
    (hok : px_okC M = true) (hmc : (px_rm M).cells = mc) (hms : (px_rm M).slots = ms)
    (hs : px_step T X P call M N0 (pc, lv, st, hp, nc, ns) = some (.inr (r, hp'))) (hR : px_Rel base b D cl dA hp H) (hS : va_S (fun q => base ≤ q) s.heap H locs) :
    W p l e (px_rm M) s m args below meth c H locs nc ns (MQ below (px_Qc base b D cl dA r hp') args s mc ms (fun q => base ≤ q)) (F0 m pc ls (st.map (px_tr base b))) := by
  subst hmc
  subst hms
  simp only [px_step] at hs
  split at hs
  · cases hs
  rename_i len i hf
  have hI := List.all_eq_true.mp hok _ (px_find_mem hf)
  simp only [Bool.and_eq_true, decide_eq_true_eq] at hI
  obtain ⟨hd, hoi⟩ := hI
  split at hs
  · cases hs
  rename_i ha
  cases i
  case ireturn =>
    have hlen : len = 1 := of_decide_eq_true hoi
    subst hlen
    simp only at hs
    split at hs
    · rename_i v ty h1 h2 h3
      split at hs
      · rename_i hz
        cases hs
        refine W.widen (of_decide_eq_true h2) (of_decide_eq_true h3) ?_
        refine W.zret (ty := ty) hx hb (by rw [hr, h1]) ?_ (fun t ht hW => ⟨rfl, by rw [ht]; exact hR, by rw [ht]; exact hS.1, fun q q1 q2 => by rw [ht]; exact hS.2.1 q q1 q2⟩) hS.2.2 hd
        unfold px_zr at hz
        split at hz
        · rfl
        · simp only [Bool.or_eq_true, decide_eq_true_eq] at hz
          rcases hz with rfl | rfl <;> rfl
        · cases hz
      · cases hs
    · cases hs
  case lreturn =>
    have hlen : len = 1 := of_decide_eq_true hoi
    subst hlen
    simp only at hs
    split at hs
    · rename_i v h1 h2 h3
      cases hs
      refine W.widen (of_decide_eq_true h2) (of_decide_eq_true h3) ?_
      exact W.lret hx hb (by rw [hr, h1]) (fun t ht hW => ⟨rfl, by rw [ht]; exact hR, by rw [ht]; exact hS.1, fun q q1 q2 => by rw [ht]; exact hS.2.1 q q1 q2⟩) hS.2.2 hd
    · cases hs
  case return_ =>
    have hlen : len = 1 := of_decide_eq_true hoi
    subst hlen
    simp only at hs
    split at hs
    · rename_i h1 h2 h3
      cases hs
      refine W.widen (of_decide_eq_true h2) (of_decide_eq_true h3) ?_
      exact W.vret hx hb (by rw [hr, h1]) (fun t ht hW => ⟨rfl, by rw [ht]; exact hR, by rw [ht]; exact hS.1, fun q q1 q2 => by rw [ht]; exact hS.2.1 q q1 q2⟩) hS.2.2 hd
    · cases hs
  all_goals
    exfalso
    revert hs
    try simp only []
    repeat' split
    all_goals first | (intro h; cases h; done) | (simp; done) | (intro h; simp only [Option.map_eq_some_iff] at h; obtain ⟨_, _, h⟩ := h; cases h; done)
/-- what stands fast of the program -/
def px_Wd (ow : List String) (cl : List vw_C) (T : px_T) (P : List px_M) (ALL EXT : List Cond) (host : String) (mf : List (Nat × Nat × Nat)) (M : px_M) : Prop :=
  ∃ (CW CE : List px_Cw) (o kM cM : Nat), px_okM cl T P CW CE mf o kM cM M = true ∧ (∀ q ∈ CW, px_w ow cl T P host q ∈ ALL) ∧ (∀ q ∈ CE, px_w ow cl T P host q ∈ EXT) ∧ ow.getD o "" = (px_nm M).cls ∧ (kM = 2 → (px_nm M).name = "<init>" ∧ ∀ (C : String) (F : u_T) (N9 : Nat), cl[cM]? = some (C, F, N9) → C = (px_nm M).cls)
def px_Ok (ow : List String) (cl : List vw_C) (T : px_T) (P : List px_M) (ALL EXT : List Cond) (host : String) (mf : List (Nat × Nat × Nat)) : Prop :=
  (∀ M ∈ P, px_Wd ow cl T P ALL EXT host mf M ∧ plainName (px_nm M).cls = true) ∧ (px_okK cl T ALL ∧ (∀ ci : Nat, cl[ci]? = none → T.2[ci]? = none) ∧ px_Mf cl P mf) ∧ (∀ w ∈ ALL, (w.onTables && w.keeps) = true ∨ ∃ ty, w = .arrayClass ty) ∧ ∀ w ∈ EXT, px_isX w = true
theorem px_run_sim {p : Program} {e : Env} {s : State} {m : MethodId} {args : Array Value} {below : List Frame} {meth : Method} {c : Code} {M : px_M} {Ts : List Cond} {call : Nat → List Value → px_H → Option px_A} {N0 : Nat} {r : Option Value} {hp' : px_H}
    (hx : p.tables.exec = Jvm.exec) (hb : c.code = px_by M) (hml : c.maxLocals = px_ml M) (hown : s.vm.findClass (px_nm M).cls = some m.cls) (hts : ∀ w ∈ Ts, w.before args s = true) (hK : va_K D cl (px_tys T dA) s) (hE : px_Ex EXT s) (hnm : meth.name = (px_nm M).name)
    (hr : meth.sig.returnType = px_rt M) (hlocks : meth.locks = false)
    (hok : px_Wd ow cl T P ALL EXT host mf M) (hOk : px_Ok ow cl T P ALL EXT host mf) (hall : ∀ w ∈ ALL, w ∈ Ts)
    (hcall : ∀ mi N av hp r hp', P[mi]? = some N → call mi av hp = some (r, hp') → px_Met l base b D cl T dA ALL EXT N av hp r hp')
    (hbase : base ≤ s.heap.size) (hN0 : (px_rm M).cells ≠ 0 → s.heap.size = base + N0) :
    ∀ (n : Nat) (S : px_S), px_run T none P call M N0 n S = some (r, hp') → ∀ (H : Heap) (locs : List Loc) (ls : Array Slot), px_Rel base b D cl dA S.2.2.2.1 H → va_S (fun q => base ≤ q) s.heap H locs → lv_has ls (px_ml M) (px_trL base b S.2.1) →
      W p l e (px_rm M) s m args below meth c H locs S.2.2.2.2.1 S.2.2.2.2.2 (MQ below (px_Qc base b D cl dA r hp') args s (px_rm M).cells (px_rm M).slots (fun q => base ≤ q)) (F0 m S.1 ls (S.2.2.1.map (px_tr base b))) := by
  obtain ⟨CW, CE, o, kM, cM, hokM, hCW, hCE, ho, hkM⟩ := hok
  intro n
  induction n with
  | zero => intro S h; cases h
  | succ n ih =>
    intro S h H locs ls hR hS hl
    obtain ⟨pc, lv, st, hp, nc, ns⟩ := S
    unfold px_run at h
    split at h
    · cases h
    · rename_i s' hs
      exact px_sim hx hb hml hown hts hK hE hOk.2.2.2 (fun _ => hnm) hokM hCW hCE ho hOk.2.1.2.2 hkM hOk.2.1.1 hOk.2.1.2.1 hall hOk.2.2.1 rfl hcall (fun x hx => by cases hx) hbase hN0 hs hR hS hl (fun H' locs' ls' hR' hS' hl' => ih s' h H' locs' ls' hR' hS' hl')
    · rename_i r9 hs
      cases h
      have hokC : px_okC M = true := by
        have := hokM
        simp only [px_okM, Bool.and_eq_true] at this
        exact this.1
      exact px_sim_ret hx hb hr hlocks hokC rfl rfl hs hR hS
/-- a pure call is a contract of the machine -/
theorem px_call_sim {Spc : Nat → List Value → px_H → Option px_A} (hOk : px_Ok ow cl T P ALL EXT host mf) (hSpc : ∀ mi N av hp r hp', P[mi]? = some N → Spc mi av hp = some (r, hp') → px_Met l base b D cl T dA ALL EXT N av hp r hp') :
    ∀ (n mi : Nat) (N : px_M) (av : List Value) (hp : px_H) (r : Option Value) (hp' : px_H), P[mi]? = some N → px_call T P Spc n mi av hp = some (r, hp') → px_Met l base b D cl T dA ALL EXT N av hp r hp' := by
  intro n
  induction n with
  | zero => intro mi N av hp r hp' _ h; cases h
  | succ n ih =>
    intro mi N av hp r hp' hN h
    unfold px_call at h
    split at h
    · rename_i r9 hs
      cases h
      exact hSpc mi N av hp _ _ hN hs
    rw [hN] at h
    simp only at h
    split at h
    · cases h
    · rename_i hlen
      obtain ⟨hok, hpl⟩ := hOk.1 N (List.mem_of_getElem? hN)
      refine Met.ofW (cc := px_by N) (maxL := px_ml N) (ret := px_rt N) hpl rfl ?_
      intro p e s m args below meth c s₁ B hml hv
      obtain ⟨rfl, hR, hK, hE, hbase, hN0⟩ := hv
      have hts := atoms_spec (ws := px_ws ALL N) B.pre
      have hl := lv_entry (av.map (px_tr base b)) (n := px_ml N) (by rw [px_lg_sl]; exact of_decide_eq_true hlen)
      rw [lg_entry_eq]
      generalize (lg_sl (av.map (px_tr base b)) ++ List.replicate (px_ml N - (lg_sl (av.map (px_tr base b))).length) Slot.unset).toArray = ls at hl ⊢
      rw [px_lv_args] at hl
      exact px_run_sim (Ts := px_ws ALL N) B.exec B.bytes hml (findClass_of_methodNamed B.named) hts hK hE (name_of_methodNamed B.named B.method).1 B.returns B.notSynchronized hok hOk (fun w hw => List.mem_cons_of_mem _ hw) (fun mi N av hp r hp' h1 h2 => ih mi N av hp r hp' h1 h2) hbase hN0 n _ h s.heap [] ls hR va_S.rf hl
end px_s4
