section nm_s4
variable {p : Program} {l : Launch} {e : Env} {s : State} {m : MethodId} {below : List Frame} {meth : Method} {c : Code} {b : Nat} {xs : Nat → Int32} {D : va_G} {dA : Nat → ClassId}
theorem nm_sp36 (C0 : lw_At p s m meth c b 6 xs) (hK : va_K D nm_cl (px_tys nm_T dA) s) {lv : List (Nat × Value)} {st : List Value} {hp : px_H} (hA : ab_s xs nm_A0 lv st hp) : nm_G p l e s m below meth c b D dA (1508, lv, st, hp, 106, 103614) := by
  sorry
theorem nm_sp37 (C0 : lw_At p s m meth c b 6 xs) (hK : va_K D nm_cl (px_tys nm_T dA) s) {lv : List (Nat × Value)} {st : List Value} {hp : px_H} (hA : ab_s xs nm_A0 lv st hp) : nm_G p l e s m below meth c b D dA (1545, lv, st, hp, 106, 103614) := by
  sorry
theorem nm_sp42 (C0 : lw_At p s m meth c b 6 xs) (hK : va_K D nm_cl (px_tys nm_T dA) s) {lv : List (Nat × Value)} {st : List Value} {hp : px_H} (hA : ab_s xs nm_A0 lv st hp) : nm_G p l e s m below meth c b D dA (1658, lv, st, hp, 106, 103614) := by
  sorry
set_option maxHeartbeats 4000000 in
theorem nm_case (C0 : lw_At p s m meth c b 6 xs) (hK : va_K D nm_cl (px_tys nm_T dA) s) (pc' : Nat) (hm : pc' ∈ nm_pcs) {lv : List (Nat × Value)} {st : List Value} {hp : px_H} (hA : ab_s xs nm_A0 lv st hp) : nm_G p l e s m below meth c b D dA (pc', lv, st, hp, 106, 103614) := by
  simp only [nm_pcs, List.mem_cons, List.not_mem_nil, or_false] at hm
  rcases hm with rfl | rfl | rfl | rfl | rfl | rfl | rfl | rfl | rfl | rfl | rfl | rfl | rfl | rfl | rfl | rfl | rfl | rfl | rfl | rfl | rfl | rfl | rfl | rfl | rfl | rfl | rfl | rfl | rfl | rfl | rfl | rfl | rfl | rfl | rfl | rfl | rfl | rfl | rfl | rfl | rfl | rfl | rfl
  · exact nm_G_chk C0 hK nm_ck0 hA (fun _ _ _ _ h => absurd h List.not_mem_nil)
  · exact nm_G_chk C0 hK nm_ck1 hA (fun _ _ _ _ h => absurd h List.not_mem_nil)
  · exact nm_G_chk C0 hK nm_ck2 hA (fun _ _ _ _ h => absurd h List.not_mem_nil)
  · exact nm_G_chk C0 hK nm_ck3 hA (fun _ _ _ _ h => absurd h List.not_mem_nil)
  · exact nm_G_chk C0 hK nm_ck4 hA (fun _ _ _ _ h => absurd h List.not_mem_nil)
  · exact nm_G_chk C0 hK nm_ck5 hA (fun _ _ _ _ h => absurd h List.not_mem_nil)
  · exact nm_G_chk C0 hK nm_ck6 hA (fun _ _ _ _ h => absurd h List.not_mem_nil)
  · exact nm_G_chk C0 hK nm_ck7 hA (fun _ _ _ _ h => absurd h List.not_mem_nil)
  · exact nm_G_chk C0 hK nm_ck8 hA (fun _ _ _ _ h => absurd h List.not_mem_nil)
  · exact nm_G_chk C0 hK nm_ck9 hA (fun _ _ _ _ h => absurd h List.not_mem_nil)
  · exact nm_G_chk C0 hK nm_ck10 hA (fun _ _ _ _ h => absurd h List.not_mem_nil)
  · exact nm_G_chk C0 hK nm_ck11 hA (fun _ _ _ _ h => absurd h List.not_mem_nil)
  · exact nm_G_chk C0 hK nm_ck12 hA (fun _ _ _ _ h => absurd h List.not_mem_nil)
  · exact nm_G_chk C0 hK nm_ck13 hA (fun _ _ _ _ h => absurd h List.not_mem_nil)
  · exact nm_G_chk C0 hK nm_ck14 hA (fun _ _ _ _ h => absurd h List.not_mem_nil)
  · exact nm_G_chk C0 hK nm_ck15 hA (fun _ _ _ _ h => absurd h List.not_mem_nil)
  · exact nm_G_chk C0 hK nm_ck16 hA (fun _ _ _ _ h => absurd h List.not_mem_nil)
  · exact nm_G_chk C0 hK nm_ck17 hA (fun _ _ _ _ h => absurd h List.not_mem_nil)
  · exact nm_G_chk C0 hK nm_ck18 hA (fun _ _ _ _ h => absurd h List.not_mem_nil)
  · exact nm_G_chk C0 hK nm_ck19 hA (fun _ _ _ _ h => absurd h List.not_mem_nil)
  · exact nm_G_chk C0 hK nm_ck20 hA (fun _ _ _ _ h => absurd h List.not_mem_nil)
  · exact nm_G_chk C0 hK nm_ck21 hA (fun _ _ _ _ h => absurd h List.not_mem_nil)
  · exact nm_G_chk C0 hK nm_ck22 hA (fun _ _ _ _ h => absurd h List.not_mem_nil)
  · exact nm_G_chk C0 hK nm_ck23 hA (fun _ _ _ _ h => absurd h List.not_mem_nil)
  · exact nm_G_chk C0 hK nm_ck24 hA (fun _ _ _ _ h => absurd h List.not_mem_nil)
  · exact nm_G_chk C0 hK nm_ck25 hA (fun _ _ _ _ h => absurd h List.not_mem_nil)
  · exact nm_G_chk C0 hK nm_ck26 hA (fun _ _ _ _ h => absurd h List.not_mem_nil)
  · exact nm_G_chk C0 hK nm_ck27 hA (fun _ _ _ _ h => absurd h List.not_mem_nil)
  · exact nm_G_chk C0 hK nm_ck28 hA (fun _ _ _ _ h => absurd h List.not_mem_nil)
  · exact nm_G_chk C0 hK nm_ck29 hA (fun _ _ _ _ h => absurd h List.not_mem_nil)
  · exact nm_G_chk C0 hK nm_ck30 hA (fun _ _ _ _ h => absurd h List.not_mem_nil)
  · exact nm_G_chk C0 hK nm_ck31 hA (fun _ _ _ _ h => absurd h List.not_mem_nil)
  · exact nm_G_chk C0 hK nm_ck32 hA (fun _ _ _ _ h => absurd h List.not_mem_nil)
  · exact nm_G_chk C0 hK nm_ck33 hA (fun _ _ _ _ h => absurd h List.not_mem_nil)
  · exact nm_G_chk C0 hK nm_ck34 hA (fun _ _ _ _ h => absurd h List.not_mem_nil)
  · exact nm_G_chk C0 hK nm_ck35 hA (fun _ _ _ _ h => absurd h List.not_mem_nil)
  · exact nm_sp36 C0 hK hA
  · exact nm_sp37 C0 hK hA
  · exact nm_G_chk C0 hK nm_ck38 hA (fun _ _ _ _ h => absurd h List.not_mem_nil)
  · exact nm_G_chk C0 hK nm_ck39 hA (fun _ _ _ _ h => absurd h List.not_mem_nil)
  · exact nm_G_chk C0 hK nm_ck40 hA (fun _ _ _ _ h => absurd h List.not_mem_nil)
  · exact nm_G_chk C0 hK nm_ck41 hA (fun _ _ _ _ h => absurd h List.not_mem_nil)
  · exact nm_sp42 C0 hK hA
end nm_s4
theorem whole_start {p : Program} {e : Env} {s : State} {m : MethodId} {below : List Frame} {meth : Method} {c : Code} (l : Launch) {b L : Nat} {xs : Nat → Int32} (hL : L ≤ 6) (C0 : lw_At p s m meth c b L xs) : W p l e room_1 s m #[Value.ref b] below meth c s.heap [] 0 0 (lw_Z below #[Value.ref b] s) (entryFrame m ([Value.ref b] : List Value).toArray 8) := by
  refine nm_start l hL C0 (fun D dA hK => nm_G_steps C0 hK 400 13 _ _ (nm_c0 _) ?_)
  have hA := nm_A0_ok xs
  have h7 : L = 0 ∨ L = 1 ∨ L = 2 ∨ L = 3 ∨ L = 4 ∨ L = 5 ∨ L = 6 := by omega
  rcases h7 with rfl | rfl | rfl | rfl | rfl | rfl | rfl
  · exact nm_G_chk C0 hK nm_ckL0 hA (fun _ _ _ _ h => absurd h List.not_mem_nil)
  · exact nm_G_chk C0 hK nm_ckL1 hA (fun _ _ _ _ h => absurd h List.not_mem_nil)
  · exact nm_G_chk C0 hK nm_ckL2 hA (fun _ _ _ _ h => absurd h List.not_mem_nil)
  · exact nm_G_chk C0 hK nm_ckL3 hA (fun _ _ _ _ h => absurd h List.not_mem_nil)
  · exact nm_G_chk C0 hK nm_ckL4 hA (fun _ _ _ _ h => absurd h List.not_mem_nil)
  · exact nm_G_chk C0 hK nm_ckL5 hA (fun _ _ _ _ h => absurd h List.not_mem_nil)
  · exact nm_G_chk C0 hK nm_ckm hA (fun pc' lv' st' hp' hm hA' => nm_case C0 hK pc' hm hA')
