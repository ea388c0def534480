theorem nm_CE_X : ∀ q ∈ nm_CE, nm_w q ∈ nm_EXT := fun q h => List.mem_filter.mpr ⟨nm_CE_in q h, nm_w_X q h⟩
theorem nm_C0_k : ∀ q ∈ nm_C0, q.1 ≠ 20 ∧ q.1 ≠ 21 := by decide +kernel
theorem nm_C0_A : ∀ q ∈ nm_C0, nm_w q ∈ nm_ALL := fun q h => List.mem_filter.mpr ⟨nm_C0_in q h, nm_w_good q (nm_C0_k q h)⟩
theorem nm_C1_k : ∀ q ∈ nm_C1, q.1 ≠ 20 ∧ q.1 ≠ 21 := by decide +kernel
theorem nm_C1_A : ∀ q ∈ nm_C1, nm_w q ∈ nm_ALL := fun q h => List.mem_filter.mpr ⟨nm_C1_in q h, nm_w_good q (nm_C1_k q h)⟩
theorem nm_C2_k : ∀ q ∈ nm_C2, q.1 ≠ 20 ∧ q.1 ≠ 21 := by decide +kernel
theorem nm_C2_A : ∀ q ∈ nm_C2, nm_w q ∈ nm_ALL := fun q h => List.mem_filter.mpr ⟨nm_C2_in q h, nm_w_good q (nm_C2_k q h)⟩
theorem nm_C3_k : ∀ q ∈ nm_C3, q.1 ≠ 20 ∧ q.1 ≠ 21 := by decide +kernel
theorem nm_C3_A : ∀ q ∈ nm_C3, nm_w q ∈ nm_ALL := fun q h => List.mem_filter.mpr ⟨nm_C3_in q h, nm_w_good q (nm_C3_k q h)⟩
theorem nm_C4_k : ∀ q ∈ nm_C4, q.1 ≠ 20 ∧ q.1 ≠ 21 := by decide +kernel
theorem nm_C4_A : ∀ q ∈ nm_C4, nm_w q ∈ nm_ALL := fun q h => List.mem_filter.mpr ⟨nm_C4_in q h, nm_w_good q (nm_C4_k q h)⟩
theorem nm_C5_k : ∀ q ∈ nm_C5, q.1 ≠ 20 ∧ q.1 ≠ 21 := by decide +kernel
theorem nm_C5_A : ∀ q ∈ nm_C5, nm_w q ∈ nm_ALL := fun q h => List.mem_filter.mpr ⟨nm_C5_in q h, nm_w_good q (nm_C5_k q h)⟩
theorem nm_C6_k : ∀ q ∈ nm_C6, q.1 ≠ 20 ∧ q.1 ≠ 21 := by decide +kernel
theorem nm_C6_A : ∀ q ∈ nm_C6, nm_w q ∈ nm_ALL := fun q h => List.mem_filter.mpr ⟨nm_C6_in q h, nm_w_good q (nm_C6_k q h)⟩
theorem nm_C7_k : ∀ q ∈ nm_C7, q.1 ≠ 20 ∧ q.1 ≠ 21 := by decide +kernel
theorem nm_C7_A : ∀ q ∈ nm_C7, nm_w q ∈ nm_ALL := fun q h => List.mem_filter.mpr ⟨nm_C7_in q h, nm_w_good q (nm_C7_k q h)⟩
theorem nm_C8_k : ∀ q ∈ nm_C8, q.1 ≠ 20 ∧ q.1 ≠ 21 := by decide +kernel
theorem nm_C8_A : ∀ q ∈ nm_C8, nm_w q ∈ nm_ALL := fun q h => List.mem_filter.mpr ⟨nm_C8_in q h, nm_w_good q (nm_C8_k q h)⟩
theorem nm_C9_k : ∀ q ∈ nm_C9, q.1 ≠ 20 ∧ q.1 ≠ 21 := by decide +kernel
theorem nm_C9_A : ∀ q ∈ nm_C9, nm_w q ∈ nm_ALL := fun q h => List.mem_filter.mpr ⟨nm_C9_in q h, nm_w_good q (nm_C9_k q h)⟩
theorem nm_C10_k : ∀ q ∈ nm_C10, q.1 ≠ 20 ∧ q.1 ≠ 21 := by decide +kernel
theorem nm_C10_A : ∀ q ∈ nm_C10, nm_w q ∈ nm_ALL := fun q h => List.mem_filter.mpr ⟨nm_C10_in q h, nm_w_good q (nm_C10_k q h)⟩
theorem nm_C11_k : ∀ q ∈ nm_C11, q.1 ≠ 20 ∧ q.1 ≠ 21 := by decide +kernel
theorem nm_C11_A : ∀ q ∈ nm_C11, nm_w q ∈ nm_ALL := fun q h => List.mem_filter.mpr ⟨nm_C11_in q h, nm_w_good q (nm_C11_k q h)⟩
abbrev nm_Wd : px_M → Prop := px_Wd nm_ow nm_cl nm_T nm_P nm_ALL nm_EXT "NamesInBags" nm_mf
abbrev nm_Mq (q : px_M × Nat × Nat × Nat) : Prop :=
    ((px_nm q.1).cls ≠ "java/lang/invoke/MethodHandle" ∧ (px_nm q.1).cls ≠ "java/lang/invoke/VarHandle" ∧ (parseMethodDescriptor (px_nm q.1).desc).map (fun d => d.parameters.length) = some q.2.2.1) ∧
    (q.2.1 = 1 → ∀ (C : String) (F : u_T) (N9 : Nat), nm_cl[q.2.2.2]? = some (C, F, N9) → C = (px_nm q.1).cls) ∧ (q.2.1 = 2 → (px_nm q.1).name = "<init>" ∧ px_rt q.1 = none ∧ ∀ (C : String) (F : u_T) (N9 : Nat), nm_cl[q.2.2.2]? = some (C, F, N9) → C = (px_nm q.1).cls)
theorem nm_wd_m0 : nm_Wd nm_m0 := ⟨nm_C0, nm_CE, 0, 2, 0, nm_ok_m0, nm_C0_A, nm_CE_X, rfl, fun _ => ⟨rfl, fun C F N9 h => by cases h; rfl⟩⟩
theorem nm_g0 : nm_Mq (nm_m0, 2, 0, 0) := ⟨nm_f0.2.1, (fun h => absurd h (by decide)), (fun _ => ⟨rfl, rfl, fun C F N9 h => by cases h; rfl⟩)⟩
theorem nm_wd_m1 : nm_Wd nm_m1 := ⟨nm_C0, nm_CE, 0, 0, 0, nm_ok_m1, nm_C0_A, nm_CE_X, rfl, (fun h => absurd h (by decide))⟩
theorem nm_g1 : nm_Mq (nm_m1, 1, 1, 0) := ⟨nm_f1.2.1, (fun _ C F N9 h => by cases h; rfl), (fun h => absurd h (by decide))⟩
theorem nm_wd_m2 : nm_Wd nm_m2 := ⟨nm_C0, nm_CE, 0, 0, 0, nm_ok_m2, nm_C0_A, nm_CE_X, rfl, (fun h => absurd h (by decide))⟩
theorem nm_g2 : nm_Mq (nm_m2, 1, 2, 0) := ⟨nm_f2.2.1, (fun _ C F N9 h => by cases h; rfl), (fun h => absurd h (by decide))⟩
theorem nm_wd_m3 : nm_Wd nm_m3 := ⟨nm_C0, nm_CE, 0, 0, 0, nm_ok_m3, nm_C0_A, nm_CE_X, rfl, (fun h => absurd h (by decide))⟩
theorem nm_g3 : nm_Mq (nm_m3, 1, 2, 0) := ⟨nm_f3.2.1, (fun _ C F N9 h => by cases h; rfl), (fun h => absurd h (by decide))⟩
theorem nm_wd_m4 : nm_Wd nm_m4 := ⟨nm_C0, nm_CE, 0, 0, 0, nm_ok_m4, nm_C0_A, nm_CE_X, rfl, (fun h => absurd h (by decide))⟩
theorem nm_g4 : nm_Mq (nm_m4, 1, 2, 0) := ⟨nm_f4.2.1, (fun _ C F N9 h => by cases h; rfl), (fun h => absurd h (by decide))⟩
theorem nm_wd_m5 : nm_Wd nm_m5 := ⟨nm_C0, nm_CE, 0, 0, 0, nm_ok_m5, nm_C0_A, nm_CE_X, rfl, (fun h => absurd h (by decide))⟩
theorem nm_g5 : nm_Mq (nm_m5, 1, 1, 0) := ⟨nm_f5.2.1, (fun _ C F N9 h => by cases h; rfl), (fun h => absurd h (by decide))⟩
theorem nm_wd_m6 : nm_Wd nm_m6 := ⟨nm_C1, nm_CE, 1, 0, 1, nm_ok_m6, nm_C1_A, nm_CE_X, rfl, (fun h => absurd h (by decide))⟩
theorem nm_g6 : nm_Mq (nm_m6, 1, 1, 1) := ⟨nm_f6.2.1, (fun _ C F N9 h => by cases h; rfl), (fun h => absurd h (by decide))⟩
theorem nm_wd_m7 : nm_Wd nm_m7 := ⟨nm_C1, nm_CE, 1, 0, 1, nm_ok_m7, nm_C1_A, nm_CE_X, rfl, (fun h => absurd h (by decide))⟩
theorem nm_g7 : nm_Mq (nm_m7, 1, 2, 1) := ⟨nm_f7.2.1, (fun _ C F N9 h => by cases h; rfl), (fun h => absurd h (by decide))⟩
theorem nm_wd_m8 : nm_Wd nm_m8 := ⟨nm_C1, nm_CE, 1, 0, 1, nm_ok_m8, nm_C1_A, nm_CE_X, rfl, (fun h => absurd h (by decide))⟩
theorem nm_g8 : nm_Mq (nm_m8, 1, 3, 1) := ⟨nm_f8.2.1, (fun _ C F N9 h => by cases h; rfl), (fun h => absurd h (by decide))⟩
theorem nm_wd_m9 : nm_Wd nm_m9 := ⟨nm_C1, nm_CE, 1, 0, 1, nm_ok_m9, nm_C1_A, nm_CE_X, rfl, (fun h => absurd h (by decide))⟩
theorem nm_g9 : nm_Mq (nm_m9, 1, 1, 1) := ⟨nm_f9.2.1, (fun _ C F N9 h => by cases h; rfl), (fun h => absurd h (by decide))⟩
theorem nm_wd_m10 : nm_Wd nm_m10 := ⟨nm_C0, nm_CE, 0, 0, 0, nm_ok_m10, nm_C0_A, nm_CE_X, rfl, (fun h => absurd h (by decide))⟩
theorem nm_g10 : nm_Mq (nm_m10, 1, 1, 0) := ⟨nm_f10.2.1, (fun _ C F N9 h => by cases h; rfl), (fun h => absurd h (by decide))⟩
theorem nm_wd_m11 : nm_Wd nm_m11 := ⟨nm_C2, nm_CE, 2, 0, 0, nm_ok_m11, nm_C2_A, nm_CE_X, rfl, (fun h => absurd h (by decide))⟩
theorem nm_g11 : nm_Mq (nm_m11, 0, 1, 0) := ⟨nm_f11.2.1, (fun h => absurd h (by decide)), (fun h => absurd h (by decide))⟩
theorem nm_wd_m12 : nm_Wd nm_m12 := ⟨nm_C0, nm_CE, 0, 0, 0, nm_ok_m12, nm_C0_A, nm_CE_X, rfl, (fun h => absurd h (by decide))⟩
theorem nm_g12 : nm_Mq (nm_m12, 1, 1, 0) := ⟨nm_f12.2.1, (fun _ C F N9 h => by cases h; rfl), (fun h => absurd h (by decide))⟩
theorem nm_wd_m13 : nm_Wd nm_m13 := ⟨nm_C0, nm_CE, 0, 0, 0, nm_ok_m13, nm_C0_A, nm_CE_X, rfl, (fun h => absurd h (by decide))⟩
theorem nm_g13 : nm_Mq (nm_m13, 1, 2, 0) := ⟨nm_f13.2.1, (fun _ C F N9 h => by cases h; rfl), (fun h => absurd h (by decide))⟩
theorem nm_wd_m14 : nm_Wd nm_m14 := ⟨nm_C0, nm_CE, 0, 0, 0, nm_ok_m14, nm_C0_A, nm_CE_X, rfl, (fun h => absurd h (by decide))⟩
theorem nm_g14 : nm_Mq (nm_m14, 1, 1, 0) := ⟨nm_f14.2.1, (fun _ C F N9 h => by cases h; rfl), (fun h => absurd h (by decide))⟩
theorem nm_wd_m15 : nm_Wd nm_m15 := ⟨nm_C3, nm_CE, 3, 2, 3, nm_ok_m15, nm_C3_A, nm_CE_X, rfl, fun _ => ⟨rfl, fun C F N9 h => by cases h; rfl⟩⟩
theorem nm_g15 : nm_Mq (nm_m15, 2, 0, 3) := ⟨nm_f15.2.1, (fun h => absurd h (by decide)), (fun _ => ⟨rfl, rfl, fun C F N9 h => by cases h; rfl⟩)⟩
theorem nm_wd_m16 : nm_Wd nm_m16 := ⟨nm_C1, nm_CE, 1, 2, 1, nm_ok_m16, nm_C1_A, nm_CE_X, rfl, fun _ => ⟨rfl, fun C F N9 h => by cases h; rfl⟩⟩
theorem nm_g16 : nm_Mq (nm_m16, 2, 1, 1) := ⟨nm_f16.2.1, (fun h => absurd h (by decide)), (fun _ => ⟨rfl, rfl, fun C F N9 h => by cases h; rfl⟩)⟩
theorem nm_wd_m17 : nm_Wd nm_m17 := ⟨nm_C1, nm_CE, 1, 0, 1, nm_ok_m17, nm_C1_A, nm_CE_X, rfl, (fun h => absurd h (by decide))⟩
theorem nm_g17 : nm_Mq (nm_m17, 1, 4, 1) := ⟨nm_f17.2.1, (fun _ C F N9 h => by cases h; rfl), (fun h => absurd h (by decide))⟩
theorem nm_wd_m18 : nm_Wd nm_m18 := ⟨nm_C4, nm_CE, 4, 0, 6, nm_ok_m18, nm_C4_A, nm_CE_X, rfl, (fun h => absurd h (by decide))⟩
theorem nm_g18 : nm_Mq (nm_m18, 1, 1, 6) := ⟨nm_f18.2.1, (fun _ C F N9 h => by cases h; rfl), (fun h => absurd h (by decide))⟩
theorem nm_wd_m19 : nm_Wd nm_m19 := ⟨nm_C4, nm_CE, 4, 0, 6, nm_ok_m19, nm_C4_A, nm_CE_X, rfl, (fun h => absurd h (by decide))⟩
theorem nm_g19 : nm_Mq (nm_m19, 1, 1, 6) := ⟨nm_f19.2.1, (fun _ C F N9 h => by cases h; rfl), (fun h => absurd h (by decide))⟩
theorem nm_wd_m20 : nm_Wd nm_m20 := ⟨nm_C4, nm_CE, 4, 0, 6, nm_ok_m20, nm_C4_A, nm_CE_X, rfl, (fun h => absurd h (by decide))⟩
theorem nm_g20 : nm_Mq (nm_m20, 1, 1, 6) := ⟨nm_f20.2.1, (fun _ C F N9 h => by cases h; rfl), (fun h => absurd h (by decide))⟩
theorem nm_wd_m21 : nm_Wd nm_m21 := ⟨nm_C4, nm_CE, 4, 0, 6, nm_ok_m21, nm_C4_A, nm_CE_X, rfl, (fun h => absurd h (by decide))⟩
theorem nm_g21 : nm_Mq (nm_m21, 1, 1, 6) := ⟨nm_f21.2.1, (fun _ C F N9 h => by cases h; rfl), (fun h => absurd h (by decide))⟩
theorem nm_wd_m22 : nm_Wd nm_m22 := ⟨nm_C4, nm_CE, 4, 0, 6, nm_ok_m22, nm_C4_A, nm_CE_X, rfl, (fun h => absurd h (by decide))⟩
theorem nm_g22 : nm_Mq (nm_m22, 1, 1, 6) := ⟨nm_f22.2.1, (fun _ C F N9 h => by cases h; rfl), (fun h => absurd h (by decide))⟩
theorem nm_wd_m23 : nm_Wd nm_m23 := ⟨nm_C1, nm_CE, 1, 0, 1, nm_ok_m23, nm_C1_A, nm_CE_X, rfl, (fun h => absurd h (by decide))⟩
theorem nm_g23 : nm_Mq (nm_m23, 1, 1, 1) := ⟨nm_f23.2.1, (fun _ C F N9 h => by cases h; rfl), (fun h => absurd h (by decide))⟩
theorem nm_wd_m24 : nm_Wd nm_m24 := ⟨nm_C1, nm_CE, 1, 0, 1, nm_ok_m24, nm_C1_A, nm_CE_X, rfl, (fun h => absurd h (by decide))⟩
theorem nm_g24 : nm_Mq (nm_m24, 1, 2, 1) := ⟨nm_f24.2.1, (fun _ C F N9 h => by cases h; rfl), (fun h => absurd h (by decide))⟩
theorem nm_wd_m25 : nm_Wd nm_m25 := ⟨nm_C1, nm_CE, 1, 0, 1, nm_ok_m25, nm_C1_A, nm_CE_X, rfl, (fun h => absurd h (by decide))⟩
theorem nm_g25 : nm_Mq (nm_m25, 1, 3, 1) := ⟨nm_f25.2.1, (fun _ C F N9 h => by cases h; rfl), (fun h => absurd h (by decide))⟩
theorem nm_wd_m26 : nm_Wd nm_m26 := ⟨nm_C5, nm_CE, 5, 2, 2, nm_ok_m26, nm_C5_A, nm_CE_X, rfl, fun _ => ⟨rfl, fun C F N9 h => by cases h; rfl⟩⟩
theorem nm_g26 : nm_Mq (nm_m26, 2, 0, 2) := ⟨nm_f26.2.1, (fun h => absurd h (by decide)), (fun _ => ⟨rfl, rfl, fun C F N9 h => by cases h; rfl⟩)⟩
theorem nm_wd_m27 : nm_Wd nm_m27 := ⟨nm_C5, nm_CE, 5, 0, 2, nm_ok_m27, nm_C5_A, nm_CE_X, rfl, (fun h => absurd h (by decide))⟩
theorem nm_g27 : nm_Mq (nm_m27, 1, 0, 2) := ⟨nm_f27.2.1, (fun _ C F N9 h => by cases h; rfl), (fun h => absurd h (by decide))⟩
theorem nm_wd_m28 : nm_Wd nm_m28 := ⟨nm_C5, nm_CE, 5, 0, 2, nm_ok_m28, nm_C5_A, nm_CE_X, rfl, (fun h => absurd h (by decide))⟩
theorem nm_g28 : nm_Mq (nm_m28, 1, 1, 2) := ⟨nm_f28.2.1, (fun _ C F N9 h => by cases h; rfl), (fun h => absurd h (by decide))⟩
theorem nm_wd_m29 : nm_Wd nm_m29 := ⟨nm_C5, nm_CE, 5, 0, 2, nm_ok_m29, nm_C5_A, nm_CE_X, rfl, (fun h => absurd h (by decide))⟩
theorem nm_g29 : nm_Mq (nm_m29, 1, 1, 2) := ⟨nm_f29.2.1, (fun _ C F N9 h => by cases h; rfl), (fun h => absurd h (by decide))⟩
theorem nm_wd_m30 : nm_Wd nm_m30 := ⟨nm_C3, nm_CE, 3, 0, 3, nm_ok_m30, nm_C3_A, nm_CE_X, rfl, (fun h => absurd h (by decide))⟩
theorem nm_g30 : nm_Mq (nm_m30, 1, 1, 3) := ⟨nm_f30.2.1, (fun _ C F N9 h => by cases h; rfl), (fun h => absurd h (by decide))⟩
theorem nm_wd_m31 : nm_Wd nm_m31 := ⟨nm_C6, nm_CE, 6, 2, 4, nm_ok_m31, nm_C6_A, nm_CE_X, rfl, fun _ => ⟨rfl, fun C F N9 h => by cases h; rfl⟩⟩
theorem nm_g31 : nm_Mq (nm_m31, 2, 0, 4) := ⟨nm_f31.2.1, (fun h => absurd h (by decide)), (fun _ => ⟨rfl, rfl, fun C F N9 h => by cases h; rfl⟩)⟩
theorem nm_wd_m32 : nm_Wd nm_m32 := ⟨nm_C6, nm_CE, 6, 0, 4, nm_ok_m32, nm_C6_A, nm_CE_X, rfl, (fun h => absurd h (by decide))⟩
theorem nm_g32 : nm_Mq (nm_m32, 0, 2, 4) := ⟨nm_f32.2.1, (fun h => absurd h (by decide)), (fun h => absurd h (by decide))⟩
theorem nm_wd_m33 : nm_Wd nm_m33 := ⟨nm_C6, nm_CE, 6, 0, 4, nm_ok_m33, nm_C6_A, nm_CE_X, rfl, (fun h => absurd h (by decide))⟩
theorem nm_g33 : nm_Mq (nm_m33, 1, 0, 4) := ⟨nm_f33.2.1, (fun _ C F N9 h => by cases h; rfl), (fun h => absurd h (by decide))⟩
theorem nm_wd_m34 : nm_Wd nm_m34 := ⟨nm_C6, nm_CE, 6, 0, 4, nm_ok_m34, nm_C6_A, nm_CE_X, rfl, (fun h => absurd h (by decide))⟩
theorem nm_g34 : nm_Mq (nm_m34, 1, 3, 4) := ⟨nm_f34.2.1, (fun _ C F N9 h => by cases h; rfl), (fun h => absurd h (by decide))⟩
theorem nm_wd_m35 : nm_Wd nm_m35 := ⟨nm_C6, nm_CE, 6, 0, 4, nm_ok_m35, nm_C6_A, nm_CE_X, rfl, (fun h => absurd h (by decide))⟩
theorem nm_g35 : nm_Mq (nm_m35, 1, 1, 4) := ⟨nm_f35.2.1, (fun _ C F N9 h => by cases h; rfl), (fun h => absurd h (by decide))⟩
theorem nm_wd_m36 : nm_Wd nm_m36 := ⟨nm_C7, nm_CE, 7, 2, 5, nm_ok_m36, nm_C7_A, nm_CE_X, rfl, fun _ => ⟨rfl, fun C F N9 h => by cases h; rfl⟩⟩
theorem nm_g36 : nm_Mq (nm_m36, 2, 0, 5) := ⟨nm_f36.2.1, (fun h => absurd h (by decide)), (fun _ => ⟨rfl, rfl, fun C F N9 h => by cases h; rfl⟩)⟩
theorem nm_wd_m37 : nm_Wd nm_m37 := ⟨nm_C7, nm_CE, 7, 0, 5, nm_ok_m37, nm_C7_A, nm_CE_X, rfl, (fun h => absurd h (by decide))⟩
theorem nm_g37 : nm_Mq (nm_m37, 1, 1, 5) := ⟨nm_f37.2.1, (fun _ C F N9 h => by cases h; rfl), (fun h => absurd h (by decide))⟩
theorem nm_wd_m38 : nm_Wd nm_m38 := ⟨nm_C7, nm_CE, 7, 0, 5, nm_ok_m38, nm_C7_A, nm_CE_X, rfl, (fun h => absurd h (by decide))⟩
theorem nm_g38 : nm_Mq (nm_m38, 1, 1, 5) := ⟨nm_f38.2.1, (fun _ C F N9 h => by cases h; rfl), (fun h => absurd h (by decide))⟩
theorem nm_wd_m39 : nm_Wd nm_m39 := ⟨nm_C7, nm_CE, 7, 0, 5, nm_ok_m39, nm_C7_A, nm_CE_X, rfl, (fun h => absurd h (by decide))⟩
theorem nm_g39 : nm_Mq (nm_m39, 0, 2, 5) := ⟨nm_f39.2.1, (fun h => absurd h (by decide)), (fun h => absurd h (by decide))⟩
theorem nm_wd_m40 : nm_Wd nm_m40 := ⟨nm_C7, nm_CE, 7, 0, 5, nm_ok_m40, nm_C7_A, nm_CE_X, rfl, (fun h => absurd h (by decide))⟩
theorem nm_g40 : nm_Mq (nm_m40, 1, 0, 5) := ⟨nm_f40.2.1, (fun _ C F N9 h => by cases h; rfl), (fun h => absurd h (by decide))⟩
theorem nm_wd_m41 : nm_Wd nm_m41 := ⟨nm_C4, nm_CE, 4, 2, 6, nm_ok_m41, nm_C4_A, nm_CE_X, rfl, fun _ => ⟨rfl, fun C F N9 h => by cases h; rfl⟩⟩
theorem nm_g41 : nm_Mq (nm_m41, 2, 0, 6) := ⟨nm_f41.2.1, (fun h => absurd h (by decide)), (fun _ => ⟨rfl, rfl, fun C F N9 h => by cases h; rfl⟩)⟩
theorem nm_wd_m42 : nm_Wd nm_m42 := ⟨nm_C4, nm_CE, 4, 0, 6, nm_ok_m42, nm_C4_A, nm_CE_X, rfl, (fun h => absurd h (by decide))⟩
theorem nm_g42 : nm_Mq (nm_m42, 1, 1, 6) := ⟨nm_f42.2.1, (fun _ C F N9 h => by cases h; rfl), (fun h => absurd h (by decide))⟩
theorem nm_wd_m43 : nm_Wd nm_m43 := ⟨nm_C4, nm_CE, 4, 0, 6, nm_ok_m43, nm_C4_A, nm_CE_X, rfl, (fun h => absurd h (by decide))⟩
theorem nm_g43 : nm_Mq (nm_m43, 1, 3, 6) := ⟨nm_f43.2.1, (fun _ C F N9 h => by cases h; rfl), (fun h => absurd h (by decide))⟩
theorem nm_wd_m44 : nm_Wd nm_m44 := ⟨nm_C4, nm_CE, 4, 0, 6, nm_ok_m44, nm_C4_A, nm_CE_X, rfl, (fun h => absurd h (by decide))⟩
theorem nm_g44 : nm_Mq (nm_m44, 1, 0, 6) := ⟨nm_f44.2.1, (fun _ C F N9 h => by cases h; rfl), (fun h => absurd h (by decide))⟩
theorem nm_wd_m45 : nm_Wd nm_m45 := ⟨nm_C4, nm_CE, 4, 0, 6, nm_ok_m45, nm_C4_A, nm_CE_X, rfl, (fun h => absurd h (by decide))⟩
theorem nm_g45 : nm_Mq (nm_m45, 1, 0, 6) := ⟨nm_f45.2.1, (fun _ C F N9 h => by cases h; rfl), (fun h => absurd h (by decide))⟩
theorem nm_wd_m46 : nm_Wd nm_m46 := ⟨nm_C4, nm_CE, 4, 0, 6, nm_ok_m46, nm_C4_A, nm_CE_X, rfl, (fun h => absurd h (by decide))⟩
theorem nm_g46 : nm_Mq (nm_m46, 1, 1, 6) := ⟨nm_f46.2.1, (fun _ C F N9 h => by cases h; rfl), (fun h => absurd h (by decide))⟩
theorem nm_wd_m47 : nm_Wd nm_m47 := ⟨nm_C4, nm_CE, 4, 0, 6, nm_ok_m47, nm_C4_A, nm_CE_X, rfl, (fun h => absurd h (by decide))⟩
theorem nm_g47 : nm_Mq (nm_m47, 1, 1, 6) := ⟨nm_f47.2.1, (fun _ C F N9 h => by cases h; rfl), (fun h => absurd h (by decide))⟩
theorem nm_wd_m48 : nm_Wd nm_m48 := ⟨nm_C8, nm_CE, 8, 2, 7, nm_ok_m48, nm_C8_A, nm_CE_X, rfl, fun _ => ⟨rfl, fun C F N9 h => by cases h; rfl⟩⟩
theorem nm_g48 : nm_Mq (nm_m48, 2, 0, 7) := ⟨nm_f48.2.1, (fun h => absurd h (by decide)), (fun _ => ⟨rfl, rfl, fun C F N9 h => by cases h; rfl⟩)⟩
theorem nm_wd_m49 : nm_Wd nm_m49 := ⟨nm_C8, nm_CE, 8, 0, 7, nm_ok_m49, nm_C8_A, nm_CE_X, rfl, (fun h => absurd h (by decide))⟩
theorem nm_g49 : nm_Mq (nm_m49, 1, 1, 7) := ⟨nm_f49.2.1, (fun _ C F N9 h => by cases h; rfl), (fun h => absurd h (by decide))⟩
theorem nm_wd_m50 : nm_Wd nm_m50 := ⟨nm_C8, nm_CE, 8, 0, 7, nm_ok_m50, nm_C8_A, nm_CE_X, rfl, (fun h => absurd h (by decide))⟩
theorem nm_g50 : nm_Mq (nm_m50, 1, 1, 7) := ⟨nm_f50.2.1, (fun _ C F N9 h => by cases h; rfl), (fun h => absurd h (by decide))⟩
theorem nm_wd_m51 : nm_Wd nm_m51 := ⟨nm_C8, nm_CE, 8, 0, 7, nm_ok_m51, nm_C8_A, nm_CE_X, rfl, (fun h => absurd h (by decide))⟩
theorem nm_g51 : nm_Mq (nm_m51, 1, 2, 7) := ⟨nm_f51.2.1, (fun _ C F N9 h => by cases h; rfl), (fun h => absurd h (by decide))⟩
theorem nm_wd_m52 : nm_Wd nm_m52 := ⟨nm_C8, nm_CE, 8, 0, 7, nm_ok_m52, nm_C8_A, nm_CE_X, rfl, (fun h => absurd h (by decide))⟩
theorem nm_g52 : nm_Mq (nm_m52, 1, 1, 7) := ⟨nm_f52.2.1, (fun _ C F N9 h => by cases h; rfl), (fun h => absurd h (by decide))⟩
theorem nm_wd_m53 : nm_Wd nm_m53 := ⟨nm_C8, nm_CE, 8, 0, 7, nm_ok_m53, nm_C8_A, nm_CE_X, rfl, (fun h => absurd h (by decide))⟩
theorem nm_g53 : nm_Mq (nm_m53, 1, 2, 7) := ⟨nm_f53.2.1, (fun _ C F N9 h => by cases h; rfl), (fun h => absurd h (by decide))⟩
theorem nm_wd_m54 : nm_Wd nm_m54 := ⟨nm_C8, nm_CE, 8, 0, 7, nm_ok_m54, nm_C8_A, nm_CE_X, rfl, (fun h => absurd h (by decide))⟩
theorem nm_g54 : nm_Mq (nm_m54, 1, 1, 7) := ⟨nm_f54.2.1, (fun _ C F N9 h => by cases h; rfl), (fun h => absurd h (by decide))⟩
theorem nm_wd_m55 : nm_Wd nm_m55 := ⟨nm_C8, nm_CE, 8, 0, 7, nm_ok_m55, nm_C8_A, nm_CE_X, rfl, (fun h => absurd h (by decide))⟩
theorem nm_g55 : nm_Mq (nm_m55, 1, 0, 7) := ⟨nm_f55.2.1, (fun _ C F N9 h => by cases h; rfl), (fun h => absurd h (by decide))⟩
theorem nm_wd_m56 : nm_Wd nm_m56 := ⟨nm_C8, nm_CE, 8, 0, 7, nm_ok_m56, nm_C8_A, nm_CE_X, rfl, (fun h => absurd h (by decide))⟩
theorem nm_g56 : nm_Mq (nm_m56, 1, 1, 7) := ⟨nm_f56.2.1, (fun _ C F N9 h => by cases h; rfl), (fun h => absurd h (by decide))⟩
theorem nm_wd_m57 : nm_Wd nm_m57 := ⟨nm_C9, nm_CE, 9, 0, 8, nm_ok_m57, nm_C9_A, nm_CE_X, rfl, (fun h => absurd h (by decide))⟩
theorem nm_g57 : nm_Mq (nm_m57, 0, 2, 8) := ⟨nm_f57.2.1, (fun h => absurd h (by decide)), (fun h => absurd h (by decide))⟩
theorem nm_wd_m58 : nm_Wd nm_m58 := ⟨nm_C8, nm_CE, 8, 0, 7, nm_ok_m58, nm_C8_A, nm_CE_X, rfl, (fun h => absurd h (by decide))⟩
theorem nm_g58 : nm_Mq (nm_m58, 1, 2, 7) := ⟨nm_f58.2.1, (fun _ C F N9 h => by cases h; rfl), (fun h => absurd h (by decide))⟩
theorem nm_wd_m59 : nm_Wd nm_m59 := ⟨nm_C8, nm_CE, 8, 0, 7, nm_ok_m59, nm_C8_A, nm_CE_X, rfl, (fun h => absurd h (by decide))⟩
theorem nm_g59 : nm_Mq (nm_m59, 1, 1, 7) := ⟨nm_f59.2.1, (fun _ C F N9 h => by cases h; rfl), (fun h => absurd h (by decide))⟩
theorem nm_wd_m60 : nm_Wd nm_m60 := ⟨nm_C8, nm_CE, 8, 0, 7, nm_ok_m60, nm_C8_A, nm_CE_X, rfl, (fun h => absurd h (by decide))⟩
theorem nm_g60 : nm_Mq (nm_m60, 1, 1, 7) := ⟨nm_f60.2.1, (fun _ C F N9 h => by cases h; rfl), (fun h => absurd h (by decide))⟩
theorem nm_wd_m61 : nm_Wd nm_m61 := ⟨nm_C8, nm_CE, 8, 0, 7, nm_ok_m61, nm_C8_A, nm_CE_X, rfl, (fun h => absurd h (by decide))⟩
theorem nm_g61 : nm_Mq (nm_m61, 1, 1, 7) := ⟨nm_f61.2.1, (fun _ C F N9 h => by cases h; rfl), (fun h => absurd h (by decide))⟩
theorem nm_wd_m62 : nm_Wd nm_m62 := ⟨nm_C8, nm_CE, 8, 0, 7, nm_ok_m62, nm_C8_A, nm_CE_X, rfl, (fun h => absurd h (by decide))⟩
theorem nm_g62 : nm_Mq (nm_m62, 1, 0, 7) := ⟨nm_f62.2.1, (fun _ C F N9 h => by cases h; rfl), (fun h => absurd h (by decide))⟩
theorem nm_wd_m63 : nm_Wd nm_m63 := ⟨nm_C8, nm_CE, 8, 0, 7, nm_ok_m63, nm_C8_A, nm_CE_X, rfl, (fun h => absurd h (by decide))⟩
theorem nm_g63 : nm_Mq (nm_m63, 1, 0, 7) := ⟨nm_f63.2.1, (fun _ C F N9 h => by cases h; rfl), (fun h => absurd h (by decide))⟩
theorem nm_wd_m64 : nm_Wd nm_m64 := ⟨nm_C8, nm_CE, 8, 0, 7, nm_ok_m64, nm_C8_A, nm_CE_X, rfl, (fun h => absurd h (by decide))⟩
theorem nm_g64 : nm_Mq (nm_m64, 1, 1, 7) := ⟨nm_f64.2.1, (fun _ C F N9 h => by cases h; rfl), (fun h => absurd h (by decide))⟩
theorem nm_wd_m65 : nm_Wd nm_m65 := ⟨nm_C9, nm_CE, 9, 2, 8, nm_ok_m65, nm_C9_A, nm_CE_X, rfl, fun _ => ⟨rfl, fun C F N9 h => by cases h; rfl⟩⟩
theorem nm_g65 : nm_Mq (nm_m65, 2, 0, 8) := ⟨nm_f65.2.1, (fun h => absurd h (by decide)), (fun _ => ⟨rfl, rfl, fun C F N9 h => by cases h; rfl⟩)⟩
theorem nm_wd_m66 : nm_Wd nm_m66 := ⟨nm_C9, nm_CE, 9, 0, 8, nm_ok_m66, nm_C9_A, nm_CE_X, rfl, (fun h => absurd h (by decide))⟩
theorem nm_g66 : nm_Mq (nm_m66, 1, 1, 8) := ⟨nm_f66.2.1, (fun _ C F N9 h => by cases h; rfl), (fun h => absurd h (by decide))⟩
theorem nm_wd_m67 : nm_Wd nm_m67 := ⟨nm_C9, nm_CE, 9, 0, 8, nm_ok_m67, nm_C9_A, nm_CE_X, rfl, (fun h => absurd h (by decide))⟩
theorem nm_g67 : nm_Mq (nm_m67, 0, 1, 8) := ⟨nm_f67.2.1, (fun h => absurd h (by decide)), (fun h => absurd h (by decide))⟩
theorem nm_wd_m68 : nm_Wd nm_m68 := ⟨nm_C9, nm_CE, 9, 0, 8, nm_ok_m68, nm_C9_A, nm_CE_X, rfl, (fun h => absurd h (by decide))⟩
theorem nm_g68 : nm_Mq (nm_m68, 1, 2, 8) := ⟨nm_f68.2.1, (fun _ C F N9 h => by cases h; rfl), (fun h => absurd h (by decide))⟩
theorem nm_wd_m69 : nm_Wd nm_m69 := ⟨nm_C9, nm_CE, 9, 0, 8, nm_ok_m69, nm_C9_A, nm_CE_X, rfl, (fun h => absurd h (by decide))⟩
theorem nm_g69 : nm_Mq (nm_m69, 1, 3, 8) := ⟨nm_f69.2.1, (fun _ C F N9 h => by cases h; rfl), (fun h => absurd h (by decide))⟩
theorem nm_wd_m70 : nm_Wd nm_m70 := ⟨nm_C9, nm_CE, 9, 0, 8, nm_ok_m70, nm_C9_A, nm_CE_X, rfl, (fun h => absurd h (by decide))⟩
theorem nm_g70 : nm_Mq (nm_m70, 1, 2, 8) := ⟨nm_f70.2.1, (fun _ C F N9 h => by cases h; rfl), (fun h => absurd h (by decide))⟩
theorem nm_wd_m71 : nm_Wd nm_m71 := ⟨nm_C9, nm_CE, 9, 0, 8, nm_ok_m71, nm_C9_A, nm_CE_X, rfl, (fun h => absurd h (by decide))⟩
theorem nm_g71 : nm_Mq (nm_m71, 0, 2, 8) := ⟨nm_f71.2.1, (fun h => absurd h (by decide)), (fun h => absurd h (by decide))⟩
theorem nm_wd_m72 : nm_Wd nm_m72 := ⟨nm_C9, nm_CE, 9, 0, 8, nm_ok_m72, nm_C9_A, nm_CE_X, rfl, (fun h => absurd h (by decide))⟩
theorem nm_g72 : nm_Mq (nm_m72, 1, 4, 8) := ⟨nm_f72.2.1, (fun _ C F N9 h => by cases h; rfl), (fun h => absurd h (by decide))⟩
theorem nm_wd_m73 : nm_Wd nm_m73 := ⟨nm_C9, nm_CE, 9, 0, 8, nm_ok_m73, nm_C9_A, nm_CE_X, rfl, (fun h => absurd h (by decide))⟩
theorem nm_g73 : nm_Mq (nm_m73, 0, 1, 8) := ⟨nm_f73.2.1, (fun h => absurd h (by decide)), (fun h => absurd h (by decide))⟩
theorem nm_wd_m74 : nm_Wd nm_m74 := ⟨nm_C9, nm_CE, 9, 0, 8, nm_ok_m74, nm_C9_A, nm_CE_X, rfl, (fun h => absurd h (by decide))⟩
theorem nm_g74 : nm_Mq (nm_m74, 1, 2, 8) := ⟨nm_f74.2.1, (fun _ C F N9 h => by cases h; rfl), (fun h => absurd h (by decide))⟩
theorem nm_wd_m75 : nm_Wd nm_m75 := ⟨nm_C9, nm_CE, 9, 0, 8, nm_ok_m75, nm_C9_A, nm_CE_X, rfl, (fun h => absurd h (by decide))⟩
theorem nm_g75 : nm_Mq (nm_m75, 1, 2, 8) := ⟨nm_f75.2.1, (fun _ C F N9 h => by cases h; rfl), (fun h => absurd h (by decide))⟩
theorem nm_wd_m76 : nm_Wd nm_m76 := ⟨nm_C9, nm_CE, 9, 0, 8, nm_ok_m76, nm_C9_A, nm_CE_X, rfl, (fun h => absurd h (by decide))⟩
theorem nm_g76 : nm_Mq (nm_m76, 1, 3, 8) := ⟨nm_f76.2.1, (fun _ C F N9 h => by cases h; rfl), (fun h => absurd h (by decide))⟩
theorem nm_wd_m77 : nm_Wd nm_m77 := ⟨nm_C9, nm_CE, 9, 0, 8, nm_ok_m77, nm_C9_A, nm_CE_X, rfl, (fun h => absurd h (by decide))⟩
theorem nm_g77 : nm_Mq (nm_m77, 1, 1, 8) := ⟨nm_f77.2.1, (fun _ C F N9 h => by cases h; rfl), (fun h => absurd h (by decide))⟩
theorem nm_wd_m78 : nm_Wd nm_m78 := ⟨nm_C9, nm_CE, 9, 0, 8, nm_ok_m78, nm_C9_A, nm_CE_X, rfl, (fun h => absurd h (by decide))⟩
theorem nm_g78 : nm_Mq (nm_m78, 1, 1, 8) := ⟨nm_f78.2.1, (fun _ C F N9 h => by cases h; rfl), (fun h => absurd h (by decide))⟩
theorem nm_wd_m79 : nm_Wd nm_m79 := ⟨nm_C9, nm_CE, 9, 0, 8, nm_ok_m79, nm_C9_A, nm_CE_X, rfl, (fun h => absurd h (by decide))⟩
theorem nm_g79 : nm_Mq (nm_m79, 1, 1, 8) := ⟨nm_f79.2.1, (fun _ C F N9 h => by cases h; rfl), (fun h => absurd h (by decide))⟩
theorem nm_wd_m80 : nm_Wd nm_m80 := ⟨nm_C9, nm_CE, 9, 0, 8, nm_ok_m80, nm_C9_A, nm_CE_X, rfl, (fun h => absurd h (by decide))⟩
theorem nm_g80 : nm_Mq (nm_m80, 1, 0, 8) := ⟨nm_f80.2.1, (fun _ C F N9 h => by cases h; rfl), (fun h => absurd h (by decide))⟩
theorem nm_wd_m81 : nm_Wd nm_m81 := ⟨nm_C9, nm_CE, 9, 0, 8, nm_ok_m81, nm_C9_A, nm_CE_X, rfl, (fun h => absurd h (by decide))⟩
theorem nm_g81 : nm_Mq (nm_m81, 1, 1, 8) := ⟨nm_f81.2.1, (fun _ C F N9 h => by cases h; rfl), (fun h => absurd h (by decide))⟩
theorem nm_wd_m82 : nm_Wd nm_m82 := ⟨nm_C9, nm_CE, 9, 0, 8, nm_ok_m82, nm_C9_A, nm_CE_X, rfl, (fun h => absurd h (by decide))⟩
theorem nm_g82 : nm_Mq (nm_m82, 1, 0, 8) := ⟨nm_f82.2.1, (fun _ C F N9 h => by cases h; rfl), (fun h => absurd h (by decide))⟩
theorem nm_wd_m83 : nm_Wd nm_m83 := ⟨nm_C9, nm_CE, 9, 0, 8, nm_ok_m83, nm_C9_A, nm_CE_X, rfl, (fun h => absurd h (by decide))⟩
theorem nm_g83 : nm_Mq (nm_m83, 1, 0, 8) := ⟨nm_f83.2.1, (fun _ C F N9 h => by cases h; rfl), (fun h => absurd h (by decide))⟩
theorem nm_wd_m84 : nm_Wd nm_m84 := ⟨nm_C9, nm_CE, 9, 0, 8, nm_ok_m84, nm_C9_A, nm_CE_X, rfl, (fun h => absurd h (by decide))⟩
theorem nm_g84 : nm_Mq (nm_m84, 1, 1, 8) := ⟨nm_f84.2.1, (fun _ C F N9 h => by cases h; rfl), (fun h => absurd h (by decide))⟩
theorem nm_wd_m85 : nm_Wd nm_m85 := ⟨nm_C9, nm_CE, 9, 0, 8, nm_ok_m85, nm_C9_A, nm_CE_X, rfl, (fun h => absurd h (by decide))⟩
theorem nm_g85 : nm_Mq (nm_m85, 1, 1, 8) := ⟨nm_f85.2.1, (fun _ C F N9 h => by cases h; rfl), (fun h => absurd h (by decide))⟩
theorem nm_wd_m86 : nm_Wd nm_m86 := ⟨nm_C9, nm_CE, 9, 0, 8, nm_ok_m86, nm_C9_A, nm_CE_X, rfl, (fun h => absurd h (by decide))⟩
theorem nm_g86 : nm_Mq (nm_m86, 1, 0, 8) := ⟨nm_f86.2.1, (fun _ C F N9 h => by cases h; rfl), (fun h => absurd h (by decide))⟩
theorem nm_wd_m87 : nm_Wd nm_m87 := ⟨nm_C9, nm_CE, 9, 0, 8, nm_ok_m87, nm_C9_A, nm_CE_X, rfl, (fun h => absurd h (by decide))⟩
theorem nm_g87 : nm_Mq (nm_m87, 0, 2, 8) := ⟨nm_f87.2.1, (fun h => absurd h (by decide)), (fun h => absurd h (by decide))⟩
theorem nm_wd_m88 : nm_Wd nm_m88 := ⟨nm_C9, nm_CE, 9, 0, 8, nm_ok_m88, nm_C9_A, nm_CE_X, rfl, (fun h => absurd h (by decide))⟩
theorem nm_g88 : nm_Mq (nm_m88, 0, 2, 8) := ⟨nm_f88.2.1, (fun h => absurd h (by decide)), (fun h => absurd h (by decide))⟩
theorem nm_wd_m89 : nm_Wd nm_m89 := ⟨nm_C9, nm_CE, 9, 0, 8, nm_ok_m89, nm_C9_A, nm_CE_X, rfl, (fun h => absurd h (by decide))⟩
theorem nm_g89 : nm_Mq (nm_m89, 1, 2, 8) := ⟨nm_f89.2.1, (fun _ C F N9 h => by cases h; rfl), (fun h => absurd h (by decide))⟩
theorem nm_wd_m90 : nm_Wd nm_m90 := ⟨nm_C9, nm_CE, 9, 0, 8, nm_ok_m90, nm_C9_A, nm_CE_X, rfl, (fun h => absurd h (by decide))⟩
theorem nm_g90 : nm_Mq (nm_m90, 1, 2, 8) := ⟨nm_f90.2.1, (fun _ C F N9 h => by cases h; rfl), (fun h => absurd h (by decide))⟩
theorem nm_wd_m91 : nm_Wd nm_m91 := ⟨nm_C9, nm_CE, 9, 0, 8, nm_ok_m91, nm_C9_A, nm_CE_X, rfl, (fun h => absurd h (by decide))⟩
theorem nm_g91 : nm_Mq (nm_m91, 1, 2, 8) := ⟨nm_f91.2.1, (fun _ C F N9 h => by cases h; rfl), (fun h => absurd h (by decide))⟩
theorem nm_wd_m92 : nm_Wd nm_m92 := ⟨nm_C9, nm_CE, 9, 0, 8, nm_ok_m92, nm_C9_A, nm_CE_X, rfl, (fun h => absurd h (by decide))⟩
theorem nm_g92 : nm_Mq (nm_m92, 1, 0, 8) := ⟨nm_f92.2.1, (fun _ C F N9 h => by cases h; rfl), (fun h => absurd h (by decide))⟩
theorem nm_wd_m93 : nm_Wd nm_m93 := ⟨nm_C9, nm_CE, 9, 0, 8, nm_ok_m93, nm_C9_A, nm_CE_X, rfl, (fun h => absurd h (by decide))⟩
theorem nm_g93 : nm_Mq (nm_m93, 1, 2, 8) := ⟨nm_f93.2.1, (fun _ C F N9 h => by cases h; rfl), (fun h => absurd h (by decide))⟩
theorem nm_wd_m94 : nm_Wd nm_m94 := ⟨nm_C9, nm_CE, 9, 0, 8, nm_ok_m94, nm_C9_A, nm_CE_X, rfl, (fun h => absurd h (by decide))⟩
theorem nm_g94 : nm_Mq (nm_m94, 1, 1, 8) := ⟨nm_f94.2.1, (fun _ C F N9 h => by cases h; rfl), (fun h => absurd h (by decide))⟩
theorem nm_wd_m95 : nm_Wd nm_m95 := ⟨nm_C9, nm_CE, 9, 0, 8, nm_ok_m95, nm_C9_A, nm_CE_X, rfl, (fun h => absurd h (by decide))⟩
theorem nm_g95 : nm_Mq (nm_m95, 1, 1, 8) := ⟨nm_f95.2.1, (fun _ C F N9 h => by cases h; rfl), (fun h => absurd h (by decide))⟩
theorem nm_wd_m96 : nm_Wd nm_m96 := ⟨nm_C9, nm_CE, 9, 0, 8, nm_ok_m96, nm_C9_A, nm_CE_X, rfl, (fun h => absurd h (by decide))⟩
theorem nm_g96 : nm_Mq (nm_m96, 1, 3, 8) := ⟨nm_f96.2.1, (fun _ C F N9 h => by cases h; rfl), (fun h => absurd h (by decide))⟩
theorem nm_wd_m97 : nm_Wd nm_m97 := ⟨nm_C9, nm_CE, 9, 0, 8, nm_ok_m97, nm_C9_A, nm_CE_X, rfl, (fun h => absurd h (by decide))⟩
theorem nm_g97 : nm_Mq (nm_m97, 1, 2, 8) := ⟨nm_f97.2.1, (fun _ C F N9 h => by cases h; rfl), (fun h => absurd h (by decide))⟩
theorem nm_wd_m98 : nm_Wd nm_m98 := ⟨nm_C9, nm_CE, 9, 0, 8, nm_ok_m98, nm_C9_A, nm_CE_X, rfl, (fun h => absurd h (by decide))⟩
theorem nm_g98 : nm_Mq (nm_m98, 1, 1, 8) := ⟨nm_f98.2.1, (fun _ C F N9 h => by cases h; rfl), (fun h => absurd h (by decide))⟩
theorem nm_wd_m99 : nm_Wd nm_m99 := ⟨nm_C9, nm_CE, 9, 0, 8, nm_ok_m99, nm_C9_A, nm_CE_X, rfl, (fun h => absurd h (by decide))⟩
theorem nm_g99 : nm_Mq (nm_m99, 1, 1, 8) := ⟨nm_f99.2.1, (fun _ C F N9 h => by cases h; rfl), (fun h => absurd h (by decide))⟩
theorem nm_wd_m100 : nm_Wd nm_m100 := ⟨nm_C9, nm_CE, 9, 0, 8, nm_ok_m100, nm_C9_A, nm_CE_X, rfl, (fun h => absurd h (by decide))⟩
theorem nm_g100 : nm_Mq (nm_m100, 1, 1, 8) := ⟨nm_f100.2.1, (fun _ C F N9 h => by cases h; rfl), (fun h => absurd h (by decide))⟩
theorem nm_wd_m101 : nm_Wd nm_m101 := ⟨nm_C9, nm_CE, 9, 0, 8, nm_ok_m101, nm_C9_A, nm_CE_X, rfl, (fun h => absurd h (by decide))⟩
theorem nm_g101 : nm_Mq (nm_m101, 1, 1, 8) := ⟨nm_f101.2.1, (fun _ C F N9 h => by cases h; rfl), (fun h => absurd h (by decide))⟩
theorem nm_wd_m102 : nm_Wd nm_m102 := ⟨nm_C9, nm_CE, 9, 0, 8, nm_ok_m102, nm_C9_A, nm_CE_X, rfl, (fun h => absurd h (by decide))⟩
theorem nm_g102 : nm_Mq (nm_m102, 1, 2, 8) := ⟨nm_f102.2.1, (fun _ C F N9 h => by cases h; rfl), (fun h => absurd h (by decide))⟩
theorem nm_wd_m103 : nm_Wd nm_m103 := ⟨nm_C9, nm_CE, 9, 0, 8, nm_ok_m103, nm_C9_A, nm_CE_X, rfl, (fun h => absurd h (by decide))⟩
theorem nm_g103 : nm_Mq (nm_m103, 1, 1, 8) := ⟨nm_f103.2.1, (fun _ C F N9 h => by cases h; rfl), (fun h => absurd h (by decide))⟩
theorem nm_wd_m104 : nm_Wd nm_m104 := ⟨nm_C9, nm_CE, 9, 0, 8, nm_ok_m104, nm_C9_A, nm_CE_X, rfl, (fun h => absurd h (by decide))⟩
theorem nm_g104 : nm_Mq (nm_m104, 1, 2, 8) := ⟨nm_f104.2.1, (fun _ C F N9 h => by cases h; rfl), (fun h => absurd h (by decide))⟩
theorem nm_wd_m105 : nm_Wd nm_m105 := ⟨nm_C9, nm_CE, 9, 0, 8, nm_ok_m105, nm_C9_A, nm_CE_X, rfl, (fun h => absurd h (by decide))⟩
theorem nm_g105 : nm_Mq (nm_m105, 1, 2, 8) := ⟨nm_f105.2.1, (fun _ C F N9 h => by cases h; rfl), (fun h => absurd h (by decide))⟩
theorem nm_wd_m106 : nm_Wd nm_m106 := ⟨nm_C9, nm_CE, 9, 0, 8, nm_ok_m106, nm_C9_A, nm_CE_X, rfl, (fun h => absurd h (by decide))⟩
theorem nm_g106 : nm_Mq (nm_m106, 1, 0, 8) := ⟨nm_f106.2.1, (fun _ C F N9 h => by cases h; rfl), (fun h => absurd h (by decide))⟩
theorem nm_wd_m107 : nm_Wd nm_m107 := ⟨nm_C9, nm_CE, 9, 0, 8, nm_ok_m107, nm_C9_A, nm_CE_X, rfl, (fun h => absurd h (by decide))⟩
theorem nm_g107 : nm_Mq (nm_m107, 1, 2, 8) := ⟨nm_f107.2.1, (fun _ C F N9 h => by cases h; rfl), (fun h => absurd h (by decide))⟩
theorem nm_wd_m108 : nm_Wd nm_m108 := ⟨nm_C9, nm_CE, 9, 0, 8, nm_ok_m108, nm_C9_A, nm_CE_X, rfl, (fun h => absurd h (by decide))⟩
theorem nm_g108 : nm_Mq (nm_m108, 0, 1, 8) := ⟨nm_f108.2.1, (fun h => absurd h (by decide)), (fun h => absurd h (by decide))⟩
theorem nm_wd_m109 : nm_Wd nm_m109 := ⟨nm_C9, nm_CE, 9, 0, 8, nm_ok_m109, nm_C9_A, nm_CE_X, rfl, (fun h => absurd h (by decide))⟩
theorem nm_g109 : nm_Mq (nm_m109, 1, 3, 8) := ⟨nm_f109.2.1, (fun _ C F N9 h => by cases h; rfl), (fun h => absurd h (by decide))⟩
theorem nm_wd_m110 : nm_Wd nm_m110 := ⟨nm_C9, nm_CE, 9, 0, 8, nm_ok_m110, nm_C9_A, nm_CE_X, rfl, (fun h => absurd h (by decide))⟩
theorem nm_g110 : nm_Mq (nm_m110, 1, 2, 8) := ⟨nm_f110.2.1, (fun _ C F N9 h => by cases h; rfl), (fun h => absurd h (by decide))⟩
theorem nm_wd_m111 : nm_Wd nm_m111 := ⟨nm_C9, nm_CE, 9, 0, 8, nm_ok_m111, nm_C9_A, nm_CE_X, rfl, (fun h => absurd h (by decide))⟩
theorem nm_g111 : nm_Mq (nm_m111, 1, 3, 8) := ⟨nm_f111.2.1, (fun _ C F N9 h => by cases h; rfl), (fun h => absurd h (by decide))⟩
theorem nm_wd_m112 : nm_Wd nm_m112 := ⟨nm_C9, nm_CE, 9, 0, 8, nm_ok_m112, nm_C9_A, nm_CE_X, rfl, (fun h => absurd h (by decide))⟩
theorem nm_g112 : nm_Mq (nm_m112, 1, 5, 8) := ⟨nm_f112.2.1, (fun _ C F N9 h => by cases h; rfl), (fun h => absurd h (by decide))⟩
theorem nm_wd_m113 : nm_Wd nm_m113 := ⟨nm_C9, nm_CE, 9, 0, 8, nm_ok_m113, nm_C9_A, nm_CE_X, rfl, (fun h => absurd h (by decide))⟩
theorem nm_g113 : nm_Mq (nm_m113, 1, 4, 8) := ⟨nm_f113.2.1, (fun _ C F N9 h => by cases h; rfl), (fun h => absurd h (by decide))⟩
theorem nm_wd_m114 : nm_Wd nm_m114 := ⟨nm_C9, nm_CE, 9, 0, 8, nm_ok_m114, nm_C9_A, nm_CE_X, rfl, (fun h => absurd h (by decide))⟩
theorem nm_g114 : nm_Mq (nm_m114, 1, 4, 8) := ⟨nm_f114.2.1, (fun _ C F N9 h => by cases h; rfl), (fun h => absurd h (by decide))⟩
theorem nm_wd_m115 : nm_Wd nm_m115 := ⟨nm_C9, nm_CE, 9, 0, 8, nm_ok_m115, nm_C9_A, nm_CE_X, rfl, (fun h => absurd h (by decide))⟩
theorem nm_g115 : nm_Mq (nm_m115, 1, 2, 8) := ⟨nm_f115.2.1, (fun _ C F N9 h => by cases h; rfl), (fun h => absurd h (by decide))⟩
theorem nm_wd_m116 : nm_Wd nm_m116 := ⟨nm_C9, nm_CE, 9, 0, 8, nm_ok_m116, nm_C9_A, nm_CE_X, rfl, (fun h => absurd h (by decide))⟩
theorem nm_g116 : nm_Mq (nm_m116, 1, 2, 8) := ⟨nm_f116.2.1, (fun _ C F N9 h => by cases h; rfl), (fun h => absurd h (by decide))⟩
theorem nm_wd_m117 : nm_Wd nm_m117 := ⟨nm_C9, nm_CE, 9, 0, 8, nm_ok_m117, nm_C9_A, nm_CE_X, rfl, (fun h => absurd h (by decide))⟩
theorem nm_g117 : nm_Mq (nm_m117, 1, 1, 8) := ⟨nm_f117.2.1, (fun _ C F N9 h => by cases h; rfl), (fun h => absurd h (by decide))⟩
theorem nm_wd_m118 : nm_Wd nm_m118 := ⟨nm_C9, nm_CE, 9, 0, 8, nm_ok_m118, nm_C9_A, nm_CE_X, rfl, (fun h => absurd h (by decide))⟩
theorem nm_g118 : nm_Mq (nm_m118, 1, 0, 8) := ⟨nm_f118.2.1, (fun _ C F N9 h => by cases h; rfl), (fun h => absurd h (by decide))⟩
theorem nm_wd_m119 : nm_Wd nm_m119 := ⟨nm_C9, nm_CE, 9, 0, 8, nm_ok_m119, nm_C9_A, nm_CE_X, rfl, (fun h => absurd h (by decide))⟩
theorem nm_g119 : nm_Mq (nm_m119, 1, 0, 8) := ⟨nm_f119.2.1, (fun _ C F N9 h => by cases h; rfl), (fun h => absurd h (by decide))⟩
theorem nm_wd_m120 : nm_Wd nm_m120 := ⟨nm_C9, nm_CE, 9, 0, 8, nm_ok_m120, nm_C9_A, nm_CE_X, rfl, (fun h => absurd h (by decide))⟩
theorem nm_g120 : nm_Mq (nm_m120, 1, 2, 8) := ⟨nm_f120.2.1, (fun _ C F N9 h => by cases h; rfl), (fun h => absurd h (by decide))⟩
theorem nm_wd_m121 : nm_Wd nm_m121 := ⟨nm_C9, nm_CE, 9, 0, 8, nm_ok_m121, nm_C9_A, nm_CE_X, rfl, (fun h => absurd h (by decide))⟩
theorem nm_g121 : nm_Mq (nm_m121, 1, 0, 8) := ⟨nm_f121.2.1, (fun _ C F N9 h => by cases h; rfl), (fun h => absurd h (by decide))⟩
theorem nm_wd_m122 : nm_Wd nm_m122 := ⟨nm_C9, nm_CE, 9, 0, 8, nm_ok_m122, nm_C9_A, nm_CE_X, rfl, (fun h => absurd h (by decide))⟩
theorem nm_g122 : nm_Mq (nm_m122, 1, 1, 8) := ⟨nm_f122.2.1, (fun _ C F N9 h => by cases h; rfl), (fun h => absurd h (by decide))⟩
theorem nm_wd_m123 : nm_Wd nm_m123 := ⟨nm_C9, nm_CE, 9, 0, 8, nm_ok_m123, nm_C9_A, nm_CE_X, rfl, (fun h => absurd h (by decide))⟩
theorem nm_g123 : nm_Mq (nm_m123, 1, 1, 8) := ⟨nm_f123.2.1, (fun _ C F N9 h => by cases h; rfl), (fun h => absurd h (by decide))⟩
theorem nm_wd_m124 : nm_Wd nm_m124 := ⟨nm_C9, nm_CE, 9, 0, 8, nm_ok_m124, nm_C9_A, nm_CE_X, rfl, (fun h => absurd h (by decide))⟩
theorem nm_g124 : nm_Mq (nm_m124, 1, 1, 8) := ⟨nm_f124.2.1, (fun _ C F N9 h => by cases h; rfl), (fun h => absurd h (by decide))⟩
theorem nm_wd_m125 : nm_Wd nm_m125 := ⟨nm_C9, nm_CE, 9, 0, 8, nm_ok_m125, nm_C9_A, nm_CE_X, rfl, (fun h => absurd h (by decide))⟩
theorem nm_g125 : nm_Mq (nm_m125, 1, 1, 8) := ⟨nm_f125.2.1, (fun _ C F N9 h => by cases h; rfl), (fun h => absurd h (by decide))⟩
theorem nm_wd_m126 : nm_Wd nm_m126 := ⟨nm_C9, nm_CE, 9, 0, 8, nm_ok_m126, nm_C9_A, nm_CE_X, rfl, (fun h => absurd h (by decide))⟩
theorem nm_g126 : nm_Mq (nm_m126, 1, 1, 8) := ⟨nm_f126.2.1, (fun _ C F N9 h => by cases h; rfl), (fun h => absurd h (by decide))⟩
theorem nm_wd_m127 : nm_Wd nm_m127 := ⟨nm_C10, nm_CE, 10, 0, 9, nm_ok_m127, nm_C10_A, nm_CE_X, rfl, (fun h => absurd h (by decide))⟩
theorem nm_g127 : nm_Mq (nm_m127, 0, 3, 9) := ⟨nm_f127.2.1, (fun h => absurd h (by decide)), (fun h => absurd h (by decide))⟩
theorem nm_wd_m128 : nm_Wd nm_m128 := ⟨nm_C10, nm_CE, 10, 0, 9, nm_ok_m128, nm_C10_A, nm_CE_X, rfl, (fun h => absurd h (by decide))⟩
theorem nm_g128 : nm_Mq (nm_m128, 0, 2, 9) := ⟨nm_f128.2.1, (fun h => absurd h (by decide)), (fun h => absurd h (by decide))⟩
theorem nm_wd_m129 : nm_Wd nm_m129 := ⟨nm_C10, nm_CE, 10, 0, 9, nm_ok_m129, nm_C10_A, nm_CE_X, rfl, (fun h => absurd h (by decide))⟩
theorem nm_g129 : nm_Mq (nm_m129, 0, 1, 9) := ⟨nm_f129.2.1, (fun h => absurd h (by decide)), (fun h => absurd h (by decide))⟩
theorem nm_wd_m130 : nm_Wd nm_m130 := ⟨nm_C10, nm_CE, 10, 0, 9, nm_ok_m130, nm_C10_A, nm_CE_X, rfl, (fun h => absurd h (by decide))⟩
theorem nm_g130 : nm_Mq (nm_m130, 1, 1, 9) := ⟨nm_f130.2.1, (fun _ C F N9 h => by cases h; rfl), (fun h => absurd h (by decide))⟩
theorem nm_wd_m131 : nm_Wd nm_m131 := ⟨nm_C10, nm_CE, 10, 0, 9, nm_ok_m131, nm_C10_A, nm_CE_X, rfl, (fun h => absurd h (by decide))⟩
theorem nm_g131 : nm_Mq (nm_m131, 1, 1, 9) := ⟨nm_f131.2.1, (fun _ C F N9 h => by cases h; rfl), (fun h => absurd h (by decide))⟩
theorem nm_wd_m132 : nm_Wd nm_m132 := ⟨nm_C10, nm_CE, 10, 0, 9, nm_ok_m132, nm_C10_A, nm_CE_X, rfl, (fun h => absurd h (by decide))⟩
theorem nm_g132 : nm_Mq (nm_m132, 1, 1, 9) := ⟨nm_f132.2.1, (fun _ C F N9 h => by cases h; rfl), (fun h => absurd h (by decide))⟩
theorem nm_wd_m133 : nm_Wd nm_m133 := ⟨nm_C10, nm_CE, 10, 0, 9, nm_ok_m133, nm_C10_A, nm_CE_X, rfl, (fun h => absurd h (by decide))⟩
theorem nm_g133 : nm_Mq (nm_m133, 1, 1, 9) := ⟨nm_f133.2.1, (fun _ C F N9 h => by cases h; rfl), (fun h => absurd h (by decide))⟩
theorem nm_wd_m134 : nm_Wd nm_m134 := ⟨nm_C10, nm_CE, 10, 0, 9, nm_ok_m134, nm_C10_A, nm_CE_X, rfl, (fun h => absurd h (by decide))⟩
theorem nm_g134 : nm_Mq (nm_m134, 1, 2, 9) := ⟨nm_f134.2.1, (fun _ C F N9 h => by cases h; rfl), (fun h => absurd h (by decide))⟩
theorem nm_wd_m135 : nm_Wd nm_m135 := ⟨nm_C10, nm_CE, 10, 0, 9, nm_ok_m135, nm_C10_A, nm_CE_X, rfl, (fun h => absurd h (by decide))⟩
theorem nm_g135 : nm_Mq (nm_m135, 1, 3, 9) := ⟨nm_f135.2.1, (fun _ C F N9 h => by cases h; rfl), (fun h => absurd h (by decide))⟩
theorem nm_wd_m136 : nm_Wd nm_m136 := ⟨nm_C10, nm_CE, 10, 0, 9, nm_ok_m136, nm_C10_A, nm_CE_X, rfl, (fun h => absurd h (by decide))⟩
theorem nm_g136 : nm_Mq (nm_m136, 1, 2, 9) := ⟨nm_f136.2.1, (fun _ C F N9 h => by cases h; rfl), (fun h => absurd h (by decide))⟩
theorem nm_wd_m137 : nm_Wd nm_m137 := ⟨nm_C10, nm_CE, 10, 0, 9, nm_ok_m137, nm_C10_A, nm_CE_X, rfl, (fun h => absurd h (by decide))⟩
theorem nm_g137 : nm_Mq (nm_m137, 1, 4, 9) := ⟨nm_f137.2.1, (fun _ C F N9 h => by cases h; rfl), (fun h => absurd h (by decide))⟩
theorem nm_wd_m138 : nm_Wd nm_m138 := ⟨nm_C10, nm_CE, 10, 0, 9, nm_ok_m138, nm_C10_A, nm_CE_X, rfl, (fun h => absurd h (by decide))⟩
theorem nm_g138 : nm_Mq (nm_m138, 0, 1, 9) := ⟨nm_f138.2.1, (fun h => absurd h (by decide)), (fun h => absurd h (by decide))⟩
theorem nm_wd_m139 : nm_Wd nm_m139 := ⟨nm_C10, nm_CE, 10, 0, 9, nm_ok_m139, nm_C10_A, nm_CE_X, rfl, (fun h => absurd h (by decide))⟩
theorem nm_g139 : nm_Mq (nm_m139, 1, 2, 9) := ⟨nm_f139.2.1, (fun _ C F N9 h => by cases h; rfl), (fun h => absurd h (by decide))⟩
theorem nm_wd_m140 : nm_Wd nm_m140 := ⟨nm_C10, nm_CE, 10, 0, 9, nm_ok_m140, nm_C10_A, nm_CE_X, rfl, (fun h => absurd h (by decide))⟩
theorem nm_g140 : nm_Mq (nm_m140, 1, 2, 9) := ⟨nm_f140.2.1, (fun _ C F N9 h => by cases h; rfl), (fun h => absurd h (by decide))⟩
theorem nm_wd_m141 : nm_Wd nm_m141 := ⟨nm_C10, nm_CE, 10, 0, 9, nm_ok_m141, nm_C10_A, nm_CE_X, rfl, (fun h => absurd h (by decide))⟩
theorem nm_g141 : nm_Mq (nm_m141, 1, 3, 9) := ⟨nm_f141.2.1, (fun _ C F N9 h => by cases h; rfl), (fun h => absurd h (by decide))⟩
theorem nm_wd_m142 : nm_Wd nm_m142 := ⟨nm_C10, nm_CE, 10, 0, 9, nm_ok_m142, nm_C10_A, nm_CE_X, rfl, (fun h => absurd h (by decide))⟩
theorem nm_g142 : nm_Mq (nm_m142, 1, 1, 9) := ⟨nm_f142.2.1, (fun _ C F N9 h => by cases h; rfl), (fun h => absurd h (by decide))⟩
theorem nm_wd_m143 : nm_Wd nm_m143 := ⟨nm_C10, nm_CE, 10, 0, 9, nm_ok_m143, nm_C10_A, nm_CE_X, rfl, (fun h => absurd h (by decide))⟩
theorem nm_g143 : nm_Mq (nm_m143, 1, 1, 9) := ⟨nm_f143.2.1, (fun _ C F N9 h => by cases h; rfl), (fun h => absurd h (by decide))⟩
theorem nm_wd_m144 : nm_Wd nm_m144 := ⟨nm_C10, nm_CE, 10, 0, 9, nm_ok_m144, nm_C10_A, nm_CE_X, rfl, (fun h => absurd h (by decide))⟩
theorem nm_g144 : nm_Mq (nm_m144, 1, 1, 9) := ⟨nm_f144.2.1, (fun _ C F N9 h => by cases h; rfl), (fun h => absurd h (by decide))⟩
theorem nm_wd_m145 : nm_Wd nm_m145 := ⟨nm_C10, nm_CE, 10, 0, 9, nm_ok_m145, nm_C10_A, nm_CE_X, rfl, (fun h => absurd h (by decide))⟩
theorem nm_g145 : nm_Mq (nm_m145, 1, 0, 9) := ⟨nm_f145.2.1, (fun _ C F N9 h => by cases h; rfl), (fun h => absurd h (by decide))⟩
theorem nm_wd_m146 : nm_Wd nm_m146 := ⟨nm_C10, nm_CE, 10, 0, 9, nm_ok_m146, nm_C10_A, nm_CE_X, rfl, (fun h => absurd h (by decide))⟩
theorem nm_g146 : nm_Mq (nm_m146, 1, 1, 9) := ⟨nm_f146.2.1, (fun _ C F N9 h => by cases h; rfl), (fun h => absurd h (by decide))⟩
theorem nm_wd_m147 : nm_Wd nm_m147 := ⟨nm_C10, nm_CE, 10, 0, 9, nm_ok_m147, nm_C10_A, nm_CE_X, rfl, (fun h => absurd h (by decide))⟩
theorem nm_g147 : nm_Mq (nm_m147, 1, 0, 9) := ⟨nm_f147.2.1, (fun _ C F N9 h => by cases h; rfl), (fun h => absurd h (by decide))⟩
theorem nm_wd_m148 : nm_Wd nm_m148 := ⟨nm_C10, nm_CE, 10, 0, 9, nm_ok_m148, nm_C10_A, nm_CE_X, rfl, (fun h => absurd h (by decide))⟩
theorem nm_g148 : nm_Mq (nm_m148, 1, 1, 9) := ⟨nm_f148.2.1, (fun _ C F N9 h => by cases h; rfl), (fun h => absurd h (by decide))⟩
theorem nm_wd_m149 : nm_Wd nm_m149 := ⟨nm_C10, nm_CE, 10, 0, 9, nm_ok_m149, nm_C10_A, nm_CE_X, rfl, (fun h => absurd h (by decide))⟩
theorem nm_g149 : nm_Mq (nm_m149, 1, 2, 9) := ⟨nm_f149.2.1, (fun _ C F N9 h => by cases h; rfl), (fun h => absurd h (by decide))⟩
theorem nm_wd_m150 : nm_Wd nm_m150 := ⟨nm_C10, nm_CE, 10, 0, 9, nm_ok_m150, nm_C10_A, nm_CE_X, rfl, (fun h => absurd h (by decide))⟩
theorem nm_g150 : nm_Mq (nm_m150, 1, 3, 9) := ⟨nm_f150.2.1, (fun _ C F N9 h => by cases h; rfl), (fun h => absurd h (by decide))⟩
theorem nm_wd_m151 : nm_Wd nm_m151 := ⟨nm_C10, nm_CE, 10, 0, 9, nm_ok_m151, nm_C10_A, nm_CE_X, rfl, (fun h => absurd h (by decide))⟩
theorem nm_g151 : nm_Mq (nm_m151, 1, 2, 9) := ⟨nm_f151.2.1, (fun _ C F N9 h => by cases h; rfl), (fun h => absurd h (by decide))⟩
theorem nm_wd_m152 : nm_Wd nm_m152 := ⟨nm_C10, nm_CE, 10, 0, 9, nm_ok_m152, nm_C10_A, nm_CE_X, rfl, (fun h => absurd h (by decide))⟩
theorem nm_g152 : nm_Mq (nm_m152, 1, 1, 9) := ⟨nm_f152.2.1, (fun _ C F N9 h => by cases h; rfl), (fun h => absurd h (by decide))⟩
theorem nm_wd_m153 : nm_Wd nm_m153 := ⟨nm_C10, nm_CE, 10, 0, 9, nm_ok_m153, nm_C10_A, nm_CE_X, rfl, (fun h => absurd h (by decide))⟩
theorem nm_g153 : nm_Mq (nm_m153, 1, 1, 9) := ⟨nm_f153.2.1, (fun _ C F N9 h => by cases h; rfl), (fun h => absurd h (by decide))⟩
theorem nm_wd_m154 : nm_Wd nm_m154 := ⟨nm_C10, nm_CE, 10, 0, 9, nm_ok_m154, nm_C10_A, nm_CE_X, rfl, (fun h => absurd h (by decide))⟩
theorem nm_g154 : nm_Mq (nm_m154, 1, 2, 9) := ⟨nm_f154.2.1, (fun _ C F N9 h => by cases h; rfl), (fun h => absurd h (by decide))⟩
theorem nm_wd_m155 : nm_Wd nm_m155 := ⟨nm_C10, nm_CE, 10, 0, 9, nm_ok_m155, nm_C10_A, nm_CE_X, rfl, (fun h => absurd h (by decide))⟩
theorem nm_g155 : nm_Mq (nm_m155, 1, 1, 9) := ⟨nm_f155.2.1, (fun _ C F N9 h => by cases h; rfl), (fun h => absurd h (by decide))⟩
theorem nm_wd_m156 : nm_Wd nm_m156 := ⟨nm_C10, nm_CE, 10, 0, 9, nm_ok_m156, nm_C10_A, nm_CE_X, rfl, (fun h => absurd h (by decide))⟩
theorem nm_g156 : nm_Mq (nm_m156, 1, 0, 9) := ⟨nm_f156.2.1, (fun _ C F N9 h => by cases h; rfl), (fun h => absurd h (by decide))⟩
theorem nm_wd_m157 : nm_Wd nm_m157 := ⟨nm_C10, nm_CE, 10, 0, 9, nm_ok_m157, nm_C10_A, nm_CE_X, rfl, (fun h => absurd h (by decide))⟩
theorem nm_g157 : nm_Mq (nm_m157, 1, 0, 9) := ⟨nm_f157.2.1, (fun _ C F N9 h => by cases h; rfl), (fun h => absurd h (by decide))⟩
theorem nm_wd_m158 : nm_Wd nm_m158 := ⟨nm_C10, nm_CE, 10, 0, 9, nm_ok_m158, nm_C10_A, nm_CE_X, rfl, (fun h => absurd h (by decide))⟩
theorem nm_g158 : nm_Mq (nm_m158, 1, 0, 9) := ⟨nm_f158.2.1, (fun _ C F N9 h => by cases h; rfl), (fun h => absurd h (by decide))⟩
theorem nm_wd_m159 : nm_Wd nm_m159 := ⟨nm_C10, nm_CE, 10, 0, 9, nm_ok_m159, nm_C10_A, nm_CE_X, rfl, (fun h => absurd h (by decide))⟩
theorem nm_g159 : nm_Mq (nm_m159, 1, 2, 9) := ⟨nm_f159.2.1, (fun _ C F N9 h => by cases h; rfl), (fun h => absurd h (by decide))⟩
theorem nm_wd_m160 : nm_Wd nm_m160 := ⟨nm_C10, nm_CE, 10, 0, 9, nm_ok_m160, nm_C10_A, nm_CE_X, rfl, (fun h => absurd h (by decide))⟩
theorem nm_g160 : nm_Mq (nm_m160, 1, 0, 9) := ⟨nm_f160.2.1, (fun _ C F N9 h => by cases h; rfl), (fun h => absurd h (by decide))⟩
theorem nm_wd_m161 : nm_Wd nm_m161 := ⟨nm_C10, nm_CE, 10, 0, 9, nm_ok_m161, nm_C10_A, nm_CE_X, rfl, (fun h => absurd h (by decide))⟩
theorem nm_g161 : nm_Mq (nm_m161, 1, 0, 9) := ⟨nm_f161.2.1, (fun _ C F N9 h => by cases h; rfl), (fun h => absurd h (by decide))⟩
theorem nm_wd_m162 : nm_Wd nm_m162 := ⟨nm_C10, nm_CE, 10, 0, 9, nm_ok_m162, nm_C10_A, nm_CE_X, rfl, (fun h => absurd h (by decide))⟩
theorem nm_g162 : nm_Mq (nm_m162, 1, 1, 9) := ⟨nm_f162.2.1, (fun _ C F N9 h => by cases h; rfl), (fun h => absurd h (by decide))⟩
theorem nm_wd_m163 : nm_Wd nm_m163 := ⟨nm_C10, nm_CE, 10, 0, 9, nm_ok_m163, nm_C10_A, nm_CE_X, rfl, (fun h => absurd h (by decide))⟩
theorem nm_g163 : nm_Mq (nm_m163, 0, 2, 9) := ⟨nm_f163.2.1, (fun h => absurd h (by decide)), (fun h => absurd h (by decide))⟩
theorem nm_wd_m164 : nm_Wd nm_m164 := ⟨nm_C10, nm_CE, 10, 0, 9, nm_ok_m164, nm_C10_A, nm_CE_X, rfl, (fun h => absurd h (by decide))⟩
theorem nm_g164 : nm_Mq (nm_m164, 1, 1, 9) := ⟨nm_f164.2.1, (fun _ C F N9 h => by cases h; rfl), (fun h => absurd h (by decide))⟩
theorem nm_wd_m165 : nm_Wd nm_m165 := ⟨nm_C10, nm_CE, 10, 0, 9, nm_ok_m165, nm_C10_A, nm_CE_X, rfl, (fun h => absurd h (by decide))⟩
theorem nm_g165 : nm_Mq (nm_m165, 1, 0, 9) := ⟨nm_f165.2.1, (fun _ C F N9 h => by cases h; rfl), (fun h => absurd h (by decide))⟩
theorem nm_wd_m166 : nm_Wd nm_m166 := ⟨nm_C10, nm_CE, 10, 0, 9, nm_ok_m166, nm_C10_A, nm_CE_X, rfl, (fun h => absurd h (by decide))⟩
theorem nm_g166 : nm_Mq (nm_m166, 1, 2, 9) := ⟨nm_f166.2.1, (fun _ C F N9 h => by cases h; rfl), (fun h => absurd h (by decide))⟩
theorem nm_wd_m167 : nm_Wd nm_m167 := ⟨nm_C10, nm_CE, 10, 0, 9, nm_ok_m167, nm_C10_A, nm_CE_X, rfl, (fun h => absurd h (by decide))⟩
theorem nm_g167 : nm_Mq (nm_m167, 1, 2, 9) := ⟨nm_f167.2.1, (fun _ C F N9 h => by cases h; rfl), (fun h => absurd h (by decide))⟩
theorem nm_wd_m168 : nm_Wd nm_m168 := ⟨nm_C10, nm_CE, 10, 0, 9, nm_ok_m168, nm_C10_A, nm_CE_X, rfl, (fun h => absurd h (by decide))⟩
theorem nm_g168 : nm_Mq (nm_m168, 1, 2, 9) := ⟨nm_f168.2.1, (fun _ C F N9 h => by cases h; rfl), (fun h => absurd h (by decide))⟩
theorem nm_wd_m169 : nm_Wd nm_m169 := ⟨nm_C10, nm_CE, 10, 0, 9, nm_ok_m169, nm_C10_A, nm_CE_X, rfl, (fun h => absurd h (by decide))⟩
theorem nm_g169 : nm_Mq (nm_m169, 1, 0, 9) := ⟨nm_f169.2.1, (fun _ C F N9 h => by cases h; rfl), (fun h => absurd h (by decide))⟩
theorem nm_wd_m170 : nm_Wd nm_m170 := ⟨nm_C10, nm_CE, 10, 0, 9, nm_ok_m170, nm_C10_A, nm_CE_X, rfl, (fun h => absurd h (by decide))⟩
theorem nm_g170 : nm_Mq (nm_m170, 1, 2, 9) := ⟨nm_f170.2.1, (fun _ C F N9 h => by cases h; rfl), (fun h => absurd h (by decide))⟩
theorem nm_wd_m171 : nm_Wd nm_m171 := ⟨nm_C10, nm_CE, 10, 0, 9, nm_ok_m171, nm_C10_A, nm_CE_X, rfl, (fun h => absurd h (by decide))⟩
theorem nm_g171 : nm_Mq (nm_m171, 1, 1, 9) := ⟨nm_f171.2.1, (fun _ C F N9 h => by cases h; rfl), (fun h => absurd h (by decide))⟩
theorem nm_wd_m172 : nm_Wd nm_m172 := ⟨nm_C10, nm_CE, 10, 0, 9, nm_ok_m172, nm_C10_A, nm_CE_X, rfl, (fun h => absurd h (by decide))⟩
theorem nm_g172 : nm_Mq (nm_m172, 1, 1, 9) := ⟨nm_f172.2.1, (fun _ C F N9 h => by cases h; rfl), (fun h => absurd h (by decide))⟩
theorem nm_wd_m173 : nm_Wd nm_m173 := ⟨nm_C10, nm_CE, 10, 0, 9, nm_ok_m173, nm_C10_A, nm_CE_X, rfl, (fun h => absurd h (by decide))⟩
theorem nm_g173 : nm_Mq (nm_m173, 0, 2, 9) := ⟨nm_f173.2.1, (fun h => absurd h (by decide)), (fun h => absurd h (by decide))⟩
theorem nm_wd_m174 : nm_Wd nm_m174 := ⟨nm_C10, nm_CE, 10, 0, 9, nm_ok_m174, nm_C10_A, nm_CE_X, rfl, (fun h => absurd h (by decide))⟩
theorem nm_g174 : nm_Mq (nm_m174, 1, 2, 9) := ⟨nm_f174.2.1, (fun _ C F N9 h => by cases h; rfl), (fun h => absurd h (by decide))⟩
theorem nm_wd_m175 : nm_Wd nm_m175 := ⟨nm_C10, nm_CE, 10, 0, 9, nm_ok_m175, nm_C10_A, nm_CE_X, rfl, (fun h => absurd h (by decide))⟩
theorem nm_g175 : nm_Mq (nm_m175, 1, 2, 9) := ⟨nm_f175.2.1, (fun _ C F N9 h => by cases h; rfl), (fun h => absurd h (by decide))⟩
theorem nm_wd_m176 : nm_Wd nm_m176 := ⟨nm_C10, nm_CE, 10, 0, 9, nm_ok_m176, nm_C10_A, nm_CE_X, rfl, (fun h => absurd h (by decide))⟩
theorem nm_g176 : nm_Mq (nm_m176, 1, 1, 9) := ⟨nm_f176.2.1, (fun _ C F N9 h => by cases h; rfl), (fun h => absurd h (by decide))⟩
theorem nm_wd_m177 : nm_Wd nm_m177 := ⟨nm_C10, nm_CE, 10, 0, 9, nm_ok_m177, nm_C10_A, nm_CE_X, rfl, (fun h => absurd h (by decide))⟩
theorem nm_g177 : nm_Mq (nm_m177, 1, 2, 9) := ⟨nm_f177.2.1, (fun _ C F N9 h => by cases h; rfl), (fun h => absurd h (by decide))⟩
theorem nm_wd_m178 : nm_Wd nm_m178 := ⟨nm_C10, nm_CE, 10, 0, 9, nm_ok_m178, nm_C10_A, nm_CE_X, rfl, (fun h => absurd h (by decide))⟩
theorem nm_g178 : nm_Mq (nm_m178, 1, 2, 9) := ⟨nm_f178.2.1, (fun _ C F N9 h => by cases h; rfl), (fun h => absurd h (by decide))⟩
theorem nm_wd_m179 : nm_Wd nm_m179 := ⟨nm_C10, nm_CE, 10, 0, 9, nm_ok_m179, nm_C10_A, nm_CE_X, rfl, (fun h => absurd h (by decide))⟩
theorem nm_g179 : nm_Mq (nm_m179, 1, 1, 9) := ⟨nm_f179.2.1, (fun _ C F N9 h => by cases h; rfl), (fun h => absurd h (by decide))⟩
theorem nm_wd_m180 : nm_Wd nm_m180 := ⟨nm_C10, nm_CE, 10, 0, 9, nm_ok_m180, nm_C10_A, nm_CE_X, rfl, (fun h => absurd h (by decide))⟩
theorem nm_g180 : nm_Mq (nm_m180, 1, 1, 9) := ⟨nm_f180.2.1, (fun _ C F N9 h => by cases h; rfl), (fun h => absurd h (by decide))⟩
theorem nm_wd_m181 : nm_Wd nm_m181 := ⟨nm_C10, nm_CE, 10, 0, 9, nm_ok_m181, nm_C10_A, nm_CE_X, rfl, (fun h => absurd h (by decide))⟩
theorem nm_g181 : nm_Mq (nm_m181, 1, 1, 9) := ⟨nm_f181.2.1, (fun _ C F N9 h => by cases h; rfl), (fun h => absurd h (by decide))⟩
theorem nm_wd_m182 : nm_Wd nm_m182 := ⟨nm_C10, nm_CE, 10, 0, 9, nm_ok_m182, nm_C10_A, nm_CE_X, rfl, (fun h => absurd h (by decide))⟩
theorem nm_g182 : nm_Mq (nm_m182, 1, 2, 9) := ⟨nm_f182.2.1, (fun _ C F N9 h => by cases h; rfl), (fun h => absurd h (by decide))⟩
theorem nm_wd_m183 : nm_Wd nm_m183 := ⟨nm_C10, nm_CE, 10, 0, 9, nm_ok_m183, nm_C10_A, nm_CE_X, rfl, (fun h => absurd h (by decide))⟩
theorem nm_g183 : nm_Mq (nm_m183, 1, 1, 9) := ⟨nm_f183.2.1, (fun _ C F N9 h => by cases h; rfl), (fun h => absurd h (by decide))⟩
theorem nm_wd_m184 : nm_Wd nm_m184 := ⟨nm_C10, nm_CE, 10, 0, 9, nm_ok_m184, nm_C10_A, nm_CE_X, rfl, (fun h => absurd h (by decide))⟩
theorem nm_g184 : nm_Mq (nm_m184, 1, 1, 9) := ⟨nm_f184.2.1, (fun _ C F N9 h => by cases h; rfl), (fun h => absurd h (by decide))⟩
theorem nm_wd_m185 : nm_Wd nm_m185 := ⟨nm_C10, nm_CE, 10, 0, 9, nm_ok_m185, nm_C10_A, nm_CE_X, rfl, (fun h => absurd h (by decide))⟩
theorem nm_g185 : nm_Mq (nm_m185, 1, 1, 9) := ⟨nm_f185.2.1, (fun _ C F N9 h => by cases h; rfl), (fun h => absurd h (by decide))⟩
theorem nm_wd_m186 : nm_Wd nm_m186 := ⟨nm_C10, nm_CE, 10, 0, 9, nm_ok_m186, nm_C10_A, nm_CE_X, rfl, (fun h => absurd h (by decide))⟩
theorem nm_g186 : nm_Mq (nm_m186, 1, 1, 9) := ⟨nm_f186.2.1, (fun _ C F N9 h => by cases h; rfl), (fun h => absurd h (by decide))⟩
theorem nm_wd_m187 : nm_Wd nm_m187 := ⟨nm_C10, nm_CE, 10, 0, 9, nm_ok_m187, nm_C10_A, nm_CE_X, rfl, (fun h => absurd h (by decide))⟩
theorem nm_g187 : nm_Mq (nm_m187, 1, 1, 9) := ⟨nm_f187.2.1, (fun _ C F N9 h => by cases h; rfl), (fun h => absurd h (by decide))⟩
theorem nm_wd_m188 : nm_Wd nm_m188 := ⟨nm_C10, nm_CE, 10, 0, 9, nm_ok_m188, nm_C10_A, nm_CE_X, rfl, (fun h => absurd h (by decide))⟩
theorem nm_g188 : nm_Mq (nm_m188, 1, 2, 9) := ⟨nm_f188.2.1, (fun _ C F N9 h => by cases h; rfl), (fun h => absurd h (by decide))⟩
theorem nm_wd_m189 : nm_Wd nm_m189 := ⟨nm_C10, nm_CE, 10, 0, 9, nm_ok_m189, nm_C10_A, nm_CE_X, rfl, (fun h => absurd h (by decide))⟩
theorem nm_g189 : nm_Mq (nm_m189, 1, 1, 9) := ⟨nm_f189.2.1, (fun _ C F N9 h => by cases h; rfl), (fun h => absurd h (by decide))⟩
theorem nm_wd_m190 : nm_Wd nm_m190 := ⟨nm_C10, nm_CE, 10, 0, 9, nm_ok_m190, nm_C10_A, nm_CE_X, rfl, (fun h => absurd h (by decide))⟩
theorem nm_g190 : nm_Mq (nm_m190, 1, 1, 9) := ⟨nm_f190.2.1, (fun _ C F N9 h => by cases h; rfl), (fun h => absurd h (by decide))⟩
theorem nm_wd_m191 : nm_Wd nm_m191 := ⟨nm_C10, nm_CE, 10, 0, 9, nm_ok_m191, nm_C10_A, nm_CE_X, rfl, (fun h => absurd h (by decide))⟩
theorem nm_g191 : nm_Mq (nm_m191, 1, 1, 9) := ⟨nm_f191.2.1, (fun _ C F N9 h => by cases h; rfl), (fun h => absurd h (by decide))⟩
theorem nm_wd_m192 : nm_Wd nm_m192 := ⟨nm_C10, nm_CE, 10, 0, 9, nm_ok_m192, nm_C10_A, nm_CE_X, rfl, (fun h => absurd h (by decide))⟩
theorem nm_g192 : nm_Mq (nm_m192, 1, 1, 9) := ⟨nm_f192.2.1, (fun _ C F N9 h => by cases h; rfl), (fun h => absurd h (by decide))⟩
theorem nm_wd_m193 : nm_Wd nm_m193 := ⟨nm_C10, nm_CE, 10, 0, 9, nm_ok_m193, nm_C10_A, nm_CE_X, rfl, (fun h => absurd h (by decide))⟩
theorem nm_g193 : nm_Mq (nm_m193, 1, 1, 9) := ⟨nm_f193.2.1, (fun _ C F N9 h => by cases h; rfl), (fun h => absurd h (by decide))⟩
theorem nm_wd_m194 : nm_Wd nm_m194 := ⟨nm_C10, nm_CE, 10, 0, 9, nm_ok_m194, nm_C10_A, nm_CE_X, rfl, (fun h => absurd h (by decide))⟩
theorem nm_g194 : nm_Mq (nm_m194, 1, 1, 9) := ⟨nm_f194.2.1, (fun _ C F N9 h => by cases h; rfl), (fun h => absurd h (by decide))⟩
theorem nm_wd_m195 : nm_Wd nm_m195 := ⟨nm_C10, nm_CE, 10, 0, 9, nm_ok_m195, nm_C10_A, nm_CE_X, rfl, (fun h => absurd h (by decide))⟩
theorem nm_g195 : nm_Mq (nm_m195, 1, 2, 9) := ⟨nm_f195.2.1, (fun _ C F N9 h => by cases h; rfl), (fun h => absurd h (by decide))⟩
theorem nm_wd_m196 : nm_Wd nm_m196 := ⟨nm_C10, nm_CE, 10, 0, 9, nm_ok_m196, nm_C10_A, nm_CE_X, rfl, (fun h => absurd h (by decide))⟩
theorem nm_g196 : nm_Mq (nm_m196, 1, 1, 9) := ⟨nm_f196.2.1, (fun _ C F N9 h => by cases h; rfl), (fun h => absurd h (by decide))⟩
theorem nm_wd_m197 : nm_Wd nm_m197 := ⟨nm_C10, nm_CE, 10, 0, 9, nm_ok_m197, nm_C10_A, nm_CE_X, rfl, (fun h => absurd h (by decide))⟩
theorem nm_g197 : nm_Mq (nm_m197, 1, 0, 9) := ⟨nm_f197.2.1, (fun _ C F N9 h => by cases h; rfl), (fun h => absurd h (by decide))⟩
theorem nm_wd_m198 : nm_Wd nm_m198 := ⟨nm_C10, nm_CE, 10, 0, 9, nm_ok_m198, nm_C10_A, nm_CE_X, rfl, (fun h => absurd h (by decide))⟩
theorem nm_g198 : nm_Mq (nm_m198, 1, 0, 9) := ⟨nm_f198.2.1, (fun _ C F N9 h => by cases h; rfl), (fun h => absurd h (by decide))⟩
theorem nm_wd_m199 : nm_Wd nm_m199 := ⟨nm_C10, nm_CE, 10, 0, 9, nm_ok_m199, nm_C10_A, nm_CE_X, rfl, (fun h => absurd h (by decide))⟩
theorem nm_g199 : nm_Mq (nm_m199, 1, 2, 9) := ⟨nm_f199.2.1, (fun _ C F N9 h => by cases h; rfl), (fun h => absurd h (by decide))⟩
theorem nm_wd_m200 : nm_Wd nm_m200 := ⟨nm_C10, nm_CE, 10, 0, 9, nm_ok_m200, nm_C10_A, nm_CE_X, rfl, (fun h => absurd h (by decide))⟩
theorem nm_g200 : nm_Mq (nm_m200, 1, 2, 9) := ⟨nm_f200.2.1, (fun _ C F N9 h => by cases h; rfl), (fun h => absurd h (by decide))⟩
theorem nm_wd_m201 : nm_Wd nm_m201 := ⟨nm_C10, nm_CE, 10, 0, 9, nm_ok_m201, nm_C10_A, nm_CE_X, rfl, (fun h => absurd h (by decide))⟩
theorem nm_g201 : nm_Mq (nm_m201, 1, 0, 9) := ⟨nm_f201.2.1, (fun _ C F N9 h => by cases h; rfl), (fun h => absurd h (by decide))⟩
theorem nm_wd_m202 : nm_Wd nm_m202 := ⟨nm_C10, nm_CE, 10, 0, 9, nm_ok_m202, nm_C10_A, nm_CE_X, rfl, (fun h => absurd h (by decide))⟩
theorem nm_g202 : nm_Mq (nm_m202, 1, 3, 9) := ⟨nm_f202.2.1, (fun _ C F N9 h => by cases h; rfl), (fun h => absurd h (by decide))⟩
theorem nm_wd_m203 : nm_Wd nm_m203 := ⟨nm_C10, nm_CE, 10, 0, 9, nm_ok_m203, nm_C10_A, nm_CE_X, rfl, (fun h => absurd h (by decide))⟩
theorem nm_g203 : nm_Mq (nm_m203, 1, 3, 9) := ⟨nm_f203.2.1, (fun _ C F N9 h => by cases h; rfl), (fun h => absurd h (by decide))⟩
theorem nm_wd_m204 : nm_Wd nm_m204 := ⟨nm_C10, nm_CE, 10, 0, 9, nm_ok_m204, nm_C10_A, nm_CE_X, rfl, (fun h => absurd h (by decide))⟩
theorem nm_g204 : nm_Mq (nm_m204, 1, 3, 9) := ⟨nm_f204.2.1, (fun _ C F N9 h => by cases h; rfl), (fun h => absurd h (by decide))⟩
theorem nm_wd_m205 : nm_Wd nm_m205 := ⟨nm_C10, nm_CE, 10, 0, 9, nm_ok_m205, nm_C10_A, nm_CE_X, rfl, (fun h => absurd h (by decide))⟩
theorem nm_g205 : nm_Mq (nm_m205, 1, 5, 9) := ⟨nm_f205.2.1, (fun _ C F N9 h => by cases h; rfl), (fun h => absurd h (by decide))⟩
theorem nm_wd_m206 : nm_Wd nm_m206 := ⟨nm_C10, nm_CE, 10, 0, 9, nm_ok_m206, nm_C10_A, nm_CE_X, rfl, (fun h => absurd h (by decide))⟩
theorem nm_g206 : nm_Mq (nm_m206, 1, 4, 9) := ⟨nm_f206.2.1, (fun _ C F N9 h => by cases h; rfl), (fun h => absurd h (by decide))⟩
theorem nm_wd_m207 : nm_Wd nm_m207 := ⟨nm_C10, nm_CE, 10, 0, 9, nm_ok_m207, nm_C10_A, nm_CE_X, rfl, (fun h => absurd h (by decide))⟩
theorem nm_g207 : nm_Mq (nm_m207, 1, 1, 9) := ⟨nm_f207.2.1, (fun _ C F N9 h => by cases h; rfl), (fun h => absurd h (by decide))⟩
theorem nm_wd_m208 : nm_Wd nm_m208 := ⟨nm_C10, nm_CE, 10, 0, 9, nm_ok_m208, nm_C10_A, nm_CE_X, rfl, (fun h => absurd h (by decide))⟩
theorem nm_g208 : nm_Mq (nm_m208, 1, 4, 9) := ⟨nm_f208.2.1, (fun _ C F N9 h => by cases h; rfl), (fun h => absurd h (by decide))⟩
theorem nm_wd_m209 : nm_Wd nm_m209 := ⟨nm_C10, nm_CE, 10, 0, 9, nm_ok_m209, nm_C10_A, nm_CE_X, rfl, (fun h => absurd h (by decide))⟩
theorem nm_g209 : nm_Mq (nm_m209, 1, 2, 9) := ⟨nm_f209.2.1, (fun _ C F N9 h => by cases h; rfl), (fun h => absurd h (by decide))⟩
theorem nm_wd_m210 : nm_Wd nm_m210 := ⟨nm_C10, nm_CE, 10, 0, 9, nm_ok_m210, nm_C10_A, nm_CE_X, rfl, (fun h => absurd h (by decide))⟩
theorem nm_g210 : nm_Mq (nm_m210, 1, 1, 9) := ⟨nm_f210.2.1, (fun _ C F N9 h => by cases h; rfl), (fun h => absurd h (by decide))⟩
theorem nm_wd_m211 : nm_Wd nm_m211 := ⟨nm_C10, nm_CE, 10, 0, 9, nm_ok_m211, nm_C10_A, nm_CE_X, rfl, (fun h => absurd h (by decide))⟩
theorem nm_g211 : nm_Mq (nm_m211, 1, 2, 9) := ⟨nm_f211.2.1, (fun _ C F N9 h => by cases h; rfl), (fun h => absurd h (by decide))⟩
theorem nm_wd_m212 : nm_Wd nm_m212 := ⟨nm_C10, nm_CE, 10, 0, 9, nm_ok_m212, nm_C10_A, nm_CE_X, rfl, (fun h => absurd h (by decide))⟩
theorem nm_g212 : nm_Mq (nm_m212, 1, 1, 9) := ⟨nm_f212.2.1, (fun _ C F N9 h => by cases h; rfl), (fun h => absurd h (by decide))⟩
theorem nm_wd_m213 : nm_Wd nm_m213 := ⟨nm_C10, nm_CE, 10, 0, 9, nm_ok_m213, nm_C10_A, nm_CE_X, rfl, (fun h => absurd h (by decide))⟩
theorem nm_g213 : nm_Mq (nm_m213, 1, 0, 9) := ⟨nm_f213.2.1, (fun _ C F N9 h => by cases h; rfl), (fun h => absurd h (by decide))⟩
theorem nm_wd_m214 : nm_Wd nm_m214 := ⟨nm_C10, nm_CE, 10, 0, 9, nm_ok_m214, nm_C10_A, nm_CE_X, rfl, (fun h => absurd h (by decide))⟩
theorem nm_g214 : nm_Mq (nm_m214, 1, 1, 9) := ⟨nm_f214.2.1, (fun _ C F N9 h => by cases h; rfl), (fun h => absurd h (by decide))⟩
theorem nm_wd_m215 : nm_Wd nm_m215 := ⟨nm_C10, nm_CE, 10, 0, 9, nm_ok_m215, nm_C10_A, nm_CE_X, rfl, (fun h => absurd h (by decide))⟩
theorem nm_g215 : nm_Mq (nm_m215, 1, 2, 9) := ⟨nm_f215.2.1, (fun _ C F N9 h => by cases h; rfl), (fun h => absurd h (by decide))⟩
theorem nm_wd_m216 : nm_Wd nm_m216 := ⟨nm_C10, nm_CE, 10, 0, 9, nm_ok_m216, nm_C10_A, nm_CE_X, rfl, (fun h => absurd h (by decide))⟩
theorem nm_g216 : nm_Mq (nm_m216, 1, 2, 9) := ⟨nm_f216.2.1, (fun _ C F N9 h => by cases h; rfl), (fun h => absurd h (by decide))⟩
theorem nm_wd_m217 : nm_Wd nm_m217 := ⟨nm_C10, nm_CE, 10, 0, 9, nm_ok_m217, nm_C10_A, nm_CE_X, rfl, (fun h => absurd h (by decide))⟩
theorem nm_g217 : nm_Mq (nm_m217, 1, 0, 9) := ⟨nm_f217.2.1, (fun _ C F N9 h => by cases h; rfl), (fun h => absurd h (by decide))⟩
theorem nm_wd_m218 : nm_Wd nm_m218 := ⟨nm_C10, nm_CE, 10, 0, 9, nm_ok_m218, nm_C10_A, nm_CE_X, rfl, (fun h => absurd h (by decide))⟩
theorem nm_g218 : nm_Mq (nm_m218, 1, 1, 9) := ⟨nm_f218.2.1, (fun _ C F N9 h => by cases h; rfl), (fun h => absurd h (by decide))⟩
theorem nm_wd_m219 : nm_Wd nm_m219 := ⟨nm_C10, nm_CE, 10, 0, 9, nm_ok_m219, nm_C10_A, nm_CE_X, rfl, (fun h => absurd h (by decide))⟩
theorem nm_g219 : nm_Mq (nm_m219, 1, 1, 9) := ⟨nm_f219.2.1, (fun _ C F N9 h => by cases h; rfl), (fun h => absurd h (by decide))⟩
theorem nm_wd_m220 : nm_Wd nm_m220 := ⟨nm_C10, nm_CE, 10, 0, 9, nm_ok_m220, nm_C10_A, nm_CE_X, rfl, (fun h => absurd h (by decide))⟩
theorem nm_g220 : nm_Mq (nm_m220, 1, 1, 9) := ⟨nm_f220.2.1, (fun _ C F N9 h => by cases h; rfl), (fun h => absurd h (by decide))⟩
theorem nm_wd_m221 : nm_Wd nm_m221 := ⟨nm_C10, nm_CE, 10, 0, 9, nm_ok_m221, nm_C10_A, nm_CE_X, rfl, (fun h => absurd h (by decide))⟩
theorem nm_g221 : nm_Mq (nm_m221, 1, 0, 9) := ⟨nm_f221.2.1, (fun _ C F N9 h => by cases h; rfl), (fun h => absurd h (by decide))⟩
theorem nm_wd_m222 : nm_Wd nm_m222 := ⟨nm_C10, nm_CE, 10, 0, 9, nm_ok_m222, nm_C10_A, nm_CE_X, rfl, (fun h => absurd h (by decide))⟩
theorem nm_g222 : nm_Mq (nm_m222, 1, 1, 9) := ⟨nm_f222.2.1, (fun _ C F N9 h => by cases h; rfl), (fun h => absurd h (by decide))⟩
theorem nm_wd_m223 : nm_Wd nm_m223 := ⟨nm_C10, nm_CE, 10, 2, 9, nm_ok_m223, nm_C10_A, nm_CE_X, rfl, fun _ => ⟨rfl, fun C F N9 h => by cases h; rfl⟩⟩
theorem nm_g223 : nm_Mq (nm_m223, 2, 0, 9) := ⟨nm_f223.2.1, (fun h => absurd h (by decide)), (fun _ => ⟨rfl, rfl, fun C F N9 h => by cases h; rfl⟩)⟩
theorem nm_wd_m224 : nm_Wd nm_m224 := ⟨nm_C10, nm_CE, 10, 0, 9, nm_ok_m224, nm_C10_A, nm_CE_X, rfl, (fun h => absurd h (by decide))⟩
theorem nm_g224 : nm_Mq (nm_m224, 1, 1, 9) := ⟨nm_f224.2.1, (fun _ C F N9 h => by cases h; rfl), (fun h => absurd h (by decide))⟩
theorem nm_wd_law : nm_Wd nm_law := ⟨nm_C11, nm_CE, 11, 0, 0, nm_ok_law, nm_C11_A, nm_CE_X, rfl, (fun h => absurd h (by decide))⟩
theorem nm_wd_lrow0 : nm_Wd nm_lrow0 := ⟨nm_C11, nm_CE, 11, 0, 0, nm_ok_lrow0, nm_C11_A, nm_CE_X, rfl, (fun h => absurd h (by decide))⟩
theorem nm_wd_lrow1 : nm_Wd nm_lrow1 := ⟨nm_C11, nm_CE, 11, 0, 0, nm_ok_lrow1, nm_C11_A, nm_CE_X, rfl, (fun h => absurd h (by decide))⟩
theorem nm_wd_xrow1 : nm_Wd nm_xrow1 := ⟨nm_C9, nm_CE, 9, 0, 8, nm_ok_xrow1, nm_C9_A, nm_CE_X, rfl, (fun h => absurd h (by decide))⟩
theorem nm_P0_ok : ∀ M ∈ [nm_m0, nm_m1, nm_m2, nm_m3, nm_m4, nm_m5, nm_m6, nm_m7, nm_m8, nm_m9, nm_m10, nm_m11, nm_m12, nm_m13, nm_m14, nm_m15, nm_m16, nm_m17, nm_m18, nm_m19], nm_Wd M ∧ plainName (px_nm M).cls = true := List.forall_mem_cons.mpr ⟨⟨nm_wd_m0, nm_f0.2.2⟩, List.forall_mem_cons.mpr ⟨⟨nm_wd_m1, nm_f1.2.2⟩, List.forall_mem_cons.mpr ⟨⟨nm_wd_m2, nm_f2.2.2⟩, List.forall_mem_cons.mpr ⟨⟨nm_wd_m3, nm_f3.2.2⟩, List.forall_mem_cons.mpr ⟨⟨nm_wd_m4, nm_f4.2.2⟩, List.forall_mem_cons.mpr ⟨⟨nm_wd_m5, nm_f5.2.2⟩, List.forall_mem_cons.mpr ⟨⟨nm_wd_m6, nm_f6.2.2⟩, List.forall_mem_cons.mpr ⟨⟨nm_wd_m7, nm_f7.2.2⟩, List.forall_mem_cons.mpr ⟨⟨nm_wd_m8, nm_f8.2.2⟩, List.forall_mem_cons.mpr ⟨⟨nm_wd_m9, nm_f9.2.2⟩, List.forall_mem_cons.mpr ⟨⟨nm_wd_m10, nm_f10.2.2⟩, List.forall_mem_cons.mpr ⟨⟨nm_wd_m11, nm_f11.2.2⟩, List.forall_mem_cons.mpr ⟨⟨nm_wd_m12, nm_f12.2.2⟩, List.forall_mem_cons.mpr ⟨⟨nm_wd_m13, nm_f13.2.2⟩, List.forall_mem_cons.mpr ⟨⟨nm_wd_m14, nm_f14.2.2⟩, List.forall_mem_cons.mpr ⟨⟨nm_wd_m15, nm_f15.2.2⟩, List.forall_mem_cons.mpr ⟨⟨nm_wd_m16, nm_f16.2.2⟩, List.forall_mem_cons.mpr ⟨⟨nm_wd_m17, nm_f17.2.2⟩, List.forall_mem_cons.mpr ⟨⟨nm_wd_m18, nm_f18.2.2⟩, List.forall_mem_cons.mpr ⟨⟨nm_wd_m19, nm_f19.2.2⟩, fun _ h => absurd h List.not_mem_nil⟩⟩⟩⟩⟩⟩⟩⟩⟩⟩⟩⟩⟩⟩⟩⟩⟩⟩⟩⟩
theorem nm_G0_ok : ∀ q ∈ [(nm_m0, 2, 0, 0), (nm_m1, 1, 1, 0), (nm_m2, 1, 2, 0), (nm_m3, 1, 2, 0), (nm_m4, 1, 2, 0), (nm_m5, 1, 1, 0), (nm_m6, 1, 1, 1), (nm_m7, 1, 2, 1), (nm_m8, 1, 3, 1), (nm_m9, 1, 1, 1), (nm_m10, 1, 1, 0), (nm_m11, 0, 1, 0), (nm_m12, 1, 1, 0), (nm_m13, 1, 2, 0), (nm_m14, 1, 1, 0), (nm_m15, 2, 0, 3), (nm_m16, 2, 1, 1), (nm_m17, 1, 4, 1), (nm_m18, 1, 1, 6), (nm_m19, 1, 1, 6)], nm_Mq q := List.forall_mem_cons.mpr ⟨nm_g0, List.forall_mem_cons.mpr ⟨nm_g1, List.forall_mem_cons.mpr ⟨nm_g2, List.forall_mem_cons.mpr ⟨nm_g3, List.forall_mem_cons.mpr ⟨nm_g4, List.forall_mem_cons.mpr ⟨nm_g5, List.forall_mem_cons.mpr ⟨nm_g6, List.forall_mem_cons.mpr ⟨nm_g7, List.forall_mem_cons.mpr ⟨nm_g8, List.forall_mem_cons.mpr ⟨nm_g9, List.forall_mem_cons.mpr ⟨nm_g10, List.forall_mem_cons.mpr ⟨nm_g11, List.forall_mem_cons.mpr ⟨nm_g12, List.forall_mem_cons.mpr ⟨nm_g13, List.forall_mem_cons.mpr ⟨nm_g14, List.forall_mem_cons.mpr ⟨nm_g15, List.forall_mem_cons.mpr ⟨nm_g16, List.forall_mem_cons.mpr ⟨nm_g17, List.forall_mem_cons.mpr ⟨nm_g18, List.forall_mem_cons.mpr ⟨nm_g19, fun _ h => absurd h List.not_mem_nil⟩⟩⟩⟩⟩⟩⟩⟩⟩⟩⟩⟩⟩⟩⟩⟩⟩⟩⟩⟩
theorem nm_P1_ok : ∀ M ∈ [nm_m20, nm_m21, nm_m22, nm_m23, nm_m24, nm_m25, nm_m26, nm_m27, nm_m28, nm_m29, nm_m30, nm_m31, nm_m32, nm_m33, nm_m34, nm_m35, nm_m36, nm_m37, nm_m38, nm_m39], nm_Wd M ∧ plainName (px_nm M).cls = true := List.forall_mem_cons.mpr ⟨⟨nm_wd_m20, nm_f20.2.2⟩, List.forall_mem_cons.mpr ⟨⟨nm_wd_m21, nm_f21.2.2⟩, List.forall_mem_cons.mpr ⟨⟨nm_wd_m22, nm_f22.2.2⟩, List.forall_mem_cons.mpr ⟨⟨nm_wd_m23, nm_f23.2.2⟩, List.forall_mem_cons.mpr ⟨⟨nm_wd_m24, nm_f24.2.2⟩, List.forall_mem_cons.mpr ⟨⟨nm_wd_m25, nm_f25.2.2⟩, List.forall_mem_cons.mpr ⟨⟨nm_wd_m26, nm_f26.2.2⟩, List.forall_mem_cons.mpr ⟨⟨nm_wd_m27, nm_f27.2.2⟩, List.forall_mem_cons.mpr ⟨⟨nm_wd_m28, nm_f28.2.2⟩, List.forall_mem_cons.mpr ⟨⟨nm_wd_m29, nm_f29.2.2⟩, List.forall_mem_cons.mpr ⟨⟨nm_wd_m30, nm_f30.2.2⟩, List.forall_mem_cons.mpr ⟨⟨nm_wd_m31, nm_f31.2.2⟩, List.forall_mem_cons.mpr ⟨⟨nm_wd_m32, nm_f32.2.2⟩, List.forall_mem_cons.mpr ⟨⟨nm_wd_m33, nm_f33.2.2⟩, List.forall_mem_cons.mpr ⟨⟨nm_wd_m34, nm_f34.2.2⟩, List.forall_mem_cons.mpr ⟨⟨nm_wd_m35, nm_f35.2.2⟩, List.forall_mem_cons.mpr ⟨⟨nm_wd_m36, nm_f36.2.2⟩, List.forall_mem_cons.mpr ⟨⟨nm_wd_m37, nm_f37.2.2⟩, List.forall_mem_cons.mpr ⟨⟨nm_wd_m38, nm_f38.2.2⟩, List.forall_mem_cons.mpr ⟨⟨nm_wd_m39, nm_f39.2.2⟩, fun _ h => absurd h List.not_mem_nil⟩⟩⟩⟩⟩⟩⟩⟩⟩⟩⟩⟩⟩⟩⟩⟩⟩⟩⟩⟩
theorem nm_G1_ok : ∀ q ∈ [(nm_m20, 1, 1, 6), (nm_m21, 1, 1, 6), (nm_m22, 1, 1, 6), (nm_m23, 1, 1, 1), (nm_m24, 1, 2, 1), (nm_m25, 1, 3, 1), (nm_m26, 2, 0, 2), (nm_m27, 1, 0, 2), (nm_m28, 1, 1, 2), (nm_m29, 1, 1, 2), (nm_m30, 1, 1, 3), (nm_m31, 2, 0, 4), (nm_m32, 0, 2, 4), (nm_m33, 1, 0, 4), (nm_m34, 1, 3, 4), (nm_m35, 1, 1, 4), (nm_m36, 2, 0, 5), (nm_m37, 1, 1, 5), (nm_m38, 1, 1, 5), (nm_m39, 0, 2, 5)], nm_Mq q := List.forall_mem_cons.mpr ⟨nm_g20, List.forall_mem_cons.mpr ⟨nm_g21, List.forall_mem_cons.mpr ⟨nm_g22, List.forall_mem_cons.mpr ⟨nm_g23, List.forall_mem_cons.mpr ⟨nm_g24, List.forall_mem_cons.mpr ⟨nm_g25, List.forall_mem_cons.mpr ⟨nm_g26, List.forall_mem_cons.mpr ⟨nm_g27, List.forall_mem_cons.mpr ⟨nm_g28, List.forall_mem_cons.mpr ⟨nm_g29, List.forall_mem_cons.mpr ⟨nm_g30, List.forall_mem_cons.mpr ⟨nm_g31, List.forall_mem_cons.mpr ⟨nm_g32, List.forall_mem_cons.mpr ⟨nm_g33, List.forall_mem_cons.mpr ⟨nm_g34, List.forall_mem_cons.mpr ⟨nm_g35, List.forall_mem_cons.mpr ⟨nm_g36, List.forall_mem_cons.mpr ⟨nm_g37, List.forall_mem_cons.mpr ⟨nm_g38, List.forall_mem_cons.mpr ⟨nm_g39, fun _ h => absurd h List.not_mem_nil⟩⟩⟩⟩⟩⟩⟩⟩⟩⟩⟩⟩⟩⟩⟩⟩⟩⟩⟩⟩
theorem nm_P2_ok : ∀ M ∈ [nm_m40, nm_m41, nm_m42, nm_m43, nm_m44, nm_m45, nm_m46, nm_m47, nm_m48, nm_m49, nm_m50, nm_m51, nm_m52, nm_m53, nm_m54, nm_m55, nm_m56, nm_m57, nm_m58, nm_m59], nm_Wd M ∧ plainName (px_nm M).cls = true := List.forall_mem_cons.mpr ⟨⟨nm_wd_m40, nm_f40.2.2⟩, List.forall_mem_cons.mpr ⟨⟨nm_wd_m41, nm_f41.2.2⟩, List.forall_mem_cons.mpr ⟨⟨nm_wd_m42, nm_f42.2.2⟩, List.forall_mem_cons.mpr ⟨⟨nm_wd_m43, nm_f43.2.2⟩, List.forall_mem_cons.mpr ⟨⟨nm_wd_m44, nm_f44.2.2⟩, List.forall_mem_cons.mpr ⟨⟨nm_wd_m45, nm_f45.2.2⟩, List.forall_mem_cons.mpr ⟨⟨nm_wd_m46, nm_f46.2.2⟩, List.forall_mem_cons.mpr ⟨⟨nm_wd_m47, nm_f47.2.2⟩, List.forall_mem_cons.mpr ⟨⟨nm_wd_m48, nm_f48.2.2⟩, List.forall_mem_cons.mpr ⟨⟨nm_wd_m49, nm_f49.2.2⟩, List.forall_mem_cons.mpr ⟨⟨nm_wd_m50, nm_f50.2.2⟩, List.forall_mem_cons.mpr ⟨⟨nm_wd_m51, nm_f51.2.2⟩, List.forall_mem_cons.mpr ⟨⟨nm_wd_m52, nm_f52.2.2⟩, List.forall_mem_cons.mpr ⟨⟨nm_wd_m53, nm_f53.2.2⟩, List.forall_mem_cons.mpr ⟨⟨nm_wd_m54, nm_f54.2.2⟩, List.forall_mem_cons.mpr ⟨⟨nm_wd_m55, nm_f55.2.2⟩, List.forall_mem_cons.mpr ⟨⟨nm_wd_m56, nm_f56.2.2⟩, List.forall_mem_cons.mpr ⟨⟨nm_wd_m57, nm_f57.2.2⟩, List.forall_mem_cons.mpr ⟨⟨nm_wd_m58, nm_f58.2.2⟩, List.forall_mem_cons.mpr ⟨⟨nm_wd_m59, nm_f59.2.2⟩, fun _ h => absurd h List.not_mem_nil⟩⟩⟩⟩⟩⟩⟩⟩⟩⟩⟩⟩⟩⟩⟩⟩⟩⟩⟩⟩
theorem nm_G2_ok : ∀ q ∈ [(nm_m40, 1, 0, 5), (nm_m41, 2, 0, 6), (nm_m42, 1, 1, 6), (nm_m43, 1, 3, 6), (nm_m44, 1, 0, 6), (nm_m45, 1, 0, 6), (nm_m46, 1, 1, 6), (nm_m47, 1, 1, 6), (nm_m48, 2, 0, 7), (nm_m49, 1, 1, 7), (nm_m50, 1, 1, 7), (nm_m51, 1, 2, 7), (nm_m52, 1, 1, 7), (nm_m53, 1, 2, 7), (nm_m54, 1, 1, 7), (nm_m55, 1, 0, 7), (nm_m56, 1, 1, 7), (nm_m57, 0, 2, 8), (nm_m58, 1, 2, 7), (nm_m59, 1, 1, 7)], nm_Mq q := List.forall_mem_cons.mpr ⟨nm_g40, List.forall_mem_cons.mpr ⟨nm_g41, List.forall_mem_cons.mpr ⟨nm_g42, List.forall_mem_cons.mpr ⟨nm_g43, List.forall_mem_cons.mpr ⟨nm_g44, List.forall_mem_cons.mpr ⟨nm_g45, List.forall_mem_cons.mpr ⟨nm_g46, List.forall_mem_cons.mpr ⟨nm_g47, List.forall_mem_cons.mpr ⟨nm_g48, List.forall_mem_cons.mpr ⟨nm_g49, List.forall_mem_cons.mpr ⟨nm_g50, List.forall_mem_cons.mpr ⟨nm_g51, List.forall_mem_cons.mpr ⟨nm_g52, List.forall_mem_cons.mpr ⟨nm_g53, List.forall_mem_cons.mpr ⟨nm_g54, List.forall_mem_cons.mpr ⟨nm_g55, List.forall_mem_cons.mpr ⟨nm_g56, List.forall_mem_cons.mpr ⟨nm_g57, List.forall_mem_cons.mpr ⟨nm_g58, List.forall_mem_cons.mpr ⟨nm_g59, fun _ h => absurd h List.not_mem_nil⟩⟩⟩⟩⟩⟩⟩⟩⟩⟩⟩⟩⟩⟩⟩⟩⟩⟩⟩⟩
theorem nm_P3_ok : ∀ M ∈ [nm_m60, nm_m61, nm_m62, nm_m63, nm_m64, nm_m65, nm_m66, nm_m67, nm_m68, nm_m69, nm_m70, nm_m71, nm_m72, nm_m73, nm_m74, nm_m75, nm_m76, nm_m77, nm_m78, nm_m79], nm_Wd M ∧ plainName (px_nm M).cls = true := List.forall_mem_cons.mpr ⟨⟨nm_wd_m60, nm_f60.2.2⟩, List.forall_mem_cons.mpr ⟨⟨nm_wd_m61, nm_f61.2.2⟩, List.forall_mem_cons.mpr ⟨⟨nm_wd_m62, nm_f62.2.2⟩, List.forall_mem_cons.mpr ⟨⟨nm_wd_m63, nm_f63.2.2⟩, List.forall_mem_cons.mpr ⟨⟨nm_wd_m64, nm_f64.2.2⟩, List.forall_mem_cons.mpr ⟨⟨nm_wd_m65, nm_f65.2.2⟩, List.forall_mem_cons.mpr ⟨⟨nm_wd_m66, nm_f66.2.2⟩, List.forall_mem_cons.mpr ⟨⟨nm_wd_m67, nm_f67.2.2⟩, List.forall_mem_cons.mpr ⟨⟨nm_wd_m68, nm_f68.2.2⟩, List.forall_mem_cons.mpr ⟨⟨nm_wd_m69, nm_f69.2.2⟩, List.forall_mem_cons.mpr ⟨⟨nm_wd_m70, nm_f70.2.2⟩, List.forall_mem_cons.mpr ⟨⟨nm_wd_m71, nm_f71.2.2⟩, List.forall_mem_cons.mpr ⟨⟨nm_wd_m72, nm_f72.2.2⟩, List.forall_mem_cons.mpr ⟨⟨nm_wd_m73, nm_f73.2.2⟩, List.forall_mem_cons.mpr ⟨⟨nm_wd_m74, nm_f74.2.2⟩, List.forall_mem_cons.mpr ⟨⟨nm_wd_m75, nm_f75.2.2⟩, List.forall_mem_cons.mpr ⟨⟨nm_wd_m76, nm_f76.2.2⟩, List.forall_mem_cons.mpr ⟨⟨nm_wd_m77, nm_f77.2.2⟩, List.forall_mem_cons.mpr ⟨⟨nm_wd_m78, nm_f78.2.2⟩, List.forall_mem_cons.mpr ⟨⟨nm_wd_m79, nm_f79.2.2⟩, fun _ h => absurd h List.not_mem_nil⟩⟩⟩⟩⟩⟩⟩⟩⟩⟩⟩⟩⟩⟩⟩⟩⟩⟩⟩⟩
theorem nm_G3_ok : ∀ q ∈ [(nm_m60, 1, 1, 7), (nm_m61, 1, 1, 7), (nm_m62, 1, 0, 7), (nm_m63, 1, 0, 7), (nm_m64, 1, 1, 7), (nm_m65, 2, 0, 8), (nm_m66, 1, 1, 8), (nm_m67, 0, 1, 8), (nm_m68, 1, 2, 8), (nm_m69, 1, 3, 8), (nm_m70, 1, 2, 8), (nm_m71, 0, 2, 8), (nm_m72, 1, 4, 8), (nm_m73, 0, 1, 8), (nm_m74, 1, 2, 8), (nm_m75, 1, 2, 8), (nm_m76, 1, 3, 8), (nm_m77, 1, 1, 8), (nm_m78, 1, 1, 8), (nm_m79, 1, 1, 8)], nm_Mq q := List.forall_mem_cons.mpr ⟨nm_g60, List.forall_mem_cons.mpr ⟨nm_g61, List.forall_mem_cons.mpr ⟨nm_g62, List.forall_mem_cons.mpr ⟨nm_g63, List.forall_mem_cons.mpr ⟨nm_g64, List.forall_mem_cons.mpr ⟨nm_g65, List.forall_mem_cons.mpr ⟨nm_g66, List.forall_mem_cons.mpr ⟨nm_g67, List.forall_mem_cons.mpr ⟨nm_g68, List.forall_mem_cons.mpr ⟨nm_g69, List.forall_mem_cons.mpr ⟨nm_g70, List.forall_mem_cons.mpr ⟨nm_g71, List.forall_mem_cons.mpr ⟨nm_g72, List.forall_mem_cons.mpr ⟨nm_g73, List.forall_mem_cons.mpr ⟨nm_g74, List.forall_mem_cons.mpr ⟨nm_g75, List.forall_mem_cons.mpr ⟨nm_g76, List.forall_mem_cons.mpr ⟨nm_g77, List.forall_mem_cons.mpr ⟨nm_g78, List.forall_mem_cons.mpr ⟨nm_g79, fun _ h => absurd h List.not_mem_nil⟩⟩⟩⟩⟩⟩⟩⟩⟩⟩⟩⟩⟩⟩⟩⟩⟩⟩⟩⟩
theorem nm_P4_ok : ∀ M ∈ [nm_m80, nm_m81, nm_m82, nm_m83, nm_m84, nm_m85, nm_m86, nm_m87, nm_m88, nm_m89, nm_m90, nm_m91, nm_m92, nm_m93, nm_m94, nm_m95, nm_m96, nm_m97, nm_m98, nm_m99], nm_Wd M ∧ plainName (px_nm M).cls = true := List.forall_mem_cons.mpr ⟨⟨nm_wd_m80, nm_f80.2.2⟩, List.forall_mem_cons.mpr ⟨⟨nm_wd_m81, nm_f81.2.2⟩, List.forall_mem_cons.mpr ⟨⟨nm_wd_m82, nm_f82.2.2⟩, List.forall_mem_cons.mpr ⟨⟨nm_wd_m83, nm_f83.2.2⟩, List.forall_mem_cons.mpr ⟨⟨nm_wd_m84, nm_f84.2.2⟩, List.forall_mem_cons.mpr ⟨⟨nm_wd_m85, nm_f85.2.2⟩, List.forall_mem_cons.mpr ⟨⟨nm_wd_m86, nm_f86.2.2⟩, List.forall_mem_cons.mpr ⟨⟨nm_wd_m87, nm_f87.2.2⟩, List.forall_mem_cons.mpr ⟨⟨nm_wd_m88, nm_f88.2.2⟩, List.forall_mem_cons.mpr ⟨⟨nm_wd_m89, nm_f89.2.2⟩, List.forall_mem_cons.mpr ⟨⟨nm_wd_m90, nm_f90.2.2⟩, List.forall_mem_cons.mpr ⟨⟨nm_wd_m91, nm_f91.2.2⟩, List.forall_mem_cons.mpr ⟨⟨nm_wd_m92, nm_f92.2.2⟩, List.forall_mem_cons.mpr ⟨⟨nm_wd_m93, nm_f93.2.2⟩, List.forall_mem_cons.mpr ⟨⟨nm_wd_m94, nm_f94.2.2⟩, List.forall_mem_cons.mpr ⟨⟨nm_wd_m95, nm_f95.2.2⟩, List.forall_mem_cons.mpr ⟨⟨nm_wd_m96, nm_f96.2.2⟩, List.forall_mem_cons.mpr ⟨⟨nm_wd_m97, nm_f97.2.2⟩, List.forall_mem_cons.mpr ⟨⟨nm_wd_m98, nm_f98.2.2⟩, List.forall_mem_cons.mpr ⟨⟨nm_wd_m99, nm_f99.2.2⟩, fun _ h => absurd h List.not_mem_nil⟩⟩⟩⟩⟩⟩⟩⟩⟩⟩⟩⟩⟩⟩⟩⟩⟩⟩⟩⟩
theorem nm_G4_ok : ∀ q ∈ [(nm_m80, 1, 0, 8), (nm_m81, 1, 1, 8), (nm_m82, 1, 0, 8), (nm_m83, 1, 0, 8), (nm_m84, 1, 1, 8), (nm_m85, 1, 1, 8), (nm_m86, 1, 0, 8), (nm_m87, 0, 2, 8), (nm_m88, 0, 2, 8), (nm_m89, 1, 2, 8), (nm_m90, 1, 2, 8), (nm_m91, 1, 2, 8), (nm_m92, 1, 0, 8), (nm_m93, 1, 2, 8), (nm_m94, 1, 1, 8), (nm_m95, 1, 1, 8), (nm_m96, 1, 3, 8), (nm_m97, 1, 2, 8), (nm_m98, 1, 1, 8), (nm_m99, 1, 1, 8)], nm_Mq q := List.forall_mem_cons.mpr ⟨nm_g80, List.forall_mem_cons.mpr ⟨nm_g81, List.forall_mem_cons.mpr ⟨nm_g82, List.forall_mem_cons.mpr ⟨nm_g83, List.forall_mem_cons.mpr ⟨nm_g84, List.forall_mem_cons.mpr ⟨nm_g85, List.forall_mem_cons.mpr ⟨nm_g86, List.forall_mem_cons.mpr ⟨nm_g87, List.forall_mem_cons.mpr ⟨nm_g88, List.forall_mem_cons.mpr ⟨nm_g89, List.forall_mem_cons.mpr ⟨nm_g90, List.forall_mem_cons.mpr ⟨nm_g91, List.forall_mem_cons.mpr ⟨nm_g92, List.forall_mem_cons.mpr ⟨nm_g93, List.forall_mem_cons.mpr ⟨nm_g94, List.forall_mem_cons.mpr ⟨nm_g95, List.forall_mem_cons.mpr ⟨nm_g96, List.forall_mem_cons.mpr ⟨nm_g97, List.forall_mem_cons.mpr ⟨nm_g98, List.forall_mem_cons.mpr ⟨nm_g99, fun _ h => absurd h List.not_mem_nil⟩⟩⟩⟩⟩⟩⟩⟩⟩⟩⟩⟩⟩⟩⟩⟩⟩⟩⟩⟩
theorem nm_P5_ok : ∀ M ∈ [nm_m100, nm_m101, nm_m102, nm_m103, nm_m104, nm_m105, nm_m106, nm_m107, nm_m108, nm_m109, nm_m110, nm_m111, nm_m112, nm_m113, nm_m114, nm_m115, nm_m116, nm_m117, nm_m118, nm_m119], nm_Wd M ∧ plainName (px_nm M).cls = true := List.forall_mem_cons.mpr ⟨⟨nm_wd_m100, nm_f100.2.2⟩, List.forall_mem_cons.mpr ⟨⟨nm_wd_m101, nm_f101.2.2⟩, List.forall_mem_cons.mpr ⟨⟨nm_wd_m102, nm_f102.2.2⟩, List.forall_mem_cons.mpr ⟨⟨nm_wd_m103, nm_f103.2.2⟩, List.forall_mem_cons.mpr ⟨⟨nm_wd_m104, nm_f104.2.2⟩, List.forall_mem_cons.mpr ⟨⟨nm_wd_m105, nm_f105.2.2⟩, List.forall_mem_cons.mpr ⟨⟨nm_wd_m106, nm_f106.2.2⟩, List.forall_mem_cons.mpr ⟨⟨nm_wd_m107, nm_f107.2.2⟩, List.forall_mem_cons.mpr ⟨⟨nm_wd_m108, nm_f108.2.2⟩, List.forall_mem_cons.mpr ⟨⟨nm_wd_m109, nm_f109.2.2⟩, List.forall_mem_cons.mpr ⟨⟨nm_wd_m110, nm_f110.2.2⟩, List.forall_mem_cons.mpr ⟨⟨nm_wd_m111, nm_f111.2.2⟩, List.forall_mem_cons.mpr ⟨⟨nm_wd_m112, nm_f112.2.2⟩, List.forall_mem_cons.mpr ⟨⟨nm_wd_m113, nm_f113.2.2⟩, List.forall_mem_cons.mpr ⟨⟨nm_wd_m114, nm_f114.2.2⟩, List.forall_mem_cons.mpr ⟨⟨nm_wd_m115, nm_f115.2.2⟩, List.forall_mem_cons.mpr ⟨⟨nm_wd_m116, nm_f116.2.2⟩, List.forall_mem_cons.mpr ⟨⟨nm_wd_m117, nm_f117.2.2⟩, List.forall_mem_cons.mpr ⟨⟨nm_wd_m118, nm_f118.2.2⟩, List.forall_mem_cons.mpr ⟨⟨nm_wd_m119, nm_f119.2.2⟩, fun _ h => absurd h List.not_mem_nil⟩⟩⟩⟩⟩⟩⟩⟩⟩⟩⟩⟩⟩⟩⟩⟩⟩⟩⟩⟩
theorem nm_G5_ok : ∀ q ∈ [(nm_m100, 1, 1, 8), (nm_m101, 1, 1, 8), (nm_m102, 1, 2, 8), (nm_m103, 1, 1, 8), (nm_m104, 1, 2, 8), (nm_m105, 1, 2, 8), (nm_m106, 1, 0, 8), (nm_m107, 1, 2, 8), (nm_m108, 0, 1, 8), (nm_m109, 1, 3, 8), (nm_m110, 1, 2, 8), (nm_m111, 1, 3, 8), (nm_m112, 1, 5, 8), (nm_m113, 1, 4, 8), (nm_m114, 1, 4, 8), (nm_m115, 1, 2, 8), (nm_m116, 1, 2, 8), (nm_m117, 1, 1, 8), (nm_m118, 1, 0, 8), (nm_m119, 1, 0, 8)], nm_Mq q := List.forall_mem_cons.mpr ⟨nm_g100, List.forall_mem_cons.mpr ⟨nm_g101, List.forall_mem_cons.mpr ⟨nm_g102, List.forall_mem_cons.mpr ⟨nm_g103, List.forall_mem_cons.mpr ⟨nm_g104, List.forall_mem_cons.mpr ⟨nm_g105, List.forall_mem_cons.mpr ⟨nm_g106, List.forall_mem_cons.mpr ⟨nm_g107, List.forall_mem_cons.mpr ⟨nm_g108, List.forall_mem_cons.mpr ⟨nm_g109, List.forall_mem_cons.mpr ⟨nm_g110, List.forall_mem_cons.mpr ⟨nm_g111, List.forall_mem_cons.mpr ⟨nm_g112, List.forall_mem_cons.mpr ⟨nm_g113, List.forall_mem_cons.mpr ⟨nm_g114, List.forall_mem_cons.mpr ⟨nm_g115, List.forall_mem_cons.mpr ⟨nm_g116, List.forall_mem_cons.mpr ⟨nm_g117, List.forall_mem_cons.mpr ⟨nm_g118, List.forall_mem_cons.mpr ⟨nm_g119, fun _ h => absurd h List.not_mem_nil⟩⟩⟩⟩⟩⟩⟩⟩⟩⟩⟩⟩⟩⟩⟩⟩⟩⟩⟩⟩
theorem nm_P6_ok : ∀ M ∈ [nm_m120, nm_m121, nm_m122, nm_m123, nm_m124, nm_m125, nm_m126, nm_m127, nm_m128, nm_m129, nm_m130, nm_m131, nm_m132, nm_m133, nm_m134, nm_m135, nm_m136, nm_m137, nm_m138, nm_m139], nm_Wd M ∧ plainName (px_nm M).cls = true := List.forall_mem_cons.mpr ⟨⟨nm_wd_m120, nm_f120.2.2⟩, List.forall_mem_cons.mpr ⟨⟨nm_wd_m121, nm_f121.2.2⟩, List.forall_mem_cons.mpr ⟨⟨nm_wd_m122, nm_f122.2.2⟩, List.forall_mem_cons.mpr ⟨⟨nm_wd_m123, nm_f123.2.2⟩, List.forall_mem_cons.mpr ⟨⟨nm_wd_m124, nm_f124.2.2⟩, List.forall_mem_cons.mpr ⟨⟨nm_wd_m125, nm_f125.2.2⟩, List.forall_mem_cons.mpr ⟨⟨nm_wd_m126, nm_f126.2.2⟩, List.forall_mem_cons.mpr ⟨⟨nm_wd_m127, nm_f127.2.2⟩, List.forall_mem_cons.mpr ⟨⟨nm_wd_m128, nm_f128.2.2⟩, List.forall_mem_cons.mpr ⟨⟨nm_wd_m129, nm_f129.2.2⟩, List.forall_mem_cons.mpr ⟨⟨nm_wd_m130, nm_f130.2.2⟩, List.forall_mem_cons.mpr ⟨⟨nm_wd_m131, nm_f131.2.2⟩, List.forall_mem_cons.mpr ⟨⟨nm_wd_m132, nm_f132.2.2⟩, List.forall_mem_cons.mpr ⟨⟨nm_wd_m133, nm_f133.2.2⟩, List.forall_mem_cons.mpr ⟨⟨nm_wd_m134, nm_f134.2.2⟩, List.forall_mem_cons.mpr ⟨⟨nm_wd_m135, nm_f135.2.2⟩, List.forall_mem_cons.mpr ⟨⟨nm_wd_m136, nm_f136.2.2⟩, List.forall_mem_cons.mpr ⟨⟨nm_wd_m137, nm_f137.2.2⟩, List.forall_mem_cons.mpr ⟨⟨nm_wd_m138, nm_f138.2.2⟩, List.forall_mem_cons.mpr ⟨⟨nm_wd_m139, nm_f139.2.2⟩, fun _ h => absurd h List.not_mem_nil⟩⟩⟩⟩⟩⟩⟩⟩⟩⟩⟩⟩⟩⟩⟩⟩⟩⟩⟩⟩
theorem nm_G6_ok : ∀ q ∈ [(nm_m120, 1, 2, 8), (nm_m121, 1, 0, 8), (nm_m122, 1, 1, 8), (nm_m123, 1, 1, 8), (nm_m124, 1, 1, 8), (nm_m125, 1, 1, 8), (nm_m126, 1, 1, 8), (nm_m127, 0, 3, 9), (nm_m128, 0, 2, 9), (nm_m129, 0, 1, 9), (nm_m130, 1, 1, 9), (nm_m131, 1, 1, 9), (nm_m132, 1, 1, 9), (nm_m133, 1, 1, 9), (nm_m134, 1, 2, 9), (nm_m135, 1, 3, 9), (nm_m136, 1, 2, 9), (nm_m137, 1, 4, 9), (nm_m138, 0, 1, 9), (nm_m139, 1, 2, 9)], nm_Mq q := List.forall_mem_cons.mpr ⟨nm_g120, List.forall_mem_cons.mpr ⟨nm_g121, List.forall_mem_cons.mpr ⟨nm_g122, List.forall_mem_cons.mpr ⟨nm_g123, List.forall_mem_cons.mpr ⟨nm_g124, List.forall_mem_cons.mpr ⟨nm_g125, List.forall_mem_cons.mpr ⟨nm_g126, List.forall_mem_cons.mpr ⟨nm_g127, List.forall_mem_cons.mpr ⟨nm_g128, List.forall_mem_cons.mpr ⟨nm_g129, List.forall_mem_cons.mpr ⟨nm_g130, List.forall_mem_cons.mpr ⟨nm_g131, List.forall_mem_cons.mpr ⟨nm_g132, List.forall_mem_cons.mpr ⟨nm_g133, List.forall_mem_cons.mpr ⟨nm_g134, List.forall_mem_cons.mpr ⟨nm_g135, List.forall_mem_cons.mpr ⟨nm_g136, List.forall_mem_cons.mpr ⟨nm_g137, List.forall_mem_cons.mpr ⟨nm_g138, List.forall_mem_cons.mpr ⟨nm_g139, fun _ h => absurd h List.not_mem_nil⟩⟩⟩⟩⟩⟩⟩⟩⟩⟩⟩⟩⟩⟩⟩⟩⟩⟩⟩⟩
theorem nm_P7_ok : ∀ M ∈ [nm_m140, nm_m141, nm_m142, nm_m143, nm_m144, nm_m145, nm_m146, nm_m147, nm_m148, nm_m149, nm_m150, nm_m151, nm_m152, nm_m153, nm_m154, nm_m155, nm_m156, nm_m157, nm_m158, nm_m159], nm_Wd M ∧ plainName (px_nm M).cls = true := List.forall_mem_cons.mpr ⟨⟨nm_wd_m140, nm_f140.2.2⟩, List.forall_mem_cons.mpr ⟨⟨nm_wd_m141, nm_f141.2.2⟩, List.forall_mem_cons.mpr ⟨⟨nm_wd_m142, nm_f142.2.2⟩, List.forall_mem_cons.mpr ⟨⟨nm_wd_m143, nm_f143.2.2⟩, List.forall_mem_cons.mpr ⟨⟨nm_wd_m144, nm_f144.2.2⟩, List.forall_mem_cons.mpr ⟨⟨nm_wd_m145, nm_f145.2.2⟩, List.forall_mem_cons.mpr ⟨⟨nm_wd_m146, nm_f146.2.2⟩, List.forall_mem_cons.mpr ⟨⟨nm_wd_m147, nm_f147.2.2⟩, List.forall_mem_cons.mpr ⟨⟨nm_wd_m148, nm_f148.2.2⟩, List.forall_mem_cons.mpr ⟨⟨nm_wd_m149, nm_f149.2.2⟩, List.forall_mem_cons.mpr ⟨⟨nm_wd_m150, nm_f150.2.2⟩, List.forall_mem_cons.mpr ⟨⟨nm_wd_m151, nm_f151.2.2⟩, List.forall_mem_cons.mpr ⟨⟨nm_wd_m152, nm_f152.2.2⟩, List.forall_mem_cons.mpr ⟨⟨nm_wd_m153, nm_f153.2.2⟩, List.forall_mem_cons.mpr ⟨⟨nm_wd_m154, nm_f154.2.2⟩, List.forall_mem_cons.mpr ⟨⟨nm_wd_m155, nm_f155.2.2⟩, List.forall_mem_cons.mpr ⟨⟨nm_wd_m156, nm_f156.2.2⟩, List.forall_mem_cons.mpr ⟨⟨nm_wd_m157, nm_f157.2.2⟩, List.forall_mem_cons.mpr ⟨⟨nm_wd_m158, nm_f158.2.2⟩, List.forall_mem_cons.mpr ⟨⟨nm_wd_m159, nm_f159.2.2⟩, fun _ h => absurd h List.not_mem_nil⟩⟩⟩⟩⟩⟩⟩⟩⟩⟩⟩⟩⟩⟩⟩⟩⟩⟩⟩⟩
theorem nm_G7_ok : ∀ q ∈ [(nm_m140, 1, 2, 9), (nm_m141, 1, 3, 9), (nm_m142, 1, 1, 9), (nm_m143, 1, 1, 9), (nm_m144, 1, 1, 9), (nm_m145, 1, 0, 9), (nm_m146, 1, 1, 9), (nm_m147, 1, 0, 9), (nm_m148, 1, 1, 9), (nm_m149, 1, 2, 9), (nm_m150, 1, 3, 9), (nm_m151, 1, 2, 9), (nm_m152, 1, 1, 9), (nm_m153, 1, 1, 9), (nm_m154, 1, 2, 9), (nm_m155, 1, 1, 9), (nm_m156, 1, 0, 9), (nm_m157, 1, 0, 9), (nm_m158, 1, 0, 9), (nm_m159, 1, 2, 9)], nm_Mq q := List.forall_mem_cons.mpr ⟨nm_g140, List.forall_mem_cons.mpr ⟨nm_g141, List.forall_mem_cons.mpr ⟨nm_g142, List.forall_mem_cons.mpr ⟨nm_g143, List.forall_mem_cons.mpr ⟨nm_g144, List.forall_mem_cons.mpr ⟨nm_g145, List.forall_mem_cons.mpr ⟨nm_g146, List.forall_mem_cons.mpr ⟨nm_g147, List.forall_mem_cons.mpr ⟨nm_g148, List.forall_mem_cons.mpr ⟨nm_g149, List.forall_mem_cons.mpr ⟨nm_g150, List.forall_mem_cons.mpr ⟨nm_g151, List.forall_mem_cons.mpr ⟨nm_g152, List.forall_mem_cons.mpr ⟨nm_g153, List.forall_mem_cons.mpr ⟨nm_g154, List.forall_mem_cons.mpr ⟨nm_g155, List.forall_mem_cons.mpr ⟨nm_g156, List.forall_mem_cons.mpr ⟨nm_g157, List.forall_mem_cons.mpr ⟨nm_g158, List.forall_mem_cons.mpr ⟨nm_g159, fun _ h => absurd h List.not_mem_nil⟩⟩⟩⟩⟩⟩⟩⟩⟩⟩⟩⟩⟩⟩⟩⟩⟩⟩⟩⟩
theorem nm_P8_ok : ∀ M ∈ [nm_m160, nm_m161, nm_m162, nm_m163, nm_m164, nm_m165, nm_m166, nm_m167, nm_m168, nm_m169, nm_m170, nm_m171, nm_m172, nm_m173, nm_m174, nm_m175, nm_m176, nm_m177, nm_m178, nm_m179], nm_Wd M ∧ plainName (px_nm M).cls = true := List.forall_mem_cons.mpr ⟨⟨nm_wd_m160, nm_f160.2.2⟩, List.forall_mem_cons.mpr ⟨⟨nm_wd_m161, nm_f161.2.2⟩, List.forall_mem_cons.mpr ⟨⟨nm_wd_m162, nm_f162.2.2⟩, List.forall_mem_cons.mpr ⟨⟨nm_wd_m163, nm_f163.2.2⟩, List.forall_mem_cons.mpr ⟨⟨nm_wd_m164, nm_f164.2.2⟩, List.forall_mem_cons.mpr ⟨⟨nm_wd_m165, nm_f165.2.2⟩, List.forall_mem_cons.mpr ⟨⟨nm_wd_m166, nm_f166.2.2⟩, List.forall_mem_cons.mpr ⟨⟨nm_wd_m167, nm_f167.2.2⟩, List.forall_mem_cons.mpr ⟨⟨nm_wd_m168, nm_f168.2.2⟩, List.forall_mem_cons.mpr ⟨⟨nm_wd_m169, nm_f169.2.2⟩, List.forall_mem_cons.mpr ⟨⟨nm_wd_m170, nm_f170.2.2⟩, List.forall_mem_cons.mpr ⟨⟨nm_wd_m171, nm_f171.2.2⟩, List.forall_mem_cons.mpr ⟨⟨nm_wd_m172, nm_f172.2.2⟩, List.forall_mem_cons.mpr ⟨⟨nm_wd_m173, nm_f173.2.2⟩, List.forall_mem_cons.mpr ⟨⟨nm_wd_m174, nm_f174.2.2⟩, List.forall_mem_cons.mpr ⟨⟨nm_wd_m175, nm_f175.2.2⟩, List.forall_mem_cons.mpr ⟨⟨nm_wd_m176, nm_f176.2.2⟩, List.forall_mem_cons.mpr ⟨⟨nm_wd_m177, nm_f177.2.2⟩, List.forall_mem_cons.mpr ⟨⟨nm_wd_m178, nm_f178.2.2⟩, List.forall_mem_cons.mpr ⟨⟨nm_wd_m179, nm_f179.2.2⟩, fun _ h => absurd h List.not_mem_nil⟩⟩⟩⟩⟩⟩⟩⟩⟩⟩⟩⟩⟩⟩⟩⟩⟩⟩⟩⟩
theorem nm_G8_ok : ∀ q ∈ [(nm_m160, 1, 0, 9), (nm_m161, 1, 0, 9), (nm_m162, 1, 1, 9), (nm_m163, 0, 2, 9), (nm_m164, 1, 1, 9), (nm_m165, 1, 0, 9), (nm_m166, 1, 2, 9), (nm_m167, 1, 2, 9), (nm_m168, 1, 2, 9), (nm_m169, 1, 0, 9), (nm_m170, 1, 2, 9), (nm_m171, 1, 1, 9), (nm_m172, 1, 1, 9), (nm_m173, 0, 2, 9), (nm_m174, 1, 2, 9), (nm_m175, 1, 2, 9), (nm_m176, 1, 1, 9), (nm_m177, 1, 2, 9), (nm_m178, 1, 2, 9), (nm_m179, 1, 1, 9)], nm_Mq q := List.forall_mem_cons.mpr ⟨nm_g160, List.forall_mem_cons.mpr ⟨nm_g161, List.forall_mem_cons.mpr ⟨nm_g162, List.forall_mem_cons.mpr ⟨nm_g163, List.forall_mem_cons.mpr ⟨nm_g164, List.forall_mem_cons.mpr ⟨nm_g165, List.forall_mem_cons.mpr ⟨nm_g166, List.forall_mem_cons.mpr ⟨nm_g167, List.forall_mem_cons.mpr ⟨nm_g168, List.forall_mem_cons.mpr ⟨nm_g169, List.forall_mem_cons.mpr ⟨nm_g170, List.forall_mem_cons.mpr ⟨nm_g171, List.forall_mem_cons.mpr ⟨nm_g172, List.forall_mem_cons.mpr ⟨nm_g173, List.forall_mem_cons.mpr ⟨nm_g174, List.forall_mem_cons.mpr ⟨nm_g175, List.forall_mem_cons.mpr ⟨nm_g176, List.forall_mem_cons.mpr ⟨nm_g177, List.forall_mem_cons.mpr ⟨nm_g178, List.forall_mem_cons.mpr ⟨nm_g179, fun _ h => absurd h List.not_mem_nil⟩⟩⟩⟩⟩⟩⟩⟩⟩⟩⟩⟩⟩⟩⟩⟩⟩⟩⟩⟩
theorem nm_P9_ok : ∀ M ∈ [nm_m180, nm_m181, nm_m182, nm_m183, nm_m184, nm_m185, nm_m186, nm_m187, nm_m188, nm_m189, nm_m190, nm_m191, nm_m192, nm_m193, nm_m194, nm_m195, nm_m196, nm_m197, nm_m198, nm_m199], nm_Wd M ∧ plainName (px_nm M).cls = true := List.forall_mem_cons.mpr ⟨⟨nm_wd_m180, nm_f180.2.2⟩, List.forall_mem_cons.mpr ⟨⟨nm_wd_m181, nm_f181.2.2⟩, List.forall_mem_cons.mpr ⟨⟨nm_wd_m182, nm_f182.2.2⟩, List.forall_mem_cons.mpr ⟨⟨nm_wd_m183, nm_f183.2.2⟩, List.forall_mem_cons.mpr ⟨⟨nm_wd_m184, nm_f184.2.2⟩, List.forall_mem_cons.mpr ⟨⟨nm_wd_m185, nm_f185.2.2⟩, List.forall_mem_cons.mpr ⟨⟨nm_wd_m186, nm_f186.2.2⟩, List.forall_mem_cons.mpr ⟨⟨nm_wd_m187, nm_f187.2.2⟩, List.forall_mem_cons.mpr ⟨⟨nm_wd_m188, nm_f188.2.2⟩, List.forall_mem_cons.mpr ⟨⟨nm_wd_m189, nm_f189.2.2⟩, List.forall_mem_cons.mpr ⟨⟨nm_wd_m190, nm_f190.2.2⟩, List.forall_mem_cons.mpr ⟨⟨nm_wd_m191, nm_f191.2.2⟩, List.forall_mem_cons.mpr ⟨⟨nm_wd_m192, nm_f192.2.2⟩, List.forall_mem_cons.mpr ⟨⟨nm_wd_m193, nm_f193.2.2⟩, List.forall_mem_cons.mpr ⟨⟨nm_wd_m194, nm_f194.2.2⟩, List.forall_mem_cons.mpr ⟨⟨nm_wd_m195, nm_f195.2.2⟩, List.forall_mem_cons.mpr ⟨⟨nm_wd_m196, nm_f196.2.2⟩, List.forall_mem_cons.mpr ⟨⟨nm_wd_m197, nm_f197.2.2⟩, List.forall_mem_cons.mpr ⟨⟨nm_wd_m198, nm_f198.2.2⟩, List.forall_mem_cons.mpr ⟨⟨nm_wd_m199, nm_f199.2.2⟩, fun _ h => absurd h List.not_mem_nil⟩⟩⟩⟩⟩⟩⟩⟩⟩⟩⟩⟩⟩⟩⟩⟩⟩⟩⟩⟩
theorem nm_G9_ok : ∀ q ∈ [(nm_m180, 1, 1, 9), (nm_m181, 1, 1, 9), (nm_m182, 1, 2, 9), (nm_m183, 1, 1, 9), (nm_m184, 1, 1, 9), (nm_m185, 1, 1, 9), (nm_m186, 1, 1, 9), (nm_m187, 1, 1, 9), (nm_m188, 1, 2, 9), (nm_m189, 1, 1, 9), (nm_m190, 1, 1, 9), (nm_m191, 1, 1, 9), (nm_m192, 1, 1, 9), (nm_m193, 1, 1, 9), (nm_m194, 1, 1, 9), (nm_m195, 1, 2, 9), (nm_m196, 1, 1, 9), (nm_m197, 1, 0, 9), (nm_m198, 1, 0, 9), (nm_m199, 1, 2, 9)], nm_Mq q := List.forall_mem_cons.mpr ⟨nm_g180, List.forall_mem_cons.mpr ⟨nm_g181, List.forall_mem_cons.mpr ⟨nm_g182, List.forall_mem_cons.mpr ⟨nm_g183, List.forall_mem_cons.mpr ⟨nm_g184, List.forall_mem_cons.mpr ⟨nm_g185, List.forall_mem_cons.mpr ⟨nm_g186, List.forall_mem_cons.mpr ⟨nm_g187, List.forall_mem_cons.mpr ⟨nm_g188, List.forall_mem_cons.mpr ⟨nm_g189, List.forall_mem_cons.mpr ⟨nm_g190, List.forall_mem_cons.mpr ⟨nm_g191, List.forall_mem_cons.mpr ⟨nm_g192, List.forall_mem_cons.mpr ⟨nm_g193, List.forall_mem_cons.mpr ⟨nm_g194, List.forall_mem_cons.mpr ⟨nm_g195, List.forall_mem_cons.mpr ⟨nm_g196, List.forall_mem_cons.mpr ⟨nm_g197, List.forall_mem_cons.mpr ⟨nm_g198, List.forall_mem_cons.mpr ⟨nm_g199, fun _ h => absurd h List.not_mem_nil⟩⟩⟩⟩⟩⟩⟩⟩⟩⟩⟩⟩⟩⟩⟩⟩⟩⟩⟩⟩
theorem nm_P10_ok : ∀ M ∈ [nm_m200, nm_m201, nm_m202, nm_m203, nm_m204, nm_m205, nm_m206, nm_m207, nm_m208, nm_m209, nm_m210, nm_m211, nm_m212, nm_m213, nm_m214, nm_m215, nm_m216, nm_m217, nm_m218, nm_m219], nm_Wd M ∧ plainName (px_nm M).cls = true := List.forall_mem_cons.mpr ⟨⟨nm_wd_m200, nm_f200.2.2⟩, List.forall_mem_cons.mpr ⟨⟨nm_wd_m201, nm_f201.2.2⟩, List.forall_mem_cons.mpr ⟨⟨nm_wd_m202, nm_f202.2.2⟩, List.forall_mem_cons.mpr ⟨⟨nm_wd_m203, nm_f203.2.2⟩, List.forall_mem_cons.mpr ⟨⟨nm_wd_m204, nm_f204.2.2⟩, List.forall_mem_cons.mpr ⟨⟨nm_wd_m205, nm_f205.2.2⟩, List.forall_mem_cons.mpr ⟨⟨nm_wd_m206, nm_f206.2.2⟩, List.forall_mem_cons.mpr ⟨⟨nm_wd_m207, nm_f207.2.2⟩, List.forall_mem_cons.mpr ⟨⟨nm_wd_m208, nm_f208.2.2⟩, List.forall_mem_cons.mpr ⟨⟨nm_wd_m209, nm_f209.2.2⟩, List.forall_mem_cons.mpr ⟨⟨nm_wd_m210, nm_f210.2.2⟩, List.forall_mem_cons.mpr ⟨⟨nm_wd_m211, nm_f211.2.2⟩, List.forall_mem_cons.mpr ⟨⟨nm_wd_m212, nm_f212.2.2⟩, List.forall_mem_cons.mpr ⟨⟨nm_wd_m213, nm_f213.2.2⟩, List.forall_mem_cons.mpr ⟨⟨nm_wd_m214, nm_f214.2.2⟩, List.forall_mem_cons.mpr ⟨⟨nm_wd_m215, nm_f215.2.2⟩, List.forall_mem_cons.mpr ⟨⟨nm_wd_m216, nm_f216.2.2⟩, List.forall_mem_cons.mpr ⟨⟨nm_wd_m217, nm_f217.2.2⟩, List.forall_mem_cons.mpr ⟨⟨nm_wd_m218, nm_f218.2.2⟩, List.forall_mem_cons.mpr ⟨⟨nm_wd_m219, nm_f219.2.2⟩, fun _ h => absurd h List.not_mem_nil⟩⟩⟩⟩⟩⟩⟩⟩⟩⟩⟩⟩⟩⟩⟩⟩⟩⟩⟩⟩
theorem nm_G10_ok : ∀ q ∈ [(nm_m200, 1, 2, 9), (nm_m201, 1, 0, 9), (nm_m202, 1, 3, 9), (nm_m203, 1, 3, 9), (nm_m204, 1, 3, 9), (nm_m205, 1, 5, 9), (nm_m206, 1, 4, 9), (nm_m207, 1, 1, 9), (nm_m208, 1, 4, 9), (nm_m209, 1, 2, 9), (nm_m210, 1, 1, 9), (nm_m211, 1, 2, 9), (nm_m212, 1, 1, 9), (nm_m213, 1, 0, 9), (nm_m214, 1, 1, 9), (nm_m215, 1, 2, 9), (nm_m216, 1, 2, 9), (nm_m217, 1, 0, 9), (nm_m218, 1, 1, 9), (nm_m219, 1, 1, 9)], nm_Mq q := List.forall_mem_cons.mpr ⟨nm_g200, List.forall_mem_cons.mpr ⟨nm_g201, List.forall_mem_cons.mpr ⟨nm_g202, List.forall_mem_cons.mpr ⟨nm_g203, List.forall_mem_cons.mpr ⟨nm_g204, List.forall_mem_cons.mpr ⟨nm_g205, List.forall_mem_cons.mpr ⟨nm_g206, List.forall_mem_cons.mpr ⟨nm_g207, List.forall_mem_cons.mpr ⟨nm_g208, List.forall_mem_cons.mpr ⟨nm_g209, List.forall_mem_cons.mpr ⟨nm_g210, List.forall_mem_cons.mpr ⟨nm_g211, List.forall_mem_cons.mpr ⟨nm_g212, List.forall_mem_cons.mpr ⟨nm_g213, List.forall_mem_cons.mpr ⟨nm_g214, List.forall_mem_cons.mpr ⟨nm_g215, List.forall_mem_cons.mpr ⟨nm_g216, List.forall_mem_cons.mpr ⟨nm_g217, List.forall_mem_cons.mpr ⟨nm_g218, List.forall_mem_cons.mpr ⟨nm_g219, fun _ h => absurd h List.not_mem_nil⟩⟩⟩⟩⟩⟩⟩⟩⟩⟩⟩⟩⟩⟩⟩⟩⟩⟩⟩⟩
theorem nm_P11_ok : ∀ M ∈ [nm_m220, nm_m221, nm_m222, nm_m223, nm_m224], nm_Wd M ∧ plainName (px_nm M).cls = true := List.forall_mem_cons.mpr ⟨⟨nm_wd_m220, nm_f220.2.2⟩, List.forall_mem_cons.mpr ⟨⟨nm_wd_m221, nm_f221.2.2⟩, List.forall_mem_cons.mpr ⟨⟨nm_wd_m222, nm_f222.2.2⟩, List.forall_mem_cons.mpr ⟨⟨nm_wd_m223, nm_f223.2.2⟩, List.forall_mem_cons.mpr ⟨⟨nm_wd_m224, nm_f224.2.2⟩, fun _ h => absurd h List.not_mem_nil⟩⟩⟩⟩⟩
theorem nm_G11_ok : ∀ q ∈ [(nm_m220, 1, 1, 9), (nm_m221, 1, 0, 9), (nm_m222, 1, 1, 9), (nm_m223, 2, 0, 9), (nm_m224, 1, 1, 9)], nm_Mq q := List.forall_mem_cons.mpr ⟨nm_g220, List.forall_mem_cons.mpr ⟨nm_g221, List.forall_mem_cons.mpr ⟨nm_g222, List.forall_mem_cons.mpr ⟨nm_g223, List.forall_mem_cons.mpr ⟨nm_g224, fun _ h => absurd h List.not_mem_nil⟩⟩⟩⟩⟩
set_option maxRecDepth 1000000 in
theorem nm_P_ok : ∀ M ∈ nm_P, nm_Wd M ∧ plainName (px_nm M).cls = true := by
  show ∀ M ∈ [nm_m0, nm_m1, nm_m2, nm_m3, nm_m4, nm_m5, nm_m6, nm_m7, nm_m8, nm_m9, nm_m10, nm_m11, nm_m12, nm_m13, nm_m14, nm_m15, nm_m16, nm_m17, nm_m18, nm_m19] ++ ([nm_m20, nm_m21, nm_m22, nm_m23, nm_m24, nm_m25, nm_m26, nm_m27, nm_m28, nm_m29, nm_m30, nm_m31, nm_m32, nm_m33, nm_m34, nm_m35, nm_m36, nm_m37, nm_m38, nm_m39] ++ ([nm_m40, nm_m41, nm_m42, nm_m43, nm_m44, nm_m45, nm_m46, nm_m47, nm_m48, nm_m49, nm_m50, nm_m51, nm_m52, nm_m53, nm_m54, nm_m55, nm_m56, nm_m57, nm_m58, nm_m59] ++ ([nm_m60, nm_m61, nm_m62, nm_m63, nm_m64, nm_m65, nm_m66, nm_m67, nm_m68, nm_m69, nm_m70, nm_m71, nm_m72, nm_m73, nm_m74, nm_m75, nm_m76, nm_m77, nm_m78, nm_m79] ++ ([nm_m80, nm_m81, nm_m82, nm_m83, nm_m84, nm_m85, nm_m86, nm_m87, nm_m88, nm_m89, nm_m90, nm_m91, nm_m92, nm_m93, nm_m94, nm_m95, nm_m96, nm_m97, nm_m98, nm_m99] ++ ([nm_m100, nm_m101, nm_m102, nm_m103, nm_m104, nm_m105, nm_m106, nm_m107, nm_m108, nm_m109, nm_m110, nm_m111, nm_m112, nm_m113, nm_m114, nm_m115, nm_m116, nm_m117, nm_m118, nm_m119] ++ ([nm_m120, nm_m121, nm_m122, nm_m123, nm_m124, nm_m125, nm_m126, nm_m127, nm_m128, nm_m129, nm_m130, nm_m131, nm_m132, nm_m133, nm_m134, nm_m135, nm_m136, nm_m137, nm_m138, nm_m139] ++ ([nm_m140, nm_m141, nm_m142, nm_m143, nm_m144, nm_m145, nm_m146, nm_m147, nm_m148, nm_m149, nm_m150, nm_m151, nm_m152, nm_m153, nm_m154, nm_m155, nm_m156, nm_m157, nm_m158, nm_m159] ++ ([nm_m160, nm_m161, nm_m162, nm_m163, nm_m164, nm_m165, nm_m166, nm_m167, nm_m168, nm_m169, nm_m170, nm_m171, nm_m172, nm_m173, nm_m174, nm_m175, nm_m176, nm_m177, nm_m178, nm_m179] ++ ([nm_m180, nm_m181, nm_m182, nm_m183, nm_m184, nm_m185, nm_m186, nm_m187, nm_m188, nm_m189, nm_m190, nm_m191, nm_m192, nm_m193, nm_m194, nm_m195, nm_m196, nm_m197, nm_m198, nm_m199] ++ ([nm_m200, nm_m201, nm_m202, nm_m203, nm_m204, nm_m205, nm_m206, nm_m207, nm_m208, nm_m209, nm_m210, nm_m211, nm_m212, nm_m213, nm_m214, nm_m215, nm_m216, nm_m217, nm_m218, nm_m219] ++ ([nm_m220, nm_m221, nm_m222, nm_m223, nm_m224]))))))))))), nm_Wd M ∧ plainName (px_nm M).cls = true
  exact List.forall_mem_append.mpr ⟨nm_P0_ok, List.forall_mem_append.mpr ⟨nm_P1_ok, List.forall_mem_append.mpr ⟨nm_P2_ok, List.forall_mem_append.mpr ⟨nm_P3_ok, List.forall_mem_append.mpr ⟨nm_P4_ok, List.forall_mem_append.mpr ⟨nm_P5_ok, List.forall_mem_append.mpr ⟨nm_P6_ok, List.forall_mem_append.mpr ⟨nm_P7_ok, List.forall_mem_append.mpr ⟨nm_P8_ok, List.forall_mem_append.mpr ⟨nm_P9_ok, List.forall_mem_append.mpr ⟨nm_P10_ok, nm_P11_ok⟩⟩⟩⟩⟩⟩⟩⟩⟩⟩⟩
set_option maxRecDepth 1000000 in
theorem nm_G_ok : ∀ q ∈ nm_P.zip nm_mf, nm_Mq q := by
  show ∀ q ∈ [(nm_m0, 2, 0, 0), (nm_m1, 1, 1, 0), (nm_m2, 1, 2, 0), (nm_m3, 1, 2, 0), (nm_m4, 1, 2, 0), (nm_m5, 1, 1, 0), (nm_m6, 1, 1, 1), (nm_m7, 1, 2, 1), (nm_m8, 1, 3, 1), (nm_m9, 1, 1, 1), (nm_m10, 1, 1, 0), (nm_m11, 0, 1, 0), (nm_m12, 1, 1, 0), (nm_m13, 1, 2, 0), (nm_m14, 1, 1, 0), (nm_m15, 2, 0, 3), (nm_m16, 2, 1, 1), (nm_m17, 1, 4, 1), (nm_m18, 1, 1, 6), (nm_m19, 1, 1, 6)] ++ ([(nm_m20, 1, 1, 6), (nm_m21, 1, 1, 6), (nm_m22, 1, 1, 6), (nm_m23, 1, 1, 1), (nm_m24, 1, 2, 1), (nm_m25, 1, 3, 1), (nm_m26, 2, 0, 2), (nm_m27, 1, 0, 2), (nm_m28, 1, 1, 2), (nm_m29, 1, 1, 2), (nm_m30, 1, 1, 3), (nm_m31, 2, 0, 4), (nm_m32, 0, 2, 4), (nm_m33, 1, 0, 4), (nm_m34, 1, 3, 4), (nm_m35, 1, 1, 4), (nm_m36, 2, 0, 5), (nm_m37, 1, 1, 5), (nm_m38, 1, 1, 5), (nm_m39, 0, 2, 5)] ++ ([(nm_m40, 1, 0, 5), (nm_m41, 2, 0, 6), (nm_m42, 1, 1, 6), (nm_m43, 1, 3, 6), (nm_m44, 1, 0, 6), (nm_m45, 1, 0, 6), (nm_m46, 1, 1, 6), (nm_m47, 1, 1, 6), (nm_m48, 2, 0, 7), (nm_m49, 1, 1, 7), (nm_m50, 1, 1, 7), (nm_m51, 1, 2, 7), (nm_m52, 1, 1, 7), (nm_m53, 1, 2, 7), (nm_m54, 1, 1, 7), (nm_m55, 1, 0, 7), (nm_m56, 1, 1, 7), (nm_m57, 0, 2, 8), (nm_m58, 1, 2, 7), (nm_m59, 1, 1, 7)] ++ ([(nm_m60, 1, 1, 7), (nm_m61, 1, 1, 7), (nm_m62, 1, 0, 7), (nm_m63, 1, 0, 7), (nm_m64, 1, 1, 7), (nm_m65, 2, 0, 8), (nm_m66, 1, 1, 8), (nm_m67, 0, 1, 8), (nm_m68, 1, 2, 8), (nm_m69, 1, 3, 8), (nm_m70, 1, 2, 8), (nm_m71, 0, 2, 8), (nm_m72, 1, 4, 8), (nm_m73, 0, 1, 8), (nm_m74, 1, 2, 8), (nm_m75, 1, 2, 8), (nm_m76, 1, 3, 8), (nm_m77, 1, 1, 8), (nm_m78, 1, 1, 8), (nm_m79, 1, 1, 8)] ++ ([(nm_m80, 1, 0, 8), (nm_m81, 1, 1, 8), (nm_m82, 1, 0, 8), (nm_m83, 1, 0, 8), (nm_m84, 1, 1, 8), (nm_m85, 1, 1, 8), (nm_m86, 1, 0, 8), (nm_m87, 0, 2, 8), (nm_m88, 0, 2, 8), (nm_m89, 1, 2, 8), (nm_m90, 1, 2, 8), (nm_m91, 1, 2, 8), (nm_m92, 1, 0, 8), (nm_m93, 1, 2, 8), (nm_m94, 1, 1, 8), (nm_m95, 1, 1, 8), (nm_m96, 1, 3, 8), (nm_m97, 1, 2, 8), (nm_m98, 1, 1, 8), (nm_m99, 1, 1, 8)] ++ ([(nm_m100, 1, 1, 8), (nm_m101, 1, 1, 8), (nm_m102, 1, 2, 8), (nm_m103, 1, 1, 8), (nm_m104, 1, 2, 8), (nm_m105, 1, 2, 8), (nm_m106, 1, 0, 8), (nm_m107, 1, 2, 8), (nm_m108, 0, 1, 8), (nm_m109, 1, 3, 8), (nm_m110, 1, 2, 8), (nm_m111, 1, 3, 8), (nm_m112, 1, 5, 8), (nm_m113, 1, 4, 8), (nm_m114, 1, 4, 8), (nm_m115, 1, 2, 8), (nm_m116, 1, 2, 8), (nm_m117, 1, 1, 8), (nm_m118, 1, 0, 8), (nm_m119, 1, 0, 8)] ++ ([(nm_m120, 1, 2, 8), (nm_m121, 1, 0, 8), (nm_m122, 1, 1, 8), (nm_m123, 1, 1, 8), (nm_m124, 1, 1, 8), (nm_m125, 1, 1, 8), (nm_m126, 1, 1, 8), (nm_m127, 0, 3, 9), (nm_m128, 0, 2, 9), (nm_m129, 0, 1, 9), (nm_m130, 1, 1, 9), (nm_m131, 1, 1, 9), (nm_m132, 1, 1, 9), (nm_m133, 1, 1, 9), (nm_m134, 1, 2, 9), (nm_m135, 1, 3, 9), (nm_m136, 1, 2, 9), (nm_m137, 1, 4, 9), (nm_m138, 0, 1, 9), (nm_m139, 1, 2, 9)] ++ ([(nm_m140, 1, 2, 9), (nm_m141, 1, 3, 9), (nm_m142, 1, 1, 9), (nm_m143, 1, 1, 9), (nm_m144, 1, 1, 9), (nm_m145, 1, 0, 9), (nm_m146, 1, 1, 9), (nm_m147, 1, 0, 9), (nm_m148, 1, 1, 9), (nm_m149, 1, 2, 9), (nm_m150, 1, 3, 9), (nm_m151, 1, 2, 9), (nm_m152, 1, 1, 9), (nm_m153, 1, 1, 9), (nm_m154, 1, 2, 9), (nm_m155, 1, 1, 9), (nm_m156, 1, 0, 9), (nm_m157, 1, 0, 9), (nm_m158, 1, 0, 9), (nm_m159, 1, 2, 9)] ++ ([(nm_m160, 1, 0, 9), (nm_m161, 1, 0, 9), (nm_m162, 1, 1, 9), (nm_m163, 0, 2, 9), (nm_m164, 1, 1, 9), (nm_m165, 1, 0, 9), (nm_m166, 1, 2, 9), (nm_m167, 1, 2, 9), (nm_m168, 1, 2, 9), (nm_m169, 1, 0, 9), (nm_m170, 1, 2, 9), (nm_m171, 1, 1, 9), (nm_m172, 1, 1, 9), (nm_m173, 0, 2, 9), (nm_m174, 1, 2, 9), (nm_m175, 1, 2, 9), (nm_m176, 1, 1, 9), (nm_m177, 1, 2, 9), (nm_m178, 1, 2, 9), (nm_m179, 1, 1, 9)] ++ ([(nm_m180, 1, 1, 9), (nm_m181, 1, 1, 9), (nm_m182, 1, 2, 9), (nm_m183, 1, 1, 9), (nm_m184, 1, 1, 9), (nm_m185, 1, 1, 9), (nm_m186, 1, 1, 9), (nm_m187, 1, 1, 9), (nm_m188, 1, 2, 9), (nm_m189, 1, 1, 9), (nm_m190, 1, 1, 9), (nm_m191, 1, 1, 9), (nm_m192, 1, 1, 9), (nm_m193, 1, 1, 9), (nm_m194, 1, 1, 9), (nm_m195, 1, 2, 9), (nm_m196, 1, 1, 9), (nm_m197, 1, 0, 9), (nm_m198, 1, 0, 9), (nm_m199, 1, 2, 9)] ++ ([(nm_m200, 1, 2, 9), (nm_m201, 1, 0, 9), (nm_m202, 1, 3, 9), (nm_m203, 1, 3, 9), (nm_m204, 1, 3, 9), (nm_m205, 1, 5, 9), (nm_m206, 1, 4, 9), (nm_m207, 1, 1, 9), (nm_m208, 1, 4, 9), (nm_m209, 1, 2, 9), (nm_m210, 1, 1, 9), (nm_m211, 1, 2, 9), (nm_m212, 1, 1, 9), (nm_m213, 1, 0, 9), (nm_m214, 1, 1, 9), (nm_m215, 1, 2, 9), (nm_m216, 1, 2, 9), (nm_m217, 1, 0, 9), (nm_m218, 1, 1, 9), (nm_m219, 1, 1, 9)] ++ ([(nm_m220, 1, 1, 9), (nm_m221, 1, 0, 9), (nm_m222, 1, 1, 9), (nm_m223, 2, 0, 9), (nm_m224, 1, 1, 9)]))))))))))), nm_Mq q
  exact List.forall_mem_append.mpr ⟨nm_G0_ok, List.forall_mem_append.mpr ⟨nm_G1_ok, List.forall_mem_append.mpr ⟨nm_G2_ok, List.forall_mem_append.mpr ⟨nm_G3_ok, List.forall_mem_append.mpr ⟨nm_G4_ok, List.forall_mem_append.mpr ⟨nm_G5_ok, List.forall_mem_append.mpr ⟨nm_G6_ok, List.forall_mem_append.mpr ⟨nm_G7_ok, List.forall_mem_append.mpr ⟨nm_G8_ok, List.forall_mem_append.mpr ⟨nm_G9_ok, List.forall_mem_append.mpr ⟨nm_G10_ok, nm_G11_ok⟩⟩⟩⟩⟩⟩⟩⟩⟩⟩⟩
theorem nm_Mf : px_Mf nm_cl nm_P nm_mf := by
  intro mi N k n ci hN hm
  have h : (nm_P.zip nm_mf)[mi]? = some (N, k, n, ci) := List.getElem?_zip_eq_some.mpr ⟨hN, hm⟩
  exact nm_G_ok (N, k, n, ci) (List.mem_of_getElem? h)
theorem nm_u0 : ∀ w ∈ u_ws "NamesInBags$Chest" nm_F0 3, w ∈ nm_ALL := by
  intro w hw
  obtain ⟨k, hk, rfl⟩ := List.mem_map.mp hw
  have hk := List.mem_range.mp hk
  have h1 : ((16, [0, k], 0) : px_Cw) ∈ nm_L0 := by
    revert k
    decide +kernel
  exact List.mem_filter.mpr ⟨nm_L0_in _ h1, nm_w_good (16, [0, k], 0) ⟨show (16 : Nat) ≠ 20 by decide, show (16 : Nat) ≠ 21 by decide⟩⟩
set_option maxRecDepth 1000000 in
theorem nm_ty0 : ∀ k, k < 3 → parseFieldDescriptor (nm_F0 k).2.2.1 = some (([.long, .int, .int] : List FieldType).getD k .int) := by decide +kernel
set_option maxRecDepth 1000000 in
theorem nm_nm0 : ∀ a, a < 3 → ∀ b, b < 3 → a ≠ b → (nm_F0 a).2.1 ≠ (nm_F0 b).2.1 := by decide +kernel
theorem nm_dc0 : ∀ k, k < 3 → (nm_F0 k).1 = "NamesInBags$Chest" := by decide +kernel
theorem nm_u1 : ∀ w ∈ u_ws "NamesInBags$Course" nm_F1 14, w ∈ nm_ALL := by
  intro w hw
  obtain ⟨k, hk, rfl⟩ := List.mem_map.mp hw
  have hk := List.mem_range.mp hk
  have h1 : ((16, [1, k], 0) : px_Cw) ∈ nm_L1 := by
    revert k
    decide +kernel
  exact List.mem_filter.mpr ⟨nm_L1_in _ h1, nm_w_good (16, [1, k], 0) ⟨show (16 : Nat) ≠ 20 by decide, show (16 : Nat) ≠ 21 by decide⟩⟩
set_option maxRecDepth 1000000 in
theorem nm_ty1 : ∀ k, k < 14 → parseFieldDescriptor (nm_F1 k).2.2.1 = some (([.object "NamesInBags$Town", .object "NamesInBags$Rule", .array (.int), .int, .int, .int, .int, .int, .int, .int, .array (.int), .int, .int, .int] : List FieldType).getD k .int) := by decide +kernel
set_option maxRecDepth 1000000 in
theorem nm_nm1 : ∀ a, a < 14 → ∀ b, b < 14 → a ≠ b → (nm_F1 a).2.1 ≠ (nm_F1 b).2.1 := by decide +kernel
theorem nm_dc1 : ∀ k, k < 14 → (nm_F1 k).1 = "NamesInBags$Course" := by decide +kernel
theorem nm_u2 : ∀ w ∈ u_ws "NamesInBags$Row" nm_F2 2, w ∈ nm_ALL := by
  intro w hw
  obtain ⟨k, hk, rfl⟩ := List.mem_map.mp hw
  have hk := List.mem_range.mp hk
  have h1 : ((16, [2, k], 0) : px_Cw) ∈ nm_L2 := by
    revert k
    decide +kernel
  exact List.mem_filter.mpr ⟨nm_L2_in _ h1, nm_w_good (16, [2, k], 0) ⟨show (16 : Nat) ≠ 20 by decide, show (16 : Nat) ≠ 21 by decide⟩⟩
set_option maxRecDepth 1000000 in
theorem nm_ty2 : ∀ k, k < 2 → parseFieldDescriptor (nm_F2 k).2.2.1 = some (([.array (.long), .int] : List FieldType).getD k .int) := by decide +kernel
set_option maxRecDepth 1000000 in
theorem nm_nm2 : ∀ a, a < 2 → ∀ b, b < 2 → a ≠ b → (nm_F2 a).2.1 ≠ (nm_F2 b).2.1 := by decide +kernel
theorem nm_dc2 : ∀ k, k < 2 → (nm_F2 k).1 = "NamesInBags$Row" := by decide +kernel
theorem nm_u3 : ∀ w ∈ u_ws "NamesInBags$Rule" nm_F3 4, w ∈ nm_ALL := by
  intro w hw
  obtain ⟨k, hk, rfl⟩ := List.mem_map.mp hw
  have hk := List.mem_range.mp hk
  have h1 : ((16, [3, k], 0) : px_Cw) ∈ nm_L3 := by
    revert k
    decide +kernel
  exact List.mem_filter.mpr ⟨nm_L3_in _ h1, nm_w_good (16, [3, k], 0) ⟨show (16 : Nat) ≠ 20 by decide, show (16 : Nat) ≠ 21 by decide⟩⟩
set_option maxRecDepth 1000000 in
theorem nm_ty3 : ∀ k, k < 4 → parseFieldDescriptor (nm_F3 k).2.2.1 = some (([.array (.int), .array (.int), .array (.int), .int] : List FieldType).getD k .int) := by decide +kernel
set_option maxRecDepth 1000000 in
theorem nm_nm3 : ∀ a, a < 4 → ∀ b, b < 4 → a ≠ b → (nm_F3 a).2.1 ≠ (nm_F3 b).2.1 := by decide +kernel
theorem nm_dc3 : ∀ k, k < 4 → (nm_F3 k).1 = "NamesInBags$Rule" := by decide +kernel
theorem nm_u4 : ∀ w ∈ u_ws "NamesInBags$Table" nm_F4 6, w ∈ nm_ALL := by
  intro w hw
  obtain ⟨k, hk, rfl⟩ := List.mem_map.mp hw
  have hk := List.mem_range.mp hk
  have h1 : ((16, [4, k], 0) : px_Cw) ∈ nm_L4 := by
    revert k
    decide +kernel
  exact List.mem_filter.mpr ⟨nm_L4_in _ h1, nm_w_good (16, [4, k], 0) ⟨show (16 : Nat) ≠ 20 by decide, show (16 : Nat) ≠ 21 by decide⟩⟩
set_option maxRecDepth 1000000 in
theorem nm_ty4 : ∀ k, k < 6 → parseFieldDescriptor (nm_F4 k).2.2.1 = some (([.array (.long), .array (.int), .array (.long), .int, .array (.int), .array (.int)] : List FieldType).getD k .int) := by decide +kernel
set_option maxRecDepth 1000000 in
theorem nm_nm4 : ∀ a, a < 6 → ∀ b, b < 6 → a ≠ b → (nm_F4 a).2.1 ≠ (nm_F4 b).2.1 := by decide +kernel
theorem nm_dc4 : ∀ k, k < 6 → (nm_F4 k).1 = "NamesInBags$Table" := by decide +kernel
theorem nm_u5 : ∀ w ∈ u_ws "NamesInBags$Text" nm_F5 2, w ∈ nm_ALL := by
  intro w hw
  obtain ⟨k, hk, rfl⟩ := List.mem_map.mp hw
  have hk := List.mem_range.mp hk
  have h1 : ((16, [5, k], 0) : px_Cw) ∈ nm_L5 := by
    revert k
    decide +kernel
  exact List.mem_filter.mpr ⟨nm_L5_in _ h1, nm_w_good (16, [5, k], 0) ⟨show (16 : Nat) ≠ 20 by decide, show (16 : Nat) ≠ 21 by decide⟩⟩
set_option maxRecDepth 1000000 in
theorem nm_ty5 : ∀ k, k < 2 → parseFieldDescriptor (nm_F5 k).2.2.1 = some (([.array (.int), .int] : List FieldType).getD k .int) := by decide +kernel
set_option maxRecDepth 1000000 in
theorem nm_nm5 : ∀ a, a < 2 → ∀ b, b < 2 → a ≠ b → (nm_F5 a).2.1 ≠ (nm_F5 b).2.1 := by decide +kernel
theorem nm_dc5 : ∀ k, k < 2 → (nm_F5 k).1 = "NamesInBags$Text" := by decide +kernel
theorem nm_u6 : ∀ w ∈ u_ws "NamesInBags$Town" nm_F6 12, w ∈ nm_ALL := by
  intro w hw
  obtain ⟨k, hk, rfl⟩ := List.mem_map.mp hw
  have hk := List.mem_range.mp hk
  have h1 : ((16, [6, k], 0) : px_Cw) ∈ nm_L6 := by
    revert k
    decide +kernel
  exact List.mem_filter.mpr ⟨nm_L6_in _ h1, nm_w_good (16, [6, k], 0) ⟨show (16 : Nat) ≠ 20 by decide, show (16 : Nat) ≠ 21 by decide⟩⟩
set_option maxRecDepth 1000000 in
theorem nm_ty6 : ∀ k, k < 12 → parseFieldDescriptor (nm_F6 k).2.2.1 = some (([.int, .array (.int), .array (.int), .array (.int), .array (.int), .array (.int), .array (.int), .array (.boolean), .int, .array (.int), .array (.int), .array (.int)] : List FieldType).getD k .int) := by decide +kernel
set_option maxRecDepth 1000000 in
theorem nm_nm6 : ∀ a, a < 12 → ∀ b, b < 12 → a ≠ b → (nm_F6 a).2.1 ≠ (nm_F6 b).2.1 := by decide +kernel
theorem nm_dc6 : ∀ k, k < 12 → (nm_F6 k).1 = "NamesInBags$Town" := by decide +kernel
theorem nm_u7 : ∀ w ∈ u_ws "NamesInBags$Walk" nm_F7 6, w ∈ nm_ALL := by
  intro w hw
  obtain ⟨k, hk, rfl⟩ := List.mem_map.mp hw
  have hk := List.mem_range.mp hk
  have h1 : ((16, [7, k], 0) : px_Cw) ∈ nm_L7 := by
    revert k
    decide +kernel
  exact List.mem_filter.mpr ⟨nm_L7_in _ h1, nm_w_good (16, [7, k], 0) ⟨show (16 : Nat) ≠ 20 by decide, show (16 : Nat) ≠ 21 by decide⟩⟩
set_option maxRecDepth 1000000 in
theorem nm_ty7 : ∀ k, k < 6 → parseFieldDescriptor (nm_F7 k).2.2.1 = some (([.object "NamesInBags$Table", .object "NamesInBags$Table", .object "NamesInBags$Table", .object "NamesInBags$Chest", .long, .long] : List FieldType).getD k .int) := by decide +kernel
set_option maxRecDepth 1000000 in
theorem nm_nm7 : ∀ a, a < 6 → ∀ b, b < 6 → a ≠ b → (nm_F7 a).2.1 ≠ (nm_F7 b).2.1 := by decide +kernel
theorem nm_dc7 : ∀ k, k < 6 → (nm_F7 k).1 = "NamesInBags$Walk" := by decide +kernel
theorem nm_u8 : ∀ w ∈ u_ws "NamesInBags" nm_F8 17, w ∈ nm_ALL := by
  intro w hw
  obtain ⟨k, hk, rfl⟩ := List.mem_map.mp hw
  have hk := List.mem_range.mp hk
  have h1 : ((16, [8, k], 0) : px_Cw) ∈ nm_L8 := by
    revert k
    decide +kernel
  exact List.mem_filter.mpr ⟨nm_L8_in _ h1, nm_w_good (16, [8, k], 0) ⟨show (16 : Nat) ≠ 20 by decide, show (16 : Nat) ≠ 21 by decide⟩⟩
set_option maxRecDepth 1000000 in
theorem nm_ty8 : ∀ k, k < 17 → parseFieldDescriptor (nm_F8 k).2.2.1 = some (([.object "NamesInBags$Town", .object "NamesInBags$Text", .object "NamesInBags$Rule", .array (.object "NamesInBags$Rule"), .int, .object "NamesInBags$Chest", .object "NamesInBags$Chest", .object "NamesInBags$Course", .object "NamesInBags$Walk", .object "NamesInBags$Row", .array (.int), .int, .array (.object "NamesInBags$Chest"), .array (.int), .int, .array (.int), .int] : List FieldType).getD k .int) := by decide +kernel
set_option maxRecDepth 1000000 in
theorem nm_nm8 : ∀ a, a < 17 → ∀ b, b < 17 → a ≠ b → (nm_F8 a).2.1 ≠ (nm_F8 b).2.1 := by decide +kernel
theorem nm_dc8 : ∀ k, k < 17 → (nm_F8 k).1 = "NamesInBags" := by decide +kernel
theorem nm_u9 : ∀ w ∈ u_ws "NamesInBagsModel" nm_F9 56, w ∈ nm_ALL := by
  intro w hw
  obtain ⟨k, hk, rfl⟩ := List.mem_map.mp hw
  have hk := List.mem_range.mp hk
  have h1 : ((16, [9, k], 0) : px_Cw) ∈ nm_L9 := by
    revert k
    decide +kernel
  exact List.mem_filter.mpr ⟨nm_L9_in _ h1, nm_w_good (16, [9, k], 0) ⟨show (16 : Nat) ≠ 20 by decide, show (16 : Nat) ≠ 21 by decide⟩⟩
set_option maxRecDepth 1000000 in
theorem nm_ty9 : ∀ k, k < 56 → parseFieldDescriptor (nm_F9 k).2.2.1 = some (([.int, .int, .array (.long), .int, .array (.int), .array (.int), .array (.int), .array (.int), .array (.int), .array (.int), .array (.boolean), .int, .array (.int), .array (.int), .array (.int), .int, .array (.int), .array (.boolean), .array (.int), .array (.int), .int, .array (.int), .int, .int, .int, .array (.int), .array (.int), .int, .array (.int), .array (.int), .array (.int), .int, .int, .int, .long, .long, .int, .int, .array (.int), .array (.int), .array (.long), .array (.long), .array (.long), .array (.int), .array (.int), .long, .long, .array (.int), .int, .int, .array (.int), .array (.boolean), .array (.long), .array (.long), .array (.int), .array (.int)] : List FieldType).getD k .int) := by decide +kernel
set_option maxRecDepth 1000000 in
theorem nm_nm9 : ∀ a, a < 56 → ∀ b, b < 56 → a ≠ b → (nm_F9 a).2.1 ≠ (nm_F9 b).2.1 := by decide +kernel
theorem nm_dc9 : ∀ k, k < 56 → (nm_F9 k).1 = "NamesInBagsModel" := by decide +kernel
theorem nm_okK : px_okK nm_cl nm_T nm_ALL := by
  intro ci C F N h
  match ci, h with
  | 0, h => cases h; exact ⟨_, rfl, rfl, nm_ty0, nm_nm0, nm_u0, nm_dc0⟩
  | 1, h => cases h; exact ⟨_, rfl, rfl, nm_ty1, nm_nm1, nm_u1, nm_dc1⟩
  | 2, h => cases h; exact ⟨_, rfl, rfl, nm_ty2, nm_nm2, nm_u2, nm_dc2⟩
  | 3, h => cases h; exact ⟨_, rfl, rfl, nm_ty3, nm_nm3, nm_u3, nm_dc3⟩
  | 4, h => cases h; exact ⟨_, rfl, rfl, nm_ty4, nm_nm4, nm_u4, nm_dc4⟩
  | 5, h => cases h; exact ⟨_, rfl, rfl, nm_ty5, nm_nm5, nm_u5, nm_dc5⟩
  | 6, h => cases h; exact ⟨_, rfl, rfl, nm_ty6, nm_nm6, nm_u6, nm_dc6⟩
  | 7, h => cases h; exact ⟨_, rfl, rfl, nm_ty7, nm_nm7, nm_u7, nm_dc7⟩
  | 8, h => cases h; exact ⟨_, rfl, rfl, nm_ty8, nm_nm8, nm_u8, nm_dc8⟩
  | 9, h => cases h; exact ⟨_, rfl, rfl, nm_ty9, nm_nm9, nm_u9, nm_dc9⟩
  | ci + 10, h => simp [nm_cl] at h
theorem nm_okL : ∀ ci : Nat, nm_cl[ci]? = none → nm_T.2[ci]? = none := by
  intro ci h
  rw [List.getElem?_eq_none_iff] at h ⊢
  exact h
theorem nm_good : ∀ w ∈ nm_ALL, (w.onTables && w.keeps) = true ∨ ∃ ty, w = .arrayClass ty := fun w h => good_of_word (List.mem_filter.mp h).2
theorem nm_isX : ∀ w ∈ nm_EXT, px_isX w = true := fun w h => (List.mem_filter.mp h).2
theorem nm_Ok : px_Ok nm_ow nm_cl nm_T nm_P nm_ALL nm_EXT "NamesInBags" nm_mf := ⟨nm_P_ok, ⟨nm_okK, nm_okL, nm_Mf⟩, nm_good, nm_isX⟩
theorem nm_ac_int : Cond.arrayClass .int ∈ lw_tbl := nm_C1_in (12, [3], 0) (by decide +kernel)
theorem nm_ac_boolean : Cond.arrayClass .boolean ∈ lw_tbl := nm_C4_in (12, [18], 0) (by decide +kernel)
theorem nm_ac_long : Cond.arrayClass .long ∈ lw_tbl := nm_C5_in (12, [5], 0) (by decide +kernel)
theorem nm_ao_Rule : Cond.arrayOver (.object "NamesInBags$Rule") ∈ lw_tbl := nm_CE_in (21, [22], 0) (by decide +kernel)
theorem nm_ao_Chest : Cond.arrayOver (.object "NamesInBags$Chest") ∈ lw_tbl := nm_CE_in (21, [24], 0) (by decide +kernel)
theorem nm_inst : ∀ (k : Nat) (C : String) (F : u_T) (N : Nat), nm_cl[k]? = some (C, F, N) → Cond.instantiable C N ∈ lw_tbl := by
  intro k C F N h
  match k, h with
  | 0, h => cases h; exact nm_C8_in (10, [0], 0) (by decide +kernel)
  | 1, h => cases h; exact nm_C9_in (10, [1], 0) (by decide +kernel)
  | 2, h => cases h; exact nm_C9_in (10, [2], 0) (by decide +kernel)
  | 3, h => cases h; exact nm_C1_in (10, [3], 0) (by decide +kernel)
  | 4, h => cases h; exact nm_C8_in (10, [4], 0) (by decide +kernel)
  | 5, h => cases h; exact nm_C9_in (10, [5], 0) (by decide +kernel)
  | 6, h => cases h; exact nm_C9_in (10, [6], 0) (by decide +kernel)
  | 7, h => cases h; exact nm_C9_in (10, [7], 0) (by decide +kernel)
  | 8, h => cases h; exact nm_C11_in (10, [8], 0) (by decide +kernel)
  | 9, h => cases h; exact nm_C11_in (10, [9], 0) (by decide +kernel)
  | k + 10, h => simp [nm_cl] at h
