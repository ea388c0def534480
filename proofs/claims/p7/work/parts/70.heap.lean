abbrev ab_D : Type := (Nat × List Value) ⊕ (Nat × Nat) ⊕ (Nat × Nat) ⊕ (Nat × List Nat)
def ab_rfn : Nat → List Nat → (Nat → Option Nat) → Nat → Option Nat
  | _, [], g => g
  | i, a :: r, g => ab_rfn (i + 1) r (va_up g i (some a))
def ab_toC : ab_D → px_E
  | .inl q => .inr q
  | .inr (.inl q) => .inl (q.1, q.2, .inl (fun _ => 0))
  | .inr (.inr (.inl q)) => .inl (q.1, q.2, .inr (.inl (fun _ => 0)))
  | .inr (.inr (.inr q)) => .inl (q.1, q.2.length, .inr (.inr (.inr (.inr (ab_rfn 0 q.2 (fun _ => none))))))
def ab_fx : Value → ab_F
  | .int x => (0, x.toInt, x.toInt, [])
  | .long x => (1, x.toInt, x.toInt, [])
  | .ref k => (2, 0, 0, [k])
  | _ => (9, 0, 0, [])
def ab_fv : Value → Bool
  | .int _ => true
  | .long _ => true
  | .ref _ => true
  | _ => false
def ab_toA : ab_D → ab_C
  | .inl q => .inl (q.1, q.2.map ab_fx)
  | .inr (.inl q) => .inr (q.1, q.2, (0, 0, 0, []))
  | .inr (.inr (.inl q)) => .inr (q.1, q.2, (1, 0, 0, []))
  | .inr (.inr (.inr q)) => .inr (q.1, q.2.length, (2, 0, 0, q.2))
def ab_Dok : ab_D → Bool
  | .inl q => q.2.all ab_fv
  | _ => true
def nm_D : List ab_D := [.inl (8, [.ref 1, .ref 12, .ref 14, .ref 18, .int (0), .ref 19, .ref 20, .ref 21, .ref 28, .ref 48, .ref 50, .int (1), .ref 51, .ref 52, .int (0), .ref 53, .int (0)]), .inl (6, [.int (0), .ref 2, .ref 3, .ref 4, .ref 5, .ref 6, .ref 7, .ref 8, .int (0), .ref 9, .ref 10, .ref 11]), .inr (.inl (12, 10)), .inr (.inl (13, 10)), .inr (.inl (14, 10)), .inr (.inl (15, 10)), .inr (.inl (16, 10)), .inr (.inl (17, 2)), .inr (.inl (18, 2)), .inr (.inl (19, 6)), .inr (.inl (20, 6)), .inr (.inl (21, 6)), .inl (5, [.ref 13, .int (0)]), .inr (.inl (11, 40)), .inl (3, [.ref 15, .ref 16, .ref 17, .int (0)]), .inr (.inl (0, 7)), .inr (.inl (1, 7)), .inr (.inl (2, 7)), .inr (.inr (.inr (22, [54, 58, 62]))), .inl (0, [.long (0), .int (0), .int (0)]), .inl (0, [.long (0), .int (0), .int (0)]), .inl (1, [.ref 1, .ref 22, .ref 26, .int (0), .int (0), .int (0), .int (0), .int (0), .int (0), .int (0), .ref 27, .int (0), .int (0), .int (0)]), .inl (3, [.ref 23, .ref 24, .ref 25, .int (0)]), .inr (.inl (0, 7)), .inr (.inl (1, 7)), .inr (.inl (2, 7)), .inr (.inl (3, 2)), .inr (.inl (4, 10)), .inl (7, [.ref 29, .ref 35, .ref 41, .ref 47, .long (0), .long (0)]), .inl (4, [.ref 30, .ref 31, .ref 32, .int (0), .ref 33, .ref 34]), .inr (.inr (.inl (6, 3000))), .inr (.inl (7, 3000)), .inr (.inr (.inl (8, 3000))), .inr (.inl (9, 4096)), .inr (.inl (10, 3000)), .inl (4, [.ref 36, .ref 37, .ref 38, .int (0), .ref 39, .ref 40]), .inr (.inr (.inl (6, 3000))), .inr (.inl (7, 3000)), .inr (.inr (.inl (8, 3000))), .inr (.inl (9, 4096)), .inr (.inl (10, 3000)), .inl (4, [.ref 42, .ref 43, .ref 44, .int (0), .ref 45, .ref 46]), .inr (.inr (.inl (6, 3000))), .inr (.inl (7, 3000)), .inr (.inr (.inl (8, 3000))), .inr (.inl (9, 4096)), .inr (.inl (10, 3000)), .inl (0, [.long (0), .int (0), .int (0)]), .inl (2, [.ref 49, .int (0)]), .inr (.inr (.inl (5, 13))), .inr (.inl (23, 10)), .inr (.inr (.inr (24, [66, 67, 68]))), .inr (.inl (25, 3)), .inr (.inl (26, 6)), .inl (3, [.ref 55, .ref 56, .ref 57, .int (0)]), .inr (.inl (0, 7)), .inr (.inl (1, 7)), .inr (.inl (2, 7)), .inl (3, [.ref 59, .ref 60, .ref 61, .int (0)]), .inr (.inl (0, 7)), .inr (.inl (1, 7)), .inr (.inl (2, 7)), .inl (3, [.ref 63, .ref 64, .ref 65, .int (0)]), .inr (.inl (0, 7)), .inr (.inl (1, 7)), .inr (.inl (2, 7)), .inl (0, [.long (0), .int (0), .int (0)]), .inl (0, [.long (0), .int (0), .int (0)]), .inl (0, [.long (0), .int (0), .int (0)]), .inl (9, [.int (0), .int (0), .ref 70, .int (0), .ref 71, .ref 72, .ref 73, .ref 74, .ref 75, .ref 76, .ref 77, .int (0), .ref 78, .ref 79, .ref 80, .int (0), .ref 81, .ref 82, .ref 83, .ref 84, .int (0), .ref 85, .int (0), .int (0), .int (0), .ref 86, .ref 87, .int (0), .ref 88, .ref 89, .ref 90, .int (0), .int (0), .int (0), .long (0), .long (0), .int (0), .int (1), .ref 91, .ref 92, .ref 93, .ref 94, .ref 95, .ref 96, .ref 97, .long (0), .long (0), .ref 98, .int (0), .int (0), .ref 99, .ref 100, .ref 101, .ref 102, .ref 103, .ref 104]), .inr (.inr (.inl (27, 64))), .inr (.inl (28, 10)), .inr (.inl (29, 10)), .inr (.inl (30, 10)), .inr (.inl (31, 10)), .inr (.inl (32, 10)), .inr (.inl (33, 2)), .inr (.inl (34, 2)), .inr (.inl (35, 6)), .inr (.inl (36, 6)), .inr (.inl (37, 6)), .inr (.inl (38, 4)), .inr (.inl (39, 4)), .inr (.inl (40, 28)), .inr (.inl (41, 28)), .inr (.inl (42, 40)), .inr (.inl (43, 8)), .inr (.inl (44, 8)), .inr (.inl (45, 2)), .inr (.inl (46, 2)), .inr (.inl (47, 10)), .inr (.inl (48, 3)), .inr (.inl (49, 10)), .inr (.inr (.inl (50, 9003))), .inr (.inr (.inl (51, 9003))), .inr (.inr (.inl (52, 9003))), .inr (.inl (53, 3)), .inr (.inl (54, 24576)), .inr (.inl (55, 3001)), .inr (.inl (56, 6)), .inr (.inl (57, 3)), .inr (.inr (.inl (58, 3))), .inr (.inr (.inl (59, 3))), .inr (.inl (60, 3)), .inr (.inl (61, 3)), .inr (.inr (.inl (62, 1)))]
def nm_dn : Nat × Nat := (106, 103614)
def nm_lv : List (Nat × Value) := [(4, .int 0), (3, .ref 105), (2, .ref 69), (1, .ref 0), (0, .retAddr 0)]
def nm_dk : Nat := 13
def nm_pcs : List Nat := [228, 253, 290, 339, 376, 437, 474, 527, 576, 601, 626, 639, 664, 689, 702, 771, 840, 853, 890, 915, 952, 977, 1002, 1027, 1052, 1089, 1114, 1151, 1188, 1201, 1274, 1335, 1396, 1433, 1470, 1495, 1508, 1545, 1558, 1583, 1608, 1633, 1658]
