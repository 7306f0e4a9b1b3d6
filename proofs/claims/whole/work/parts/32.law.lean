/-! the law: its cases, its loop -/
abbrev lw_C : Type := Nat × List (Nat × Bool) × (Nat × Nat × List Nat) × (Nat × Nat × List Nat)
/-- a case: its place, its arguments (place in the script, made a boolean or not), the two calls: entry, method, places of the words -/
def lw_cs : List lw_C := [(172, [(1, false), (2, false), (3, false)], (13, 105, [469, 470, 471, 86]), (17, 153, [1384, 1385, 1386, 96])),
  (215, [(1, false), (2, false), (3, true)], (18, 106, [488, 489, 490, 86]), (22, 154, [1399, 1400, 1401, 96])),
  (274, [(1, false), (2, false), (3, false)], (23, 107, [509, 510, 511, 86]), (26, 155, [1415, 1416, 1417, 96])),
  (317, [(1, false), (2, false), (3, false), (4, false)], (27, 108, [518, 519, 520, 86]), (31, 156, [1420, 1421, 1422, 96])),
  (370, [(1, false), (2, false), (3, false)], (32, 109, [531, 532, 533, 86]), (36, 157, [1428, 1429, 1430, 96])),
  (413, [(1, false), (2, false), (3, false)], (37, 110, [539, 540, 541, 86]), (40, 158, [1432, 1433, 1434, 96])),
  (456, [(1, false), (2, false)], (41, 111, [553, 554, 555, 86]), (45, 159, [1436, 1437, 1438, 96])),
  (489, [(1, false), (2, false), (3, false)], (46, 112, [570, 571, 572, 86]), (49, 160, [1443, 1444, 1445, 96])),
  (532, [(1, false), (2, false), (3, false), (4, false), (5, false)], (50, 113, [575, 576, 577, 86]), (54, 173, [1448, 1449, 1450, 96])),
  (595, [(1, false), (2, false)], (55, 114, [587, 588, 589, 86]), (59, 174, [1452, 1453, 1454, 96])),
  (628, [], (60, 115, [772, 773, 774, 86]), (64, 175, [1514, 1515, 1516, 96])),
  (641, [], (65, 116, [776, 777, 778, 86]), (68, 176, [1518, 1519, 1520, 96])),
  (654, [(1, false)], (69, 117, [788, 789, 790, 86]), (73, 178, [1522, 1523, 1524, 96])),
  (677, [(1, false), (2, false), (3, true)], (74, 118, [796, 797, 798, 86]), (78, 181, [1530, 1531, 1532, 96])),
  (736, [(1, false)], (79, 119, [835, 836, 837, 86]), (82, 183, [1543, 1544, 1545, 96])),
  (759, [(1, false)], (83, 120, [847, 848, 849, 86]), (86, 188, [1552, 1553, 1554, 96])),
  (782, [(1, false)], (87, 121, [943, 944, 945, 86]), (90, 189, [1574, 1575, 1576, 96])),
  (805, [(1, false)], (91, 122, [947, 948, 949, 86]), (94, 190, [1578, 1579, 1580, 96])),
  (828, [(1, false)], (95, 123, [955, 956, 957, 86]), (98, 196, [1582, 1583, 1584, 96])),
  (851, [(1, false)], (99, 124, [1028, 1029, 1030, 86]), (102, 197, [1606, 1607, 1608, 96])),
  (874, [], (103, 125, [1036, 1037, 1038, 86]), (106, 198, [1610, 1611, 1612, 96])),
  (887, [(1, false)], (107, 126, [1041, 1042, 1043, 86]), (110, 199, [1614, 1615, 1616, 96])),
  (910, [(1, false), (2, false)], (111, 127, [1052, 1053, 1054, 86]), (114, 200, [1618, 1619, 1620, 96])),
  (943, [(1, false)], (115, 128, [1060, 1061, 1062, 86]), (118, 201, [1622, 1623, 1624, 96])),
  (966, [(1, false)], (119, 129, [1068, 1069, 1070, 86]), (122, 202, [1626, 1627, 1628, 96])),
  (989, [(1, false)], (123, 130, [1072, 1073, 1074, 86]), (126, 203, [1630, 1631, 1632, 96])),
  (1012, [(1, false)], (127, 131, [1080, 1081, 1082, 86]), (130, 205, [1634, 1635, 1636, 96])),
  (1035, [(1, false)], (131, 132, [1089, 1090, 1091, 86]), (134, 206, [1642, 1643, 1644, 96])),
  (1058, [(1, false)], (135, 133, [1097, 1098, 1099, 86]), (138, 207, [1646, 1647, 1648, 96])),
  (1081, [(1, false)], (139, 134, [1105, 1106, 1107, 86]), (142, 208, [1650, 1651, 1652, 96])),
  (1104, [], (143, 135, [1109, 1110, 1111, 86]), (146, 209, [1654, 1655, 1656, 96]))]
def lw_d (pc : Nat) (i : Instr) (n : Nat) : Bool := decide (decode code pc = .ok (i, n))
def lw_ckA : Nat → List (Nat × Bool) → Bool
  | _, [] => true
  | pc, (j, b) :: as => (lw_d pc (.aload_n 0) 1 && (lw_d (pc + 1) (.iload_n 3) 1 && (lw_d (pc + 2) (.iconst (j : Int)) 1 && (lw_d (pc + 3) .iadd 1 && (lw_d (pc + 4) .iaload 1 && Nat.blt j 6))))) && (bif b then (lw_d (pc + 5) (.ifCond .eq 7) 3 && (lw_d (pc + 8) (.iconst 1) 1 && (lw_d (pc + 9) (.goto 4) 3 && lw_d (pc + 12) (.iconst 0) 1))) && lw_ckA (pc + 13) as else lw_ckA (pc + 5) as)
def lw_lnA : List (Nat × Bool) → Nat
  | [] => 0
  | (_, b) :: as => (bif b then 13 else 5) + lw_lnA as
def lw_ckW (q : Nat × Nat × List Nat) (n : Nat) : Bool := ai_was [.methodLink "CourtProgressLaw" q.1 (ai_y q.2.1), .instanceMethod (ai_y q.2.1), .selects (ai_y q.2.1).cls (ai_y q.2.1) (ai_y q.2.1), .initialized (ai_y q.2.1).cls] q.2.2 && (Nat.blt q.2.1 216 && (decide ((ai_y q.2.1).cls ≠ "java/lang/invoke/MethodHandle") && (decide ((ai_y q.2.1).cls ≠ "java/lang/invoke/VarHandle") && decide ((parseMethodDescriptor (ai_y q.2.1).desc).map (fun d => d.parameters.length) = some n))))
def lw_ck1 (c : lw_C) : Bool := lw_d c.1 (.aload_n 1) 1 && (lw_ckA (c.1 + 1) c.2.1 && (lw_d (c.1 + 1 + lw_lnA c.2.1) (.invokevirtual c.2.2.1.1) 3 && (lw_d (c.1 + 1 + lw_lnA c.2.1 + 3) (.aload_n 2) 1 && (lw_ckA (c.1 + 1 + lw_lnA c.2.1 + 3 + 1) c.2.1 && (lw_d (c.1 + 1 + lw_lnA c.2.1 + 3 + 1 + lw_lnA c.2.1) (.invokevirtual c.2.2.2.1) 3 && (lw_d (c.1 + 1 + lw_lnA c.2.1 + 3 + 1 + lw_lnA c.2.1 + 3) (.if_icmp .eq ((1117 : Int) - ((c.1 + 1 + lw_lnA c.2.1 + 3 + 1 + lw_lnA c.2.1 + 3 : Nat) : Int))) 3 && (lw_ckW c.2.2.1 c.2.1.length && (lw_ckW c.2.2.2 c.2.1.length && (decide ((ai_y c.2.2.1.2.1).cls = "CourtProgress") && decide ((ai_y c.2.2.2.2.1).cls = "CourtProgressModel"))))))))))
theorem lw_ck_1 : ((lw_cs.take 8).all lw_ck1) = true := by decide +kernel
theorem lw_ck_2 : (((lw_cs.drop 8).take 8).all lw_ck1) = true := by decide +kernel
theorem lw_ck_3 : (((lw_cs.drop 16).take 8).all lw_ck1) = true := by decide +kernel
theorem lw_ck_4 : ((lw_cs.drop 24).all lw_ck1) = true := by decide +kernel
theorem lw_ck_all {k : Nat} {c : lw_C} (h : lw_cs[k]? = some c) : lw_ck1 c = true := by
  have hk : k < 31 := (List.getElem?_eq_some_iff.mp h).1
  rcases (show k < 8 ∨ (8 ≤ k ∧ k < 16) ∨ (16 ≤ k ∧ k < 24) ∨ 24 ≤ k by omega) with q | ⟨q, q'⟩ | ⟨q, q'⟩ | q
  · exact List.all_eq_true.mp lw_ck_1 c (List.mem_of_getElem? (i := k) (by rw [List.getElem?_take, if_pos q]; exact h))
  · exact List.all_eq_true.mp lw_ck_2 c (List.mem_of_getElem? (i := k - 8) (by rw [List.getElem?_take, if_pos (by omega), List.getElem?_drop, show 8 + (k - 8) = k by omega]; exact h))
  · exact List.all_eq_true.mp lw_ck_3 c (List.mem_of_getElem? (i := k - 16) (by rw [List.getElem?_take, if_pos (by omega), List.getElem?_drop, show 16 + (k - 16) = k by omega]; exact h))
  · exact List.all_eq_true.mp lw_ck_4 c (List.mem_of_getElem? (i := k - 24) (by rw [List.getElem?_drop, show 24 + (k - 24) = k by omega]; exact h))
theorem lw_dd {pc n : Nat} {i : Instr} (h : lw_d pc i n = true) : decode code pc = .ok (i, n) := of_decide_eq_true h
