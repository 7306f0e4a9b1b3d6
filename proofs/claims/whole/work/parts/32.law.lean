/-! the law: its cases, its loop -/
abbrev lw_C : Type := Nat × List (Nat × Bool) × (Nat × Nat × List Nat) × (Nat × Nat × List Nat)
/-- a case: its place, its arguments (place in the script, made a boolean or not), the two calls: entry, method, places of the words -/
def lw_cs : List lw_C := [(172, [(1, false), (2, false), (3, false)], (13, 105, [467, 468, 469, 84]), (17, 153, [1373, 1374, 1375, 94])),
  (215, [(1, false), (2, false), (3, true)], (18, 106, [486, 487, 488, 84]), (22, 154, [1388, 1389, 1390, 94])),
  (274, [(1, false), (2, false), (3, false)], (23, 107, [507, 508, 509, 84]), (26, 155, [1404, 1405, 1406, 94])),
  (317, [(1, false), (2, false), (3, false), (4, false)], (27, 108, [516, 517, 518, 84]), (31, 156, [1409, 1410, 1411, 94])),
  (370, [(1, false), (2, false), (3, false)], (32, 109, [529, 530, 531, 84]), (36, 157, [1417, 1418, 1419, 94])),
  (413, [(1, false), (2, false), (3, false)], (37, 110, [537, 538, 539, 84]), (40, 158, [1421, 1422, 1423, 94])),
  (456, [(1, false), (2, false)], (41, 111, [551, 552, 553, 84]), (45, 159, [1425, 1426, 1427, 94])),
  (489, [(1, false), (2, false), (3, false)], (46, 112, [568, 569, 570, 84]), (49, 160, [1432, 1433, 1434, 94])),
  (532, [(1, false), (2, false), (3, false), (4, false), (5, false)], (50, 113, [573, 574, 575, 84]), (54, 173, [1437, 1438, 1439, 94])),
  (595, [(1, false), (2, false)], (55, 114, [585, 586, 587, 84]), (59, 174, [1441, 1442, 1443, 94])),
  (628, [], (60, 115, [766, 767, 768, 84]), (64, 175, [1503, 1504, 1505, 94])),
  (641, [], (65, 116, [770, 771, 772, 84]), (68, 176, [1507, 1508, 1509, 94])),
  (654, [(1, false)], (69, 117, [782, 783, 784, 84]), (73, 178, [1511, 1512, 1513, 94])),
  (677, [(1, false), (2, false), (3, true)], (74, 118, [790, 791, 792, 84]), (78, 181, [1519, 1520, 1521, 94])),
  (736, [(1, false)], (79, 119, [829, 830, 831, 84]), (82, 183, [1532, 1533, 1534, 94])),
  (759, [(1, false)], (83, 120, [841, 842, 843, 84]), (86, 188, [1541, 1542, 1543, 94])),
  (782, [(1, false)], (87, 121, [936, 937, 938, 84]), (90, 189, [1563, 1564, 1565, 94])),
  (805, [(1, false)], (91, 122, [940, 941, 942, 84]), (94, 190, [1567, 1568, 1569, 94])),
  (828, [(1, false)], (95, 123, [948, 949, 950, 84]), (98, 196, [1571, 1572, 1573, 94])),
  (851, [(1, false)], (99, 124, [1017, 1018, 1019, 84]), (102, 197, [1595, 1596, 1597, 94])),
  (874, [], (103, 125, [1025, 1026, 1027, 84]), (106, 198, [1599, 1600, 1601, 94])),
  (887, [(1, false)], (107, 126, [1030, 1031, 1032, 84]), (110, 199, [1603, 1604, 1605, 94])),
  (910, [(1, false), (2, false)], (111, 127, [1041, 1042, 1043, 84]), (114, 200, [1607, 1608, 1609, 94])),
  (943, [(1, false)], (115, 128, [1049, 1050, 1051, 84]), (118, 201, [1611, 1612, 1613, 94])),
  (966, [(1, false)], (119, 129, [1057, 1058, 1059, 84]), (122, 202, [1615, 1616, 1617, 94])),
  (989, [(1, false)], (123, 130, [1061, 1062, 1063, 84]), (126, 203, [1619, 1620, 1621, 94])),
  (1012, [(1, false)], (127, 131, [1069, 1070, 1071, 84]), (130, 205, [1623, 1624, 1625, 94])),
  (1035, [(1, false)], (131, 132, [1078, 1079, 1080, 84]), (134, 206, [1631, 1632, 1633, 94])),
  (1058, [(1, false)], (135, 133, [1086, 1087, 1088, 84]), (138, 207, [1635, 1636, 1637, 94])),
  (1081, [(1, false)], (139, 134, [1094, 1095, 1096, 84]), (142, 208, [1639, 1640, 1641, 94])),
  (1104, [], (143, 135, [1098, 1099, 1100, 84]), (146, 209, [1643, 1644, 1645, 94]))]
def lw_d (pc : Nat) (i : Instr) (n : Nat) : Bool := decide (decode code pc = .ok (i, n))
def lw_ckA : Nat → List (Nat × Bool) → Bool
  | _, [] => true
  | pc, (j, b) :: as => (lw_d pc (.aload_n 0) 1 && (lw_d (pc + 1) (.iload_n 3) 1 && (lw_d (pc + 2) (.iconst (j : Int)) 1 && (lw_d (pc + 3) .iadd 1 && (lw_d (pc + 4) .iaload 1 && Nat.blt j 6))))) && (bif b then (lw_d (pc + 5) (.ifCond .eq 7) 3 && (lw_d (pc + 8) (.iconst 1) 1 && (lw_d (pc + 9) (.goto 4) 3 && lw_d (pc + 12) (.iconst 0) 1))) && lw_ckA (pc + 13) as else lw_ckA (pc + 5) as)
def lw_lnA : List (Nat × Bool) → Nat
  | [] => 0
  | (_, b) :: as => (bif b then 13 else 5) + lw_lnA as
def lw_ckW (q : Nat × Nat × List Nat) (n : Nat) : Bool := ai_was [.methodLink "CourtProgressLaw" q.1 (ai_y q.2.1), .instanceMethod (ai_y q.2.1), .selects (ai_y q.2.1).cls (ai_y q.2.1) (ai_y q.2.1), .initialized (ai_y q.2.1).cls] q.2.2 && (Nat.blt q.2.1 214 && (decide ((ai_y q.2.1).cls ≠ "java/lang/invoke/MethodHandle") && (decide ((ai_y q.2.1).cls ≠ "java/lang/invoke/VarHandle") && decide ((parseMethodDescriptor (ai_y q.2.1).desc).map (fun d => d.parameters.length) = some n))))
def lw_ck1 (c : lw_C) : Bool := lw_d c.1 (.aload_n 1) 1 && (lw_ckA (c.1 + 1) c.2.1 && (lw_d (c.1 + 1 + lw_lnA c.2.1) (.invokevirtual c.2.2.1.1) 3 && (lw_d (c.1 + 1 + lw_lnA c.2.1 + 3) (.aload_n 2) 1 && (lw_ckA (c.1 + 1 + lw_lnA c.2.1 + 3 + 1) c.2.1 && (lw_d (c.1 + 1 + lw_lnA c.2.1 + 3 + 1 + lw_lnA c.2.1) (.invokevirtual c.2.2.2.1) 3 && (lw_d (c.1 + 1 + lw_lnA c.2.1 + 3 + 1 + lw_lnA c.2.1 + 3) (.if_icmp .eq ((1117 : Int) - ((c.1 + 1 + lw_lnA c.2.1 + 3 + 1 + lw_lnA c.2.1 + 3 : Nat) : Int))) 3 && (lw_ckW c.2.2.1 c.2.1.length && (lw_ckW c.2.2.2 c.2.1.length && (decide ((ai_y c.2.2.1.2.1).cls = "CourtProgress") && decide ((ai_y c.2.2.2.2.1).cls = "CourtProgressModel"))))))))))
theorem lw_ck_1 : ((lw_cs.take 8).all lw_ck1) = true := by decide +kernel
theorem lw_ck_2 : (((lw_cs.drop 8).take 8).all lw_ck1) = true := by decide +kernel
theorem lw_ck_3 : (((lw_cs.drop 16).take 8).all lw_ck1) = true := by decide +kernel
theorem lw_ck_4 : ((lw_cs.drop 24).all lw_ck1) = true := by decide +kernel
theorem lw_ck_all {k : Nat} {c : lw_C} (h : lw_cs[k]? = some c) : lw_ck1 c = true := by
  have hk : k < 31 := (List.getElem?_eq_some_iff.mp h).1
  rcases (show k < 8 ∨ (8 ≤ k ∧ k < 16) ∨ (16 ≤ k ∧ k < 24) ∨ 24 ≤ k by omega) with q | ⟨q, q'⟩ | ⟨q, q'⟩ | q
  · exact List.all_eq_true.mp lw_ck_1 c (List.mem_of_getElem? (i := k) (by rw [List.getElem?_take, if_pos q]; exact h))
  · exact List.all_eq_true.mp lw_ck_2 c (List.mem_of_getElem? (i := k - 8) (by rw [List.getElem?_take, if_pos (by omega), List.getElem?_drop, show 8 + (k - 8) = k by omega]; exact h))
  · exact List.all_eq_true.mp lw_ck_3 c (List.mem_of_getElem? (i := k - 16) (by rw [List.getElem?_take, if_pos (by omega), List.getElem?_drop, show 16 + (k - 16) = k by omega]; exact h))
  · exact List.all_eq_true.mp lw_ck_4 c (List.mem_of_getElem? (i := k - 24) (by rw [List.getElem?_drop, show 24 + (k - 24) = k by omega]; exact h))
theorem lw_dd {pc n : Nat} {i : Instr} (h : lw_d pc i n = true) : decode code pc = .ok (i, n) := of_decide_eq_true h
